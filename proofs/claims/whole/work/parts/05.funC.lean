def bn (e : Int32) (f : Int32 → Re) : Re := f e
theorem bn_some {e : Int32} {f : Int32 → Re} {o : Int32 × Wo} (h : bn e f = some o) : ∃ x : Int32, e = x ∧ f x = some o := ⟨e, rfl, h⟩
noncomputable def fJ7_fill_53178_6_5 (k20 : Wo → Re) : Nat → Int32 → Int32 → Int32 → Wo → Re
  | 0, _, _, _, _ => none
  | n + 1, x1, x2, x3, u => (if x3 ≤ x2 then k20 u else gi (inb x2 618) (bw (wr u 6 (x2).toNatClampNeg x1) (fun u3 => fJ7_fill_53178_6_5 k20 n x1 (x2 + (1 : Int32)) x3 u3)))
noncomputable def fJ7_fill_53178_6_20 (u : Wo) : Re := some ((0 : Int32), u)
noncomputable def fJ7_fill_53178_6 (x1 : Int32) (u : Wo) : Re := fJ7_fill_53178_6_5 fJ7_fill_53178_6_20 FU x1 (0 : Int32) (618 : Int32) u
noncomputable def fX3_put_20 (u : Wo) : Re := some ((0 : Int32), u)
noncomputable def fX3_put (x1 x2 : Int32) (u : Wo) : Re := (if x1 < (0 : Int32) then fX3_put_20 u else (if (618 : Int32) ≤ x1 then fX3_put_20 u else gi (inb x1 618) (bw (wr u 6 (x1).toNatClampNeg x2) (fun u4 => fX3_put_20 u4))))
noncomputable def fX3_set (x1 x2 x3 : Int32) (u : Wo) : Re := bd (fX3_put (x2 + x1) x3 u) (fun r2 u3 => some ((0 : Int32), u3))
noncomputable def fX3_startAnew_20 (k66 : Wo → Re) : Nat → Int32 → Wo → Re
  | 0, _, _ => none
  | n + 1, x3, u => (if (u 1 2) ≤ x3 then k66 u else (if (u 1 1) = (2 : Int32) then bd (fX3_set x3 (80 : Int32) ((x3 - (1 : Int32)) / (2 : Int32)) u) (fun r9 u10 => bd (fX3_set x3 (86 : Int32) ((x3 - (1 : Int32)) / (2 : Int32)) u10) (fun r12 u13 => fX3_startAnew_20 k66 n (x3 + (1 : Int32)) u13)) else k66 u))
noncomputable def fX3_startAnew_66 (u : Wo) : Re := some ((0 : Int32), u)
noncomputable def fX3_startAnew (x1 x2 : Int32) (u : Wo) : Re := bw (wr u 1 1 x1) (fun u1 => bw (wr u1 1 2 x2) (fun u2 => bd (fJ7_fill_53178_6 (0 : Int32) u2) (fun r4 u5 => fX3_startAnew_20 fX3_startAnew_66 FU (1 : Int32) u5)))
noncomputable def fX1_forget (u : Wo) : Re := bw (wr u 4 3 (0 : Int32)) (fun u1 => some ((0 : Int32), u1))
noncomputable def fX5_begin_20 (u : Wo) : Re := some ((-1 : Int32), u)
noncomputable def fX5_begin (x1 x2 : Int32) (u : Wo) : Re := (if x1 < (0 : Int32) then fX5_begin_20 u else (if (2 : Int32) < x1 then fX5_begin_20 u else (if x2 < (2 : Int32) then fX5_begin_20 u else (if x2 ≤ (6 : Int32) then (if (u 0 5) < (10 : Int32) then bw (wr u 0 5 ((u 0 5) + (1 : Int32))) (fun u6 => bw (wr u6 0 6 (0 : Int32)) (fun u7 => bw (wr u7 0 7 (0 : Int32)) (fun u8 => bd (fX1_forget u8) (fun r10 u11 => bd (fX3_startAnew x1 x2 u11) (fun r13 u14 => some (x2, u14)))))) else some ((-3 : Int32), u)) else fX5_begin_20 u))))
noncomputable def fX3_get_23 (s0 : Int32) (u : Wo) : Re := some (s0, u)
noncomputable def fX3_get_22 (u : Wo) : Re := fX3_get_23 (0 : Int32) u
noncomputable def fX3_get (x1 : Int32) (u : Wo) : Re := (if x1 < (0 : Int32) then fX3_get_22 u else (if (618 : Int32) ≤ x1 then fX3_get_22 u else gi (inb x1 618) (fX3_get_23 (u 6 (x1).toNatClampNeg) u)))
noncomputable def fX3_of (x1 x2 : Int32) (u : Wo) : Re := bd (fX3_get (x2 + x1) u) (fun r2 u3 => some (r2, u3))
noncomputable def fX5_parent_25 (u : Wo) : Re := some ((-1 : Int32), u)
noncomputable def fX5_parent_45 (u : Wo) : Re := some ((-2 : Int32), u)
noncomputable def fX5_parent (x1 x2 : Int32) (u : Wo) : Re := (if x1 < (1 : Int32) then fX5_parent_25 u else (if (u 1 2) ≤ x1 then fX5_parent_25 u else (if x2 < (0 : Int32) then fX5_parent_25 u else (if x2 < x1 then (if (u 1 1) = (2 : Int32) then (if (u 0 7) = (0 : Int32) then bd (fX3_of x1 (80 : Int32) u) (fun r8 u9 => bd (fX3_set x1 (80 : Int32) x2 u9) (fun r11 u12 => bd (fX3_set x1 (86 : Int32) x2 u12) (fun r14 u15 => some (r8, u15)))) else fX5_parent_45 u) else fX5_parent_45 u) else fX5_parent_25 u))))
noncomputable def fX3_isKeeper_17 (s0 : Int32) (u : Wo) : Re := gi (zb s0) (some (s0, u))
noncomputable def fX3_isKeeper_16 (u : Wo) : Re := fX3_isKeeper_17 (0 : Int32) u
noncomputable def fX3_isKeeper (x1 : Int32) (u : Wo) : Re := (if x1 < (0 : Int32) then fX3_isKeeper_16 u else (if (u 1 2) ≤ x1 then fX3_isKeeper_16 u else fX3_isKeeper_17 (1 : Int32) u))
noncomputable def fX3_copyTo_8_36 (u : Wo) : Re := some ((0 : Int32), u)
noncomputable def fX3_copyTo_8 (x2 x3 : Int32) (u : Wo) : Re := (if x2 < (0 : Int32) then fX3_copyTo_8_36 u else (if x3 < (0 : Int32) then fX3_copyTo_8_36 u else (if (618 : Int32) < x3 then fX3_copyTo_8_36 u else (if ((19158 : Int32) - x3) < x2 then fX3_copyTo_8_36 u else gi (cpo (0 : Int32) x2 x3 618 19158) (bw (wcp u 6 ((0 : Int32)).toNatClampNeg 8 (x2).toNatClampNeg (x3).toNatClampNeg) (fun u6 => fX3_copyTo_8_36 u6))))))
noncomputable def fX1_mark (u : Wo) : Re := bd (fX3_copyTo_8 ((u 4 2) * (618 : Int32)) (618 : Int32) u) (fun r2 u3 => some ((0 : Int32), u3))
noncomputable def fX3_queueOf (x0 : Int32) (u : Wo) : Re := some (((98 : Int32) + (x0 * (7 : Int32))), u)
noncomputable def fX3_append_15 (u : Wo) : Re := some ((0 : Int32), u)
noncomputable def fX3_append_36 (u : Wo) : Re := some ((0 : Int32), u)
noncomputable def fX3_append (x1 x2 x3 : Int32) (u : Wo) : Re := (if x1 < (0 : Int32) then fX3_append_15 u else (if (x1 + x2) < (618 : Int32) then gi (inb x1 618) ((if (u 6 (x1).toNatClampNeg) < (0 : Int32) then fX3_append_36 u else (if (u 6 (x1).toNatClampNeg) < x2 then gi (inb ((x1 + (1 : Int32)) + (u 6 (x1).toNatClampNeg)) 618) (bw (wr u 6 (((x1 + (1 : Int32)) + (u 6 (x1).toNatClampNeg))).toNatClampNeg x3) (fun u7 => gi (inb x1 618) (bw (wr u7 6 (x1).toNatClampNeg ((u 6 (x1).toNatClampNeg) + (1 : Int32))) (fun u9 => some ((1 : Int32), u9))))) else fX3_append_36 u))) else fX3_append_15 u))
noncomputable def fX4_queue (x1 x2 : Int32) (u : Wo) : Re := bd (fX3_queueOf x1 u) (fun r2 u3 => bd (fX3_append r2 (6 : Int32) x2 u3) (fun r5 u6 => some ((0 : Int32), u6)))
noncomputable def fX3_hasToken_42 (s0 : Int32) (u : Wo) : Re := gi (zb s0) (some (s0, u))
noncomputable def fX3_hasToken_41 (u : Wo) : Re := fX3_hasToken_42 (0 : Int32) u
noncomputable def fX3_hasToken_37 (u : Wo) : Re := fX3_hasToken_42 (1 : Int32) u
noncomputable def fX3_hasToken_18 (x1 : Int32) (u : Wo) : Re := (if (u 1 1) = (2 : Int32) then bd (fX3_of x1 (86 : Int32) u) (fun r5 u6 => (if r5 = x1 then fX3_hasToken_37 u6 else fX3_hasToken_41 u6)) else fX3_hasToken_41 u)
noncomputable def fX3_hasToken (x1 : Int32) (u : Wo) : Re := (if (u 1 1) = (1 : Int32) then bd (fX3_get (30 : Int32) u) (fun r9 u10 => (if r9 = x1 then fX3_hasToken_37 u10 else fX3_hasToken_18 x1 u10)) else fX3_hasToken_18 x1 u)
noncomputable def fX3_lettersOf (x0 x1 : Int32) (u : Wo) : Re := some (((140 : Int32) + (((x0 * (6 : Int32)) + x1) * (13 : Int32))), u)
noncomputable def fX3_send_25 (x3 : Int32) (u : Wo) : Re := bd (fX3_get ((608 : Int32) + x3) u) (fun r9 u10 => bd (fX3_put ((608 : Int32) + x3) (r9 + (1 : Int32)) u10) (fun r12 u13 => some ((0 : Int32), u13)))
noncomputable def fX3_send (x1 x2 x3 x4 : Int32) (u : Wo) : Re := bd (fX3_lettersOf x1 x2 u) (fun r2 u3 => bd (fX3_append r2 (12 : Int32) ((x4 <<< ((2 : Int32) &&& (31 : Int32))) ||| x3) u3) (fun r5 u6 => (if r5 = (0 : Int32) then bw (wr u6 1 3 (1 : Int32)) (fun u14 => fX3_send_25 x3 u14) else fX3_send_25 x3 u6)))
noncomputable def fX3_takeFirst_25 (x4 : Int32) (u : Wo) : Re := some (x4, u)
noncomputable def fX3_takeFirst_31 (k61 : Int32 → Int32 → Int32 → Wo → Re) : Nat → Int32 → Int32 → Int32 → Int32 → Wo → Re
  | 0, _, _, _, _, _ => none
  | n + 1, x1, x3, x4, x5, u => (if x3 ≤ x5 then k61 x1 x3 x4 u else bd (fX3_get ((x1 + x5) + (1 : Int32)) u) (fun r11 u12 => bd (fX3_put (x1 + x5) r11 u12) (fun r14 u15 => fX3_takeFirst_31 k61 n x1 x3 x4 (x5 + (1 : Int32)) u15)))
noncomputable def fX3_takeFirst_61 (x1 : Int32) (x3 : Int32) (x4 : Int32) (u : Wo) : Re := bd (fX3_put (x1 + x3) (0 : Int32) u) (fun r17 u18 => bd (fX3_put x1 (x3 - (1 : Int32)) u18) (fun r20 u21 => some (x4, u21)))
noncomputable def fX3_takeFirst (x1 x2 : Int32) (u : Wo) : Re := bd (fX3_get x1 u) (fun r2 u3 => bd (fX3_get (x1 + (1 : Int32)) u3) (fun r5 u6 => (if r2 < (1 : Int32) then fX3_takeFirst_25 r5 u6 else (if r2 ≤ x2 then fX3_takeFirst_31 fX3_takeFirst_61 FU x1 r2 r5 (1 : Int32) u6 else fX3_takeFirst_25 r5 u6))))
noncomputable def fX3_sentInAll (u : Wo) : Re := bd (fX3_get (608 : Int32) u) (fun r2 u3 => bd (fX3_get (609 : Int32) u3) (fun r5 u6 => bd (fX3_get (610 : Int32) u6) (fun r8 u9 => some (((r2 + r5) + r8), u9))))
noncomputable def fX0_write_54 (u : Wo) : Re := some ((0 : Int32), u)
noncomputable def fX0_write (x1 x2 x3 x4 : Int32) (u : Wo) : Re := bn ((x1 - x1 / (90 : Int32) * (90 : Int32)) * (3 : Int32)) (fun y1 => (if y1 < (0 : Int32) then fX0_write_54 u else (if (270 : Int32) ≤ (y1 + (2 : Int32)) then fX0_write_54 u else gi (inb y1 270) (bw (wr u 7 (y1).toNatClampNeg x2) (fun u5 => gi (inb (y1 + (1 : Int32)) 270) (bw (wr u5 7 ((y1 + (1 : Int32))).toNatClampNeg x3) (fun u7 => gi (inb (y1 + (2 : Int32)) 270) (bw (wr u7 7 ((y1 + (2 : Int32))).toNatClampNeg x4) (fun u9 => fX0_write_54 u9)))))))))
noncomputable def fX4_enter_71 (u : Wo) : Re := some ((0 : Int32), u)
noncomputable def fX4_enter (x1 : Int32) (u : Wo) : Re := bd (fX3_set x1 (0 : Int32) (2 : Int32) u) (fun r2 u3 => (if (u3 3 2) = (0 : Int32) then fX4_enter_71 u3 else bd (fX3_get (611 : Int32) u3) (fun r6 u7 => bd (fX3_get ((612 : Int32) + x1) u7) (fun r9 u10 => bd (fX3_sentInAll u10) (fun r12 u13 => bd (fX0_write r6 x1 (r6 - r9) r12 u13) (fun r15 u16 => bd (fX3_put (611 : Int32) (r6 + (1 : Int32)) u16) (fun r18 u19 => fX4_enter_71 u19)))))))
noncomputable def fX4_followRules_187 (u : Wo) : Re := some ((0 : Int32), u)
noncomputable def fX4_followRules_126 (x1 : Int32) (s0 : Int32) (u : Wo) : Re := bd (fX3_hasToken x1 u) (fun r14 u15 => (if r14 = (0 : Int32) then bd (fX3_queueOf x1 u15) (fun r18 u19 => bd (fX3_get r18 u19) (fun r21 u22 => (if r21 ≤ (0 : Int32) then fX4_followRules_187 u22 else (if s0 = (0 : Int32) then bd (fX3_of x1 (86 : Int32) u22) (fun r26 u27 => bd (fX3_send x1 r26 (0 : Int32) (0 : Int32) u27) (fun r29 u30 => bd (fX3_set x1 (92 : Int32) (1 : Int32) u30) (fun r32 u33 => fX4_followRules_187 u33))) else fX4_followRules_187 u22)))) else fX4_followRules_187 u15))
noncomputable def fX4_followRules_108 (x1 : Int32) (u : Wo) : Re := bd (fX3_of x1 (92 : Int32) u) (fun r10 u11 => (if r10 = (0 : Int32) then fX4_followRules_126 x1 (0 : Int32) u11 else fX4_followRules_126 x1 (1 : Int32) u11))
noncomputable def fX4_followRules_18 (x1 : Int32) (s0 : Int32) (u : Wo) : Re := bd (fX3_hasToken x1 u) (fun r6 u7 => (if r6 = (0 : Int32) then fX4_followRules_108 x1 u7 else (if s0 = (0 : Int32) then bd (fX3_queueOf x1 u7) (fun r36 u37 => bd (fX3_get r36 u37) (fun r39 u40 => (if r39 ≤ (0 : Int32) then fX4_followRules_108 x1 u40 else bd (fX3_queueOf x1 u40) (fun r43 u44 => bd (fX3_takeFirst r43 (6 : Int32) u44) (fun r46 u47 => bd (fX3_set x1 (86 : Int32) r46 u47) (fun r49 u50 => bd (fX3_set x1 (92 : Int32) (0 : Int32) u50) (fun r52 u53 => (if r46 = x1 then bd (fX4_enter x1 u53) (fun r59 u60 => fX4_followRules_108 x1 u60) else bd (fX3_send x1 r46 (2 : Int32) (0 : Int32) u53) (fun r56 u57 => fX4_followRules_108 x1 u57))))))))) else fX4_followRules_108 x1 u7)))
noncomputable def fX4_followRules (x1 : Int32) (u : Wo) : Re := bd (fX3_of x1 (0 : Int32) u) (fun r2 u3 => (if r2 = (2 : Int32) then fX4_followRules_18 x1 (1 : Int32) u3 else fX4_followRules_18 x1 (0 : Int32) u3))
noncomputable def fX3_known (x1 x2 : Int32) (u : Wo) : Re := bd (fX3_get (((44 : Int32) + (x1 * (6 : Int32))) + x2) u) (fun r2 u3 => some (r2, u3))
noncomputable def fX3_setKnown (x1 x2 x3 : Int32) (u : Wo) : Re := bd (fX3_put (((44 : Int32) + (x1 * (6 : Int32))) + x2) x3 u) (fun r2 u3 => some ((0 : Int32), u3))
noncomputable def fX3_sendToOthers_27 (k3 : Int32 → Int32 → Int32 → Int32 → Wo → Re) (x1 : Int32) (x2 : Int32) (x3 : Int32) (x4 : Int32) (u : Wo) : Re := k3 x1 x2 x3 (x4 + (1 : Int32)) u
noncomputable def fX3_sendToOthers_3 (k33 : Wo → Re) : Nat → Int32 → Int32 → Int32 → Int32 → Wo → Re
  | 0, _, _, _, _, _ => none
  | n + 1, x1, x2, x3, x4, u => (if (u 1 2) ≤ x4 then k33 u else (if x4 = x1 then fX3_sendToOthers_27 (fX3_sendToOthers_3 k33 n) x1 x2 x3 x4 u else bd (fX3_send x1 x4 x2 x3 u) (fun r4 u5 => fX3_sendToOthers_27 (fX3_sendToOthers_3 k33 n) x1 x2 x3 x4 u5)))
noncomputable def fX3_sendToOthers_33 (u : Wo) : Re := some ((0 : Int32), u)
noncomputable def fX3_sendToOthers (x1 x2 x3 : Int32) (u : Wo) : Re := fX3_sendToOthers_3 fX3_sendToOthers_33 FU x1 x2 x3 (0 : Int32) u
noncomputable def fX4_wantedByToken (x1 : Int32) (u : Wo) : Re := bd (fX3_hasToken x1 u) (fun r2 u3 => (if r2 = (0 : Int32) then bd (fX3_known x1 x1 u3) (fun r6 u7 => bd (fX3_setKnown x1 x1 (r6 + (1 : Int32)) u7) (fun r9 u10 => bd (fX3_sendToOthers x1 (0 : Int32) (r6 + (1 : Int32)) u10) (fun r12 u13 => some ((0 : Int32), u13)))) else bd (fX4_enter x1 u3) (fun r15 u16 => some ((0 : Int32), u16))))
noncomputable def fX4_wantedByAsking (x1 : Int32) (u : Wo) : Re := bd (fX3_of x1 (6 : Int32) u) (fun r2 u3 => bd (fX3_set x1 (6 : Int32) (r2 + (1 : Int32)) u3) (fun r5 u6 => bd (fX3_set x1 (12 : Int32) (r2 + (1 : Int32)) u6) (fun r8 u9 => bd (fX3_set x1 (18 : Int32) (0 : Int32) u9) (fun r11 u12 => bd (fX3_sendToOthers x1 (0 : Int32) (r2 + (1 : Int32)) u12) (fun r14 u15 => some ((0 : Int32), u15))))))
noncomputable def fX4_wanted_88 (u : Wo) : Re := some ((0 : Int32), u)
noncomputable def fX4_wanted (x1 : Int32) (u : Wo) : Re := bw (wr u 1 3 (0 : Int32)) (fun u1 => bd (fX3_set x1 (0 : Int32) (1 : Int32) u1) (fun r3 u4 => bd (fX3_get (611 : Int32) u4) (fun r6 u7 => bd (fX3_put ((612 : Int32) + x1) r6 u7) (fun r9 u10 => (if (u10 1 1) = (0 : Int32) then bd (fX4_wantedByAsking x1 u10) (fun r23 u24 => fX4_wanted_88 u24) else (if (u10 1 1) = (1 : Int32) then bd (fX4_wantedByToken x1 u10) (fun r20 u21 => fX4_wanted_88 u21) else bd (fX4_queue x1 x1 u10) (fun r14 u15 => bd (fX4_followRules x1 u15) (fun r17 u18 => fX4_wanted_88 u18))))))))
noncomputable def fX1_keepMark (u : Wo) : Re := bw (wr u 4 2 (((u 4 2) + (1 : Int32)) - ((u 4 2) + (1 : Int32)) / (31 : Int32) * (31 : Int32))) (fun u1 => bw (wr u1 4 3 (if (30 : Int32) < ((u1 4 3) + (1 : Int32)) then (30 : Int32) else ((u1 4 3) + (1 : Int32)))) (fun u2 => some ((0 : Int32), u2)))
noncomputable def fX3_copyFrom_8_36 (u : Wo) : Re := some ((0 : Int32), u)
noncomputable def fX3_copyFrom_8 (x2 x3 : Int32) (u : Wo) : Re := (if x2 < (0 : Int32) then fX3_copyFrom_8_36 u else (if x3 < (0 : Int32) then fX3_copyFrom_8_36 u else (if (618 : Int32) < x3 then fX3_copyFrom_8_36 u else (if ((19158 : Int32) - x3) < x2 then fX3_copyFrom_8_36 u else gi (cpo x2 (0 : Int32) x3 19158 618) (bw (wcp u 8 (x2).toNatClampNeg 6 ((0 : Int32)).toNatClampNeg (x3).toNatClampNeg) (fun u6 => fX3_copyFrom_8_36 u6))))))
noncomputable def fX1_backToMark (u : Wo) : Re := bd (fX3_copyFrom_8 ((u 4 2) * (618 : Int32)) (618 : Int32) u) (fun r2 u3 => some ((0 : Int32), u3))
noncomputable def fX5_settled (u : Wo) : Re := (if (u 1 3) = (0 : Int32) then bd (fX1_keepMark u) (fun r3 u4 => bw (wr u4 0 7 (1 : Int32)) (fun u5 => some ((1 : Int32), u5))) else bd (fX1_backToMark u) (fun r7 u8 => some ((0 : Int32), u8)))
noncomputable def fX5_want_71 (s0 : Int32) (u : Wo) : Re := some (s0, u)
noncomputable def fX5_want (x1 : Int32) (u : Wo) : Re := bd (fX3_isKeeper x1 u) (fun r2 u3 => (if r2 = (0 : Int32) then some ((-1 : Int32), u3) else bd (fX3_of x1 (0 : Int32) u3) (fun r6 u7 => (if r6 = (0 : Int32) then bd (fX1_mark u7) (fun r10 u11 => bd (fX4_wanted x1 u11) (fun r13 u14 => bd (fX5_settled u14) (fun r16 u17 => (if r16 = (0 : Int32) then some ((-3 : Int32), u17) else bd (fX3_of x1 (0 : Int32) u17) (fun r20 u21 => (if r20 = (2 : Int32) then fX5_want_71 (1 : Int32) u21 else fX5_want_71 (0 : Int32) u21)))))) else some ((-2 : Int32), u7)))))
noncomputable def fX3_rowHas_9 (k40 : Wo → Re) : Nat → Int32 → Int32 → Int32 → Wo → Re
  | 0, _, _, _, _ => none
  | n + 1, x1, x2, x3, u => (if x2 ≤ x3 then k40 u else (if (6 : Int32) ≤ x3 then k40 u else bd (fX3_get ((38 : Int32) + x3) u) (fun r7 u8 => (if r7 = x1 then some ((1 : Int32), u8) else fX3_rowHas_9 k40 n x1 x2 (x3 + (1 : Int32)) u8))))
noncomputable def fX3_rowHas_40 (u : Wo) : Re := some ((0 : Int32), u)
noncomputable def fX3_rowHas (x1 : Int32) (u : Wo) : Re := bd (fX3_get (37 : Int32) u) (fun r2 u3 => fX3_rowHas_9 fX3_rowHas_40 FU x1 r2 (0 : Int32) u3)
noncomputable def fX4_isDue_30 (s0 : Int32) (u : Wo) : Re := gi (zb s0) (some (s0, u))
noncomputable def fX4_isDue (x1 x2 : Int32) (u : Wo) : Re := bd (fX3_known x1 x2 u) (fun r2 u3 => bd (fX3_get ((31 : Int32) + x2) u3) (fun r5 u6 => (if r2 = (r5 + (1 : Int32)) then fX4_isDue_30 (1 : Int32) u6 else fX4_isDue_30 (0 : Int32) u6)))
noncomputable def fX4_passToken (x1 x2 : Int32) (u : Wo) : Re := bd (fX3_put (30 : Int32) (-1 : Int32) u) (fun r2 u3 => bd (fX3_send x1 x2 (2 : Int32) (0 : Int32) u3) (fun r5 u6 => some ((0 : Int32), u6)))
noncomputable def fX4_leftByToken_66 (k22 : Int32 → Int32 → Wo → Re) (x1 : Int32) (x2 : Int32) (u : Wo) : Re := k22 x1 (x2 + (1 : Int32)) u
noncomputable def fX4_leftByToken_22 (k72 : Int32 → Wo → Re) : Nat → Int32 → Int32 → Wo → Re
  | 0, _, _, _ => none
  | n + 1, x1, x2, u => (if (u 1 2) ≤ x2 then k72 x1 u else bd (fX3_rowHas x2 u) (fun r9 u10 => (if r9 = (0 : Int32) then bd (fX4_isDue x1 x2 u10) (fun r13 u14 => (if r13 = (0 : Int32) then fX4_leftByToken_66 (fX4_leftByToken_22 k72 n) x1 x2 u14 else bd (fX3_append (37 : Int32) (6 : Int32) x2 u14) (fun r17 u18 => fX4_leftByToken_66 (fX4_leftByToken_22 k72 n) x1 x2 u18))) else fX4_leftByToken_66 (fX4_leftByToken_22 k72 n) x1 x2 u10)))
noncomputable def fX4_leftByToken_100 (u : Wo) : Re := some ((0 : Int32), u)
noncomputable def fX4_leftByToken_72 (x1 : Int32) (u : Wo) : Re := bd (fX3_get (37 : Int32) u) (fun r20 u21 => (if r20 ≤ (0 : Int32) then fX4_leftByToken_100 u21 else bd (fX3_takeFirst (37 : Int32) (6 : Int32) u21) (fun r24 u25 => bd (fX4_passToken x1 r24 u25) (fun r27 u28 => fX4_leftByToken_100 u28))))
noncomputable def fX4_leftByToken (x1 : Int32) (u : Wo) : Re := bd (fX3_known x1 x1 u) (fun r2 u3 => bd (fX3_put ((31 : Int32) + x1) r2 u3) (fun r5 u6 => fX4_leftByToken_22 fX4_leftByToken_72 FU x1 (0 : Int32) u6))
noncomputable def fX4_leftByAsking_43 (k13 : Int32 → Int32 → Int32 → Wo → Re) (x1 : Int32) (x2 : Int32) (x3 : Int32) (u : Wo) : Re := k13 x1 x2 (x3 + (1 : Int32)) u
noncomputable def fX4_leftByAsking_13 (k49 : Int32 → Wo → Re) : Nat → Int32 → Int32 → Int32 → Wo → Re
  | 0, _, _, _, _ => none
  | n + 1, x1, x2, x3, u => (if (u 1 2) ≤ x3 then k49 x1 u else (if ((x2 >>> (x3 &&& (31 : Int32))) &&& (1 : Int32)) = (0 : Int32) then fX4_leftByAsking_43 (fX4_leftByAsking_13 k49 n) x1 x2 x3 u else bd (fX3_send x1 x3 (1 : Int32) (0 : Int32) u) (fun r7 u8 => fX4_leftByAsking_43 (fX4_leftByAsking_13 k49 n) x1 x2 x3 u8)))
noncomputable def fX4_leftByAsking_49 (x1 : Int32) (u : Wo) : Re := bd (fX3_set x1 (24 : Int32) (0 : Int32) u) (fun r10 u11 => some ((0 : Int32), u11))
noncomputable def fX4_leftByAsking (x1 : Int32) (u : Wo) : Re := bd (fX3_of x1 (24 : Int32) u) (fun r2 u3 => fX4_leftByAsking_13 fX4_leftByAsking_49 FU x1 r2 (0 : Int32) u3)
noncomputable def fX4_left_60 (u : Wo) : Re := some ((0 : Int32), u)
noncomputable def fX4_left (x1 : Int32) (u : Wo) : Re := bw (wr u 1 3 (0 : Int32)) (fun u1 => bd (fX3_set x1 (0 : Int32) (0 : Int32) u1) (fun r3 u4 => (if (u4 1 1) = (0 : Int32) then bd (fX4_leftByAsking x1 u4) (fun r14 u15 => fX4_left_60 u15) else (if (u4 1 1) = (1 : Int32) then bd (fX4_leftByToken x1 u4) (fun r11 u12 => fX4_left_60 u12) else bd (fX4_followRules x1 u4) (fun r8 u9 => fX4_left_60 u9)))))
noncomputable def fX5_leave (x1 : Int32) (u : Wo) : Re := bd (fX3_isKeeper x1 u) (fun r2 u3 => (if r2 = (0 : Int32) then some ((-1 : Int32), u3) else bd (fX3_of x1 (0 : Int32) u3) (fun r6 u7 => (if r6 = (2 : Int32) then bd (fX3_sentInAll u7) (fun r10 u11 => bd (fX1_mark u11) (fun r13 u14 => bd (fX4_left x1 u14) (fun r16 u17 => bd (fX5_settled u17) (fun r19 u20 => (if r19 = (0 : Int32) then some ((-3 : Int32), u20) else bd (fX3_sentInAll u20) (fun r23 u24 => some ((r23 - r10), u24))))))) else some ((-2 : Int32), u7)))))
noncomputable def fX3_isPair_26 (s0 : Int32) (u : Wo) : Re := gi (zb s0) (some (s0, u))
noncomputable def fX3_isPair_25 (u : Wo) : Re := fX3_isPair_26 (0 : Int32) u
noncomputable def fX3_isPair (x1 x2 : Int32) (u : Wo) : Re := bd (fX3_isKeeper x1 u) (fun r2 u3 => (if r2 = (0 : Int32) then fX3_isPair_25 u3 else bd (fX3_isKeeper x2 u3) (fun r7 u8 => (if r7 = (0 : Int32) then fX3_isPair_25 u8 else (if x1 = x2 then fX3_isPair_25 u8 else fX3_isPair_26 (1 : Int32) u8)))))
noncomputable def fX3_underWay (x1 x2 : Int32) (u : Wo) : Re := bd (fX3_lettersOf x1 x2 u) (fun r2 u3 => bd (fX3_get r2 u3) (fun r5 u6 => some (r5, u6)))
noncomputable def fX3_letterAt (x1 x2 x3 : Int32) (u : Wo) : Re := bd (fX3_lettersOf x1 x2 u) (fun r2 u3 => bd (fX3_get ((r2 + (1 : Int32)) + x3) u3) (fun r5 u6 => some (r5, u6)))
noncomputable def fX3_kindOf (x0 : Int32) (u : Wo) : Re := some ((x0 &&& (3 : Int32)), u)
noncomputable def fX3_takeLetter (x1 x2 : Int32) (u : Wo) : Re := bd (fX3_lettersOf x1 x2 u) (fun r2 u3 => bd (fX3_takeFirst r2 (12 : Int32) u3) (fun r5 u6 => some (r5, u6)))
noncomputable def fX3_numberOf (x0 : Int32) (u : Wo) : Re := some ((x0 >>> ((2 : Int32) &&& (31 : Int32))), u)
noncomputable def fX4_askedByToken_60 (u : Wo) : Re := some ((0 : Int32), u)
noncomputable def fX4_askedByToken (x1 x2 x3 : Int32) (u : Wo) : Re := bd (fX3_known x1 x2 u) (fun r2 u3 => bd (fX3_setKnown x1 x2 (if r2 < x3 then x3 else r2) u3) (fun r5 u6 => bd (fX3_hasToken x1 u6) (fun r8 u9 => (if r8 = (0 : Int32) then fX4_askedByToken_60 u9 else bd (fX3_of x1 (0 : Int32) u9) (fun r12 u13 => (if r12 = (0 : Int32) then bd (fX4_isDue x1 x2 u13) (fun r16 u17 => (if r16 = (0 : Int32) then fX4_askedByToken_60 u17 else bd (fX4_passToken x1 x2 u17) (fun r20 u21 => fX4_askedByToken_60 u21))) else fX4_askedByToken_60 u13))))))
noncomputable def fJ6_bitCount_0f7a4 (x0 : Int32) (u : Wo) : Re := bn (x0 - (((x0).toUInt32 >>> (((1 : Int32)).toUInt32 &&& Int32.toUInt32 31)).toInt32 &&& (1431655765 : Int32))) (fun y1 => bn ((y1 &&& (858993459 : Int32)) + (((y1).toUInt32 >>> (((2 : Int32)).toUInt32 &&& Int32.toUInt32 31)).toInt32 &&& (858993459 : Int32))) (fun y2 => bn ((y2 + ((y2).toUInt32 >>> (((4 : Int32)).toUInt32 &&& Int32.toUInt32 31)).toInt32) &&& (252645135 : Int32)) (fun y3 => bn (y3 + ((y3).toUInt32 >>> (((8 : Int32)).toUInt32 &&& Int32.toUInt32 31)).toInt32) (fun y4 => bn (y4 + ((y4).toUInt32 >>> (((16 : Int32)).toUInt32 &&& Int32.toUInt32 31)).toInt32) (fun y5 => some ((y5 &&& (63 : Int32)), u))))))
noncomputable def fX4_stillToCome_50 (s0 : Int32) (u : Wo) : Re := some (s0, u)
noncomputable def fX4_stillToCome_18 (x1 : Int32) (s0 : Int32) (u : Wo) : Re := (if s0 = (0 : Int32) then fX4_stillToCome_50 (0 : Int32) u else bd (fX3_of x1 (18 : Int32) u) (fun r7 u8 => bd (fJ6_bitCount_0f7a4 r7 u8) (fun r10 u11 => fX4_stillToCome_50 (((u 1 2) - (1 : Int32)) - r10) u11)))
noncomputable def fX4_stillToCome (x1 : Int32) (u : Wo) : Re := bd (fX3_of x1 (0 : Int32) u) (fun r2 u3 => (if r2 = (1 : Int32) then fX4_stillToCome_18 x1 (1 : Int32) u3 else fX4_stillToCome_18 x1 (0 : Int32) u3))
noncomputable def fX4_given_50 (u : Wo) : Re := some ((0 : Int32), u)
noncomputable def fX4_given (x1 x2 : Int32) (u : Wo) : Re := bd (fX3_of x1 (18 : Int32) u) (fun r2 u3 => bd (fX3_set x1 (18 : Int32) (r2 ||| ((1 : Int32) <<< (x2 &&& (31 : Int32)))) u3) (fun r5 u6 => bd (fX3_of x1 (0 : Int32) u6) (fun r8 u9 => (if r8 = (1 : Int32) then bd (fX4_stillToCome x1 u9) (fun r12 u13 => (if r12 = (0 : Int32) then bd (fX4_enter x1 u13) (fun r16 u17 => fX4_given_50 u17) else fX4_given_50 u13)) else fX4_given_50 u9))))
noncomputable def fX4_goesBefore_57 (s0 : Int32) (u : Wo) : Re := gi (zb s0) (some (s0, u))
noncomputable def fX4_goesBefore_52 (u : Wo) : Re := fX4_goesBefore_57 (1 : Int32) u
noncomputable def fX4_goesBefore_56 (u : Wo) : Re := fX4_goesBefore_57 (0 : Int32) u
noncomputable def fX4_goesBefore (x1 x2 x3 : Int32) (u : Wo) : Re := bd (fX3_of x1 (0 : Int32) u) (fun r2 u3 => bd (fX3_of x1 (12 : Int32) u3) (fun r5 u6 => (if r2 = (2 : Int32) then fX4_goesBefore_52 u6 else (if r2 = (1 : Int32) then (if r5 < x3 then fX4_goesBefore_52 u6 else (if r5 = x3 then (if x2 ≤ x1 then fX4_goesBefore_56 u6 else fX4_goesBefore_52 u6) else fX4_goesBefore_56 u6)) else fX4_goesBefore_56 u6))))
noncomputable def fX4_askedByAsking_74 (u : Wo) : Re := some ((0 : Int32), u)
noncomputable def fX4_askedByAsking (x1 x2 x3 : Int32) (u : Wo) : Re := bd (fX3_of x1 (6 : Int32) u) (fun r2 u3 => bd (fX3_set x1 (6 : Int32) ((if r2 < x3 then x3 else r2) + (1 : Int32)) u3) (fun r5 u6 => bd (fX4_goesBefore x1 x2 x3 u6) (fun r8 u9 => (if r8 = (0 : Int32) then bd (fX3_send x1 x2 (1 : Int32) (0 : Int32) u9) (fun r12 u13 => fX4_askedByAsking_74 u13) else bd (fX3_of x1 (24 : Int32) u9) (fun r15 u16 => bd (fX3_set x1 (24 : Int32) (r15 ||| ((1 : Int32) <<< (x2 &&& (31 : Int32)))) u16) (fun r18 u19 => fX4_askedByAsking_74 u19))))))
noncomputable def fX4_coming_146 (u : Wo) : Re := some ((0 : Int32), u)
noncomputable def fX4_coming_141 (x2 : Int32) (u : Wo) : Re := bd (fX4_followRules x2 u) (fun r16 u17 => fX4_coming_146 u17)
noncomputable def fX4_coming_30 (x1 : Int32) (x2 : Int32) (x3 : Int32) (s0 : Int32) (u : Wo) : Re := (if (u 1 1) = (0 : Int32) then (if s0 = (0 : Int32) then bd (fX4_given x2 x1 u) (fun r36 u37 => fX4_coming_146 u37) else bd (fX3_numberOf x3 u) (fun r39 u40 => bd (fX4_askedByAsking x2 x1 r39 u40) (fun r42 u43 => fX4_coming_146 u43))) else (if (u 1 1) = (1 : Int32) then (if s0 = (0 : Int32) then bd (fX3_put (30 : Int32) x2 u) (fun r23 u24 => bd (fX4_enter x2 u24) (fun r26 u27 => fX4_coming_146 u27)) else bd (fX3_numberOf x3 u) (fun r29 u30 => bd (fX4_askedByToken x2 x1 r29 u30) (fun r32 u33 => fX4_coming_146 u33))) else (if s0 = (0 : Int32) then bd (fX3_set x2 (86 : Int32) x2 u) (fun r13 u14 => fX4_coming_141 x2 u14) else bd (fX4_queue x2 x1 u) (fun r19 u20 => fX4_coming_141 x2 u20))))
noncomputable def fX4_coming (x1 x2 : Int32) (u : Wo) : Re := bw (wr u 1 3 (0 : Int32)) (fun u1 => bd (fX3_takeLetter x1 x2 u1) (fun r3 u4 => bd (fX3_kindOf r3 u4) (fun r6 u7 => (if r6 = (0 : Int32) then fX4_coming_30 x1 x2 r3 (1 : Int32) u7 else fX4_coming_30 x1 x2 r3 (0 : Int32) u7))))
noncomputable def fX5_bring_43 (s0 : Int32) (u : Wo) : Re := some (s0, u)
noncomputable def fX5_bring (x1 x2 : Int32) (u : Wo) : Re := bd (fX3_letterAt x1 x2 (0 : Int32) u) (fun r2 u3 => bd (fX3_kindOf r2 u3) (fun r5 u6 => bd (fX1_mark u6) (fun r8 u9 => bd (fX4_coming x1 x2 u9) (fun r11 u12 => bd (fX5_settled u12) (fun r14 u15 => (if r14 = (0 : Int32) then fX5_bring_43 (-3 : Int32) u15 else fX5_bring_43 r5 u15))))))
noncomputable def fX5_come (x1 x2 : Int32) (u : Wo) : Re := bd (fX3_isPair x1 x2 u) (fun r2 u3 => (if r2 = (0 : Int32) then some ((-1 : Int32), u3) else bd (fX3_underWay x1 x2 u3) (fun r6 u7 => (if r6 = (0 : Int32) then some ((-2 : Int32), u7) else bd (fX5_bring x1 x2 u7) (fun r10 u11 => some (r10, u11))))))
noncomputable def fX3_busyPairs_37 (k14 : Int32 → Int32 → Int32 → Wo → Re) (x2 : Int32) (x3 : Int32) (s0 : Int32) (s1 : Int32) (u : Wo) : Re := k14 (s0 + s1) x2 (x3 + (1 : Int32)) u
noncomputable def fX3_busyPairs_14 (k45 : Int32 → Int32 → Wo → Re) : Nat → Int32 → Int32 → Int32 → Wo → Re
  | 0, _, _, _, _ => none
  | n + 1, x1, x2, x3, u => (if (u 1 2) ≤ x3 then k45 x1 x2 u else bd (fX3_underWay x2 x3 u) (fun r4 u5 => (if r4 ≤ (0 : Int32) then fX3_busyPairs_37 (fX3_busyPairs_14 k45 n) x2 x3 x1 (0 : Int32) u5 else fX3_busyPairs_37 (fX3_busyPairs_14 k45 n) x2 x3 x1 (1 : Int32) u5)))
noncomputable def fX3_busyPairs_45 (k4 : Int32 → Int32 → Wo → Re) (x1 : Int32) (x2 : Int32) (u : Wo) : Re := k4 x1 (x2 + (1 : Int32)) u
noncomputable def fX3_busyPairs_4 (k51 : Int32 → Wo → Re) : Nat → Int32 → Int32 → Wo → Re
  | 0, _, _, _ => none
  | n + 1, x1, x2, u => (if (u 1 2) ≤ x2 then k51 x1 u else fX3_busyPairs_14 (fX3_busyPairs_45 (fX3_busyPairs_4 k51 n)) FU x1 x2 (0 : Int32) u)
noncomputable def fX3_busyPairs_51 (x1 : Int32) (u : Wo) : Re := some (x1, u)
noncomputable def fX3_busyPairs (u : Wo) : Re := fX3_busyPairs_4 fX3_busyPairs_51 FU (0 : Int32) (0 : Int32) u
noncomputable def fX3_busyPair_50 (k15 : Int32 → Int32 → Int32 → Int32 → Wo → Re) (x1 : Int32) (x2 : Int32) (x3 : Int32) (x4 : Int32) (u : Wo) : Re := k15 x1 x2 x3 (x4 + (1 : Int32)) u
noncomputable def fX3_busyPair_15 (k42 : Int32 → Int32 → Wo → Re) (k56 : Int32 → Int32 → Int32 → Wo → Re) : Nat → Int32 → Int32 → Int32 → Int32 → Wo → Re
  | 0, _, _, _, _, _ => none
  | n + 1, x1, x2, x3, x4, u => (if (u 1 2) ≤ x4 then k56 x1 x2 x3 u else bd (fX3_underWay x3 x4 u) (fun r4 u5 => (if r4 ≤ (0 : Int32) then fX3_busyPair_50 (fX3_busyPair_15 k42 k56 n) x1 x2 x3 x4 u5 else (if x2 = x1 then k42 x3 x4 u5 else fX3_busyPair_50 (fX3_busyPair_15 k42 k56 n) x1 (x2 + (1 : Int32)) x3 x4 u5))))
noncomputable def fX3_busyPair_56 (k4 : Int32 → Int32 → Int32 → Wo → Re) (x1 : Int32) (x2 : Int32) (x3 : Int32) (u : Wo) : Re := k4 x1 x2 (x3 + (1 : Int32)) u
noncomputable def fX3_busyPair_4 (k42 : Int32 → Int32 → Wo → Re) (k62 : Wo → Re) : Nat → Int32 → Int32 → Int32 → Wo → Re
  | 0, _, _, _, _ => none
  | n + 1, x1, x2, x3, u => (if (u 1 2) ≤ x3 then k62 u else fX3_busyPair_15 k42 (fX3_busyPair_56 (fX3_busyPair_4 k42 k62 n)) FU x1 x2 x3 (0 : Int32) u)
noncomputable def fX3_busyPair_42 (x3 : Int32) (x4 : Int32) (u : Wo) : Re := some (((x3 * (6 : Int32)) + x4), u)
noncomputable def fX3_busyPair_62 (u : Wo) : Re := some ((0 : Int32), u)
noncomputable def fX3_busyPair (x1 : Int32) (u : Wo) : Re := fX3_busyPair_4 fX3_busyPair_42 fX3_busyPair_62 FU x1 (0 : Int32) (0 : Int32) u
noncomputable def fX5_run_15 (u : Wo) : Re := some ((-1 : Int32), u)
noncomputable def fX5_run_23 (k107 : Int32 → Wo → Re) : Nat → Int32 → Int64 → Int32 → Wo → Re
  | 0, _, _, _, _ => none
  | n + 1, x1, x3, x5, u => (if x1 ≤ x5 then k107 x1 u else bd (fX3_busyPairs u) (fun r6 u7 => (if (0 : Int32) < r6 then gi (decide (¬ (r6).toInt64 = (0 : Int64))) (bd (fX3_busyPair ((x3 - x3 / (r6).toInt64 * (r6).toInt64)).toInt32 u7) (fun r11 u12 => bd (fX5_bring (r11 / (6 : Int32)) (r11 - r11 / (6 : Int32) * (6 : Int32)) u12) (fun r14 u15 => (if r14 = (-3 : Int32) then some (x5, u15) else fX5_run_23 k107 n x1 ((((x3 * (1103515245 : Int64)) + (12345 : Int64)) - ((x3 * (1103515245 : Int64)) + (12345 : Int64)) / (2147483648 : Int64) * (2147483648 : Int64)) / (8 : Int64)) (x5 + (1 : Int32)) u15)))) else some (x5, u7))))
noncomputable def fX5_run_107 (x1 : Int32) (u : Wo) : Re := some (x1, u)
noncomputable def fX5_run (x1 x2 : Int32) (u : Wo) : Re := (if x1 < (1 : Int32) then fX5_run_15 u else (if (100 : Int32) < x1 then fX5_run_15 u else (if (0 : Int32) ≤ x2 then fX5_run_23 fX5_run_107 FU x1 (x2).toInt64 (0 : Int32) u else fX5_run_15 u)))
noncomputable def fX5_timeOf_45 (s0 : Int32) (u : Wo) : Re := some (s0, u)
noncomputable def fX5_timeOf (x1 : Int32) (u : Wo) : Re := (if (u 1 1) = (0 : Int32) then bd (fX3_of x1 (12 : Int32) u) (fun r7 u8 => some (r7, u8)) else (if (u 1 1) = (1 : Int32) then bd (fX3_known x1 x1 u) (fun r4 u5 => fX5_timeOf_45 r4 u5) else fX5_timeOf_45 (0 : Int32) u))
noncomputable def fX5_keeper_132 (s0 : Int32) (u : Wo) : Re := some (s0, u)
noncomputable def fX5_keeper_155 (s0 : Int32) (u : Wo) : Re := some (s0, u)
noncomputable def fX5_keeper_174 (s0 : Int32) (u : Wo) : Re := some (s0, u)
noncomputable def fX5_keeper_191 (s0 : Int32) (u : Wo) : Re := some (s0, u)
noncomputable def fX5_keeper_212 (s0 : Int32) (u : Wo) : Re := some (s0, u)
noncomputable def fX5_keeper_232 (s0 : Int32) (u : Wo) : Re := some (s0, u)
noncomputable def fX5_keeper_253 (s0 : Int32) (u : Wo) : Re := some (s0, u)
noncomputable def fX5_keeper_278 (s0 : Int32) (u : Wo) : Re := some (s0, u)
noncomputable def fX5_keeper_276 (u : Wo) : Re := fX5_keeper_278 (-4 : Int32) u
noncomputable def fX5_keeper_45 (x1 : Int32) (x2 : Int32) (x3 : Int32) (s0 : Int32) (u : Wo) : Re := (if x2 = (0 : Int32) then bd (fX3_of x1 (0 : Int32) u) (fun r9 u10 => some (r9, u10)) else (if x2 = (1 : Int32) then (if x3 = (0 : Int32) then fX5_keeper_132 (0 : Int32) u else bd (fX3_of x1 (6 : Int32) u) (fun r13 u14 => fX5_keeper_132 r13 u14)) else (if x2 = (2 : Int32) then bd (fX5_timeOf x1 u) (fun r16 u17 => some (r16, u17)) else (if x2 = (3 : Int32) then (if x3 = (0 : Int32) then fX5_keeper_155 (0 : Int32) u else bd (fX4_stillToCome x1 u) (fun r20 u21 => fX5_keeper_155 r20 u21)) else (if x2 = (4 : Int32) then (if x3 = (0 : Int32) then fX5_keeper_174 (0 : Int32) u else bd (fX3_of x1 (24 : Int32) u) (fun r24 u25 => fX5_keeper_174 r24 u25)) else (if x2 = (5 : Int32) then bd (fX3_hasToken x1 u) (fun r27 u28 => (if r27 = (0 : Int32) then fX5_keeper_191 (0 : Int32) u28 else fX5_keeper_191 (1 : Int32) u28)) else (if x2 = (6 : Int32) then (if s0 = (0 : Int32) then fX5_keeper_212 (-4 : Int32) u else bd (fX3_of x1 (86 : Int32) u) (fun r32 u33 => fX5_keeper_212 r32 u33)) else (if x2 = (7 : Int32) then (if s0 = (0 : Int32) then fX5_keeper_232 (0 : Int32) u else bd (fX3_of x1 (92 : Int32) u) (fun r36 u37 => fX5_keeper_232 r36 u37)) else (if x2 = (8 : Int32) then (if s0 = (0 : Int32) then fX5_keeper_253 (0 : Int32) u else bd (fX3_queueOf x1 u) (fun r40 u41 => bd (fX3_get r40 u41) (fun r43 u44 => fX5_keeper_253 r43 u44))) else (if x2 = (9 : Int32) then (if s0 = (0 : Int32) then fX5_keeper_276 u else (if x1 ≤ (0 : Int32) then fX5_keeper_276 u else bd (fX3_of x1 (80 : Int32) u) (fun r48 u49 => fX5_keeper_278 r48 u49))) else (some ((-1 : Int32), u))))))))))))
noncomputable def fX5_keeper_28 (x1 : Int32) (x2 : Int32) (s0 : Int32) (u : Wo) : Re := (if (u 1 1) = (2 : Int32) then fX5_keeper_45 x1 x2 s0 (1 : Int32) u else fX5_keeper_45 x1 x2 s0 (0 : Int32) u)
noncomputable def fX5_keeper (x1 x2 : Int32) (u : Wo) : Re := bd (fX3_isKeeper x1 u) (fun r2 u3 => (if r2 = (0 : Int32) then some ((-1 : Int32), u3) else (if (u3 1 1) = (0 : Int32) then fX5_keeper_28 x1 x2 (1 : Int32) u3 else fX5_keeper_28 x1 x2 (0 : Int32) u3)))
noncomputable def fX5_knows_21 (u : Wo) : Re := some ((-4 : Int32), u)
noncomputable def fX5_knows_99 (s0 : Int32) (u : Wo) : Re := some (s0, u)
noncomputable def fX5_knows_97 (u : Wo) : Re := fX5_knows_99 (-4 : Int32) u
noncomputable def fX5_knows_60 (s0 : Int32) (u : Wo) : Re := some (s0, u)
noncomputable def fX5_knows (x1 x2 : Int32) (u : Wo) : Re := (if (u 1 1) = (0 : Int32) then fX5_knows_21 u else bd (fX3_isKeeper x1 u) (fun r3 u4 => (if r3 = (0 : Int32) then fX5_knows_21 u4 else (if (u4 1 1) = (1 : Int32) then bd (fX3_isKeeper x2 u4) (fun r19 u20 => (if r19 = (0 : Int32) then fX5_knows_60 (-4 : Int32) u20 else bd (fX3_known x1 x2 u20) (fun r23 u24 => fX5_knows_60 r23 u24))) else bd (fX3_queueOf x1 u4) (fun r8 u9 => (if x2 < (0 : Int32) then fX5_knows_97 u9 else bd (fX3_get r8 u9) (fun r12 u13 => (if r12 ≤ x2 then fX5_knows_97 u13 else bd (fX3_get ((r8 + (1 : Int32)) + x2) u13) (fun r16 u17 => fX5_knows_99 r16 u17)))))))))
noncomputable def fX5_token_20 (u : Wo) : Re := some ((-1 : Int32), u)
noncomputable def fX5_token_81 (s0 : Int32) (u : Wo) : Re := some (s0, u)
noncomputable def fX5_token (x1 x2 : Int32) (u : Wo) : Re := (if x1 < (0 : Int32) then fX5_token_20 u else (if (1 : Int32) < x1 then fX5_token_20 u else bd (fX3_isKeeper x2 u) (fun r4 u5 => (if r4 = (0 : Int32) then fX5_token_20 u5 else (if (u5 1 1) = (1 : Int32) then (if x1 = (0 : Int32) then bd (fX3_get ((31 : Int32) + x2) u5) (fun r17 u18 => some (r17, u18)) else bd (fX3_get (37 : Int32) u5) (fun r10 u11 => (if r10 ≤ x2 then fX5_token_81 (-4 : Int32) u11 else bd (fX3_get ((38 : Int32) + x2) u11) (fun r14 u15 => fX5_token_81 r14 u15)))) else some ((-2 : Int32), u5))))))
noncomputable def fX5_letter_28 (u : Wo) : Re := some ((-1 : Int32), u)
noncomputable def fX5_letter_88 (s0 : Int32) (u : Wo) : Re := some (s0, u)
noncomputable def fX5_letter (x1 x2 x3 x4 : Int32) (u : Wo) : Re := bd (fX3_isPair x1 x2 u) (fun r2 u3 => (if r2 = (0 : Int32) then fX5_letter_28 u3 else (if x3 < (-1 : Int32) then fX5_letter_28 u3 else (if x4 < (0 : Int32) then fX5_letter_28 u3 else (if x4 ≤ (1 : Int32) then bd (fX3_underWay x1 x2 u3) (fun r9 u10 => (if x3 = (-1 : Int32) then some (r9, u10) else (if x3 < r9 then bd (fX3_letterAt x1 x2 x3 u10) (fun r14 u15 => (if x4 = (0 : Int32) then bd (fX3_kindOf r14 u15) (fun r21 u22 => fX5_letter_88 r21 u22) else bd (fX3_numberOf r14 u15) (fun r18 u19 => fX5_letter_88 r18 u19))) else some ((-4 : Int32), u10)))) else fX5_letter_28 u3)))))
noncomputable def fX0_read_32 (s0 : Int32) (u : Wo) : Re := some (s0, u)
noncomputable def fX0_read_31 (u : Wo) : Re := fX0_read_32 (0 : Int32) u
noncomputable def fX0_read (x1 x2 : Int32) (u : Wo) : Re := bn (((x1 - x1 / (90 : Int32) * (90 : Int32)) * (3 : Int32)) + x2) (fun y1 => (if y1 < (0 : Int32) then fX0_read_31 u else (if (270 : Int32) ≤ y1 then fX0_read_31 u else gi (inb y1 270) (fX0_read_32 (u 7 (y1).toNatClampNeg) u))))
noncomputable def fX5_entry_13 (u : Wo) : Re := some ((-1 : Int32), u)
noncomputable def fX5_entry_37 (u : Wo) : Re := some ((-4 : Int32), u)
noncomputable def fX5_entry (x1 x2 : Int32) (u : Wo) : Re := (if x1 < (0 : Int32) then fX5_entry_13 u else (if x2 < (0 : Int32) then fX5_entry_13 u else (if x2 < (3 : Int32) then bd (fX3_get (611 : Int32) u) (fun r5 u6 => (if r5 ≤ x1 then fX5_entry_37 u6 else (if x1 < (60 : Int32) then bd (fX0_read ((r5 - (1 : Int32)) - x1) x2 u6) (fun r10 u11 => some (r10, u11)) else fX5_entry_37 u6))) else fX5_entry_13 u)))
noncomputable def fX1_takeBack (u : Wo) : Re := (if (u 4 3) = (0 : Int32) then some ((0 : Int32), u) else bw (wr u 4 3 ((u 4 3) - (1 : Int32))) (fun u2 => bw (wr u2 4 2 ((((u2 4 2) + (31 : Int32)) - (1 : Int32)) - (((u2 4 2) + (31 : Int32)) - (1 : Int32)) / (31 : Int32) * (31 : Int32))) (fun u3 => bd (fX1_backToMark u3) (fun r5 u6 => some ((1 : Int32), u6)))))
noncomputable def fX5_undo_16 (s0 : Int32) (u : Wo) : Re := some (s0, u)
noncomputable def fX5_undo (u : Wo) : Re := bd (fX1_takeBack u) (fun r2 u3 => (if r2 = (0 : Int32) then fX5_undo_16 (-2 : Int32) u3 else fX5_undo_16 (1 : Int32) u3))
noncomputable def fJ7_fill_53178_13_5 (k20 : Wo → Re) : Nat → Int32 → Int32 → Int32 → Wo → Re
  | 0, _, _, _, _ => none
  | n + 1, x1, x2, x3, u => (if x3 ≤ x2 then k20 u else gi (inb x2 7) (bw (wr u 13 (x2).toNatClampNeg x1) (fun u3 => fJ7_fill_53178_13_5 k20 n x1 (x2 + (1 : Int32)) x3 u3)))
noncomputable def fJ7_fill_53178_13_20 (u : Wo) : Re := some ((0 : Int32), u)
noncomputable def fJ7_fill_53178_13 (x1 : Int32) (u : Wo) : Re := fJ7_fill_53178_13_5 fJ7_fill_53178_13_20 FU x1 (0 : Int32) (7 : Int32) u
noncomputable def fJ7_fill_53178_11_5 (k20 : Wo → Re) : Nat → Int32 → Int32 → Int32 → Wo → Re
  | 0, _, _, _, _ => none
  | n + 1, x1, x2, x3, u => (if x3 ≤ x2 then k20 u else gi (inb x2 1024) (bw (wr u 11 (x2).toNatClampNeg x1) (fun u3 => fJ7_fill_53178_11_5 k20 n x1 (x2 + (1 : Int32)) x3 u3)))
noncomputable def fJ7_fill_53178_11_20 (u : Wo) : Re := some ((0 : Int32), u)
noncomputable def fJ7_fill_53178_11 (x1 : Int32) (u : Wo) : Re := fJ7_fill_53178_11_5 fJ7_fill_53178_11_20 FU x1 (0 : Int32) (1024 : Int32) u
noncomputable def fX3_copyTo_12_36 (u : Wo) : Re := some ((0 : Int32), u)
noncomputable def fX3_copyTo_12 (x2 x3 : Int32) (u : Wo) : Re := (if x2 < (0 : Int32) then fX3_copyTo_12_36 u else (if x3 < (0 : Int32) then fX3_copyTo_12_36 u else (if (618 : Int32) < x3 then fX3_copyTo_12_36 u else (if ((618 : Int32) - x3) < x2 then fX3_copyTo_12_36 u else gi (cpo (0 : Int32) x2 x3 618 618) (bw (wcp u 6 ((0 : Int32)).toNatClampNeg 12 (x2).toNatClampNeg (x3).toNatClampNeg) (fun u6 => fX3_copyTo_12_36 u6))))))
noncomputable def fX2_mixed_19 (k52 : Int32 → Wo → Re) : Nat → Int32 → Int32 → Int32 → Wo → Re
  | 0, _, _, _, _ => none
  | n + 1, x3, x5, x6, u => (if x3 ≤ x6 then k52 x5 u else (if (618 : Int32) ≤ x6 then k52 x5 u else gi (inb x6 618) (fX2_mixed_19 k52 n x3 ((x5 * (31 : Int32)) + (u 6 (x6).toNatClampNeg)) (x6 + (1 : Int32)) u)))
noncomputable def fX2_mixed_52 (x5 : Int32) (u : Wo) : Re := some (x5, u)
noncomputable def fX2_mixed (x1 x2 x3 : Int32) (u : Wo) : Re := fX2_mixed_19 fX2_mixed_52 FU x3 x1 (if x2 < (0 : Int32) then (0 : Int32) else x2) u
noncomputable def fX3_wayFrom_27 (s0 : Int32) (u : Wo) : Re := some (s0, u)
noncomputable def fX3_wayFrom (u : Wo) : Re := (if (u 1 1) = (0 : Int32) then fX3_wayFrom_27 (6 : Int32) u else (if (u 1 1) = (1 : Int32) then fX3_wayFrom_27 (30 : Int32) u else fX3_wayFrom_27 (80 : Int32) u))
noncomputable def fX3_wayTo_28 (s0 : Int32) (u : Wo) : Re := some (s0, u)
noncomputable def fX3_wayTo (u : Wo) : Re := (if (u 1 1) = (0 : Int32) then fX3_wayTo_28 (30 : Int32) u else (if (u 1 1) = (1 : Int32) then fX3_wayTo_28 (80 : Int32) u else fX3_wayTo_28 (140 : Int32) u))
noncomputable def fX2_hash_44 (k90 : Int32 → Int32 → Wo → Re) : Nat → Int32 → Int32 → Int32 → Wo → Re
  | 0, _, _, _, _ => none
  | n + 1, x1, x2, x3, u => (if (u 1 2) ≤ x3 then k90 x1 x2 u else bd (fX3_lettersOf x2 x3 u) (fun r16 u17 => bd (fX3_underWay x2 x3 u17) (fun r19 u20 => bd (fX2_mixed x1 r16 ((r16 + (1 : Int32)) + r19) u20) (fun r22 u23 => fX2_hash_44 k90 n r22 x2 (x3 + (1 : Int32)) u23))))
noncomputable def fX2_hash_90 (k31 : Int32 → Int32 → Wo → Re) (x1 : Int32) (x2 : Int32) (u : Wo) : Re := k31 x1 (x2 + (1 : Int32)) u
noncomputable def fX2_hash_31 (k96 : Int32 → Wo → Re) : Nat → Int32 → Int32 → Wo → Re
  | 0, _, _, _ => none
  | n + 1, x1, x2, u => (if (u 1 2) ≤ x2 then k96 x1 u else fX2_hash_44 (fX2_hash_90 (fX2_hash_31 k96 n)) FU x1 x2 (0 : Int32) u)
noncomputable def fX2_hash_96 (x1 : Int32) (u : Wo) : Re := some ((x1 ^^^ ((x1).toUInt32 >>> (((16 : Int32)).toUInt32 &&& Int32.toUInt32 31)).toInt32), u)
noncomputable def fX2_hash (u : Wo) : Re := bd (fX2_mixed (0 : Int32) (0 : Int32) (6 : Int32) u) (fun r2 u3 => bd (fX3_wayFrom u3) (fun r5 u6 => bd (fX3_wayTo u6) (fun r8 u9 => bd (fX2_mixed r2 r5 r8 u9) (fun r11 u12 => fX2_hash_31 fX2_hash_96 FU r11 (0 : Int32) u12))))
noncomputable def fX2_isLike_44 (u : Wo) : Re := some ((0 : Int32), u)
noncomputable def fX2_isLike_49 (k81 : Wo → Re) : Nat → Int32 → Int32 → Int32 → Wo → Re
  | 0, _, _, _, _ => none
  | n + 1, x3, x5, x6, u => (if x3 ≤ x6 then k81 u else gi (inb (x5 + x6) 182400) (gi (inb x6 618) ((if (u 9 ((x5 + x6)).toNatClampNeg) = (u 6 (x6).toNatClampNeg) then fX2_isLike_49 k81 n x3 x5 (x6 + (1 : Int32)) u else some ((0 : Int32), u)))))
noncomputable def fX2_isLike_81 (u : Wo) : Re := some ((1 : Int32), u)
noncomputable def fX2_isLike (x1 x2 x3 : Int32) (u : Wo) : Re := (if x2 < (0 : Int32) then fX2_isLike_44 u else (if (618 : Int32) < x3 then fX2_isLike_44 u else (if (x1 * (608 : Int32)) < (0 : Int32) then fX2_isLike_44 u else (if (x1 * (608 : Int32)) ≤ ((182400 : Int32) - x3) then fX2_isLike_49 fX2_isLike_81 FU x3 (x1 * (608 : Int32)) x2 u else fX2_isLike_44 u))))
noncomputable def fX2_isState_23 (u : Wo) : Re := some ((0 : Int32), u)
noncomputable def fX2_isState_58 (u : Wo) : Re := some ((0 : Int32), u)
noncomputable def fX2_isState_76 (k129 : Int32 → Int32 → Wo → Re) : Nat → Int32 → Int32 → Int32 → Wo → Re
  | 0, _, _, _, _ => none
  | n + 1, x1, x3, x4, u => (if (u 1 2) ≤ x4 then k129 x1 x3 u else bd (fX3_lettersOf x3 x4 u) (fun r22 u23 => bd (fX3_underWay x3 x4 u23) (fun r25 u26 => bd (fX2_isLike x1 r22 ((r22 + (1 : Int32)) + r25) u26) (fun r28 u29 => (if r28 = (0 : Int32) then some ((0 : Int32), u29) else fX2_isState_76 k129 n x1 x3 (x4 + (1 : Int32)) u29)))))
noncomputable def fX2_isState_129 (k62 : Int32 → Int32 → Wo → Re) (x1 : Int32) (x3 : Int32) (u : Wo) : Re := k62 x1 (x3 + (1 : Int32)) u
noncomputable def fX2_isState_62 (k135 : Wo → Re) : Nat → Int32 → Int32 → Wo → Re
  | 0, _, _, _ => none
  | n + 1, x1, x3, u => (if (u 1 2) ≤ x3 then k135 u else fX2_isState_76 (fX2_isState_129 (fX2_isState_62 k135 n)) FU x1 x3 (0 : Int32) u)
noncomputable def fX2_isState_135 (u : Wo) : Re := some ((1 : Int32), u)
noncomputable def fX2_isState (x1 x2 : Int32) (u : Wo) : Re := (if x1 < (0 : Int32) then fX2_isState_23 u else (if (300 : Int32) ≤ x1 then fX2_isState_23 u else gi (inb x1 300) ((if (u 10 (x1).toNatClampNeg) = x2 then bd (fX2_isLike x1 (0 : Int32) (6 : Int32) u) (fun r6 u7 => (if r6 = (0 : Int32) then fX2_isState_58 u7 else bd (fX3_wayFrom u7) (fun r10 u11 => bd (fX3_wayTo u11) (fun r13 u14 => bd (fX2_isLike x1 r10 r13 u14) (fun r16 u17 => (if r16 = (0 : Int32) then fX2_isState_58 u17 else fX2_isState_62 fX2_isState_135 FU x1 (0 : Int32) u17)))))) else fX2_isState_23 u))))
noncomputable def fX3_copyTo_9_36 (u : Wo) : Re := some ((0 : Int32), u)
noncomputable def fX3_copyTo_9 (x2 x3 : Int32) (u : Wo) : Re := (if x2 < (0 : Int32) then fX3_copyTo_9_36 u else (if x3 < (0 : Int32) then fX3_copyTo_9_36 u else (if (618 : Int32) < x3 then fX3_copyTo_9_36 u else (if ((182400 : Int32) - x3) < x2 then fX3_copyTo_9_36 u else gi (cpo (0 : Int32) x2 x3 618 182400) (bw (wcp u 6 ((0 : Int32)).toNatClampNeg 9 (x2).toNatClampNeg (x3).toNatClampNeg) (fun u6 => fX3_copyTo_9_36 u6))))))
noncomputable def fX2_keep_13 (k60 : Int32 → Int32 → Wo → Re) : Nat → Int32 → Int32 → Int32 → Wo → Re
  | 0, _, _, _, _ => none
  | n + 1, x1, x2, x3, u => (if (1024 : Int32) ≤ x3 then k60 x1 x2 u else gi (inb x2 1024) ((if (u 11 (x2).toNatClampNeg) = (0 : Int32) then k60 x1 x2 u else gi (inb x2 1024) (bd (fX2_isState ((u 11 (x2).toNatClampNeg) - (1 : Int32)) x1 u) (fun r9 u10 => (if r9 = (0 : Int32) then fX2_keep_13 k60 n x1 ((x2 + (1 : Int32)) &&& (1023 : Int32)) (x3 + (1 : Int32)) u10 else some ((0 : Int32), u10)))))))
noncomputable def fX2_keep_60 (x1 : Int32) (x2 : Int32) (u : Wo) : Re := (if (u 5 7) < (300 : Int32) then bd (fX3_copyTo_9 ((u 5 7) * (608 : Int32)) (608 : Int32) u) (fun r14 u15 => gi (inb (u15 5 7) 300) (bw (wr u15 10 ((u15 5 7)).toNatClampNeg x1) (fun u17 => bw (wr u17 5 7 ((u17 5 7) + (1 : Int32))) (fun u18 => gi (inb x2 1024) (bw (wr u18 11 (x2).toNatClampNeg (u18 5 7)) (fun u20 => some ((0 : Int32), u20))))))) else bw (wr u 5 8 (1 : Int32)) (fun u21 => some ((0 : Int32), u21)))
noncomputable def fX2_keep (u : Wo) : Re := bd (fX2_hash u) (fun r2 u3 => fX2_keep_13 fX2_keep_60 FU r2 (r2 &&& (1023 : Int32)) (0 : Int32) u3)
noncomputable def fX3_copyFrom_9_36 (u : Wo) : Re := some ((0 : Int32), u)
noncomputable def fX3_copyFrom_9 (x2 x3 : Int32) (u : Wo) : Re := (if x2 < (0 : Int32) then fX3_copyFrom_9_36 u else (if x3 < (0 : Int32) then fX3_copyFrom_9_36 u else (if (618 : Int32) < x3 then fX3_copyFrom_9_36 u else (if ((182400 : Int32) - x3) < x2 then fX3_copyFrom_9_36 u else gi (cpo x2 (0 : Int32) x3 182400 618) (bw (wcp u 9 (x2).toNatClampNeg 6 ((0 : Int32)).toNatClampNeg (x3).toNatClampNeg) (fun u6 => fX3_copyFrom_9_36 u6))))))
noncomputable def fX2_load (x1 : Int32) (u : Wo) : Re := bd (fX3_copyFrom_9 (x1 * (608 : Int32)) (608 : Int32) u) (fun r2 u3 => some ((0 : Int32), u3))
noncomputable def fX3_howMany_28 (k4 : Int32 → Int32 → Int32 → Wo → Re) (x1 : Int32) (x3 : Int32) (s0 : Int32) (s1 : Int32) (u : Wo) : Re := k4 x1 (s0 + s1) (x3 + (1 : Int32)) u
noncomputable def fX3_howMany_4 (k36 : Int32 → Wo → Re) : Nat → Int32 → Int32 → Int32 → Wo → Re
  | 0, _, _, _, _ => none
  | n + 1, x1, x2, x3, u => (if (u 1 2) ≤ x3 then k36 x2 u else bd (fX3_of x3 (0 : Int32) u) (fun r3 u4 => (if r3 = x1 then fX3_howMany_28 (fX3_howMany_4 k36 n) x1 x3 x2 (1 : Int32) u4 else fX3_howMany_28 (fX3_howMany_4 k36 n) x1 x3 x2 (0 : Int32) u4)))
noncomputable def fX3_howMany_36 (x2 : Int32) (u : Wo) : Re := some (x2, u)
noncomputable def fX3_howMany (x1 : Int32) (u : Wo) : Re := fX3_howMany_4 fX3_howMany_36 FU x1 (0 : Int32) (0 : Int32) u
noncomputable def fX3_underWayInAll_14 (k37 : Int32 → Int32 → Wo → Re) : Nat → Int32 → Int32 → Int32 → Wo → Re
  | 0, _, _, _, _ => none
  | n + 1, x1, x2, x3, u => (if (u 1 2) ≤ x3 then k37 x1 x2 u else bd (fX3_underWay x2 x3 u) (fun r4 u5 => fX3_underWayInAll_14 k37 n (x1 + r4) x2 (x3 + (1 : Int32)) u5))
noncomputable def fX3_underWayInAll_37 (k4 : Int32 → Int32 → Wo → Re) (x1 : Int32) (x2 : Int32) (u : Wo) : Re := k4 x1 (x2 + (1 : Int32)) u
noncomputable def fX3_underWayInAll_4 (k43 : Int32 → Wo → Re) : Nat → Int32 → Int32 → Wo → Re
  | 0, _, _, _ => none
  | n + 1, x1, x2, u => (if (u 1 2) ≤ x2 then k43 x1 u else fX3_underWayInAll_14 (fX3_underWayInAll_37 (fX3_underWayInAll_4 k43 n)) FU x1 x2 (0 : Int32) u)
noncomputable def fX3_underWayInAll_43 (x1 : Int32) (u : Wo) : Re := some (x1, u)
noncomputable def fX3_underWayInAll (u : Wo) : Re := fX3_underWayInAll_4 fX3_underWayInAll_43 FU (0 : Int32) (0 : Int32) u
noncomputable def fX3_tokenBetween_10 (k46 : Wo → Re) : Nat → Int32 → Int32 → Int32 → Int32 → Wo → Re
  | 0, _, _, _, _, _ => none
  | n + 1, x1, x2, x3, x4, u => (if x3 ≤ x4 then k46 u else (if (12 : Int32) ≤ x4 then k46 u else bd (fX3_letterAt x1 x2 x4 u) (fun r7 u8 => bd (fX3_kindOf r7 u8) (fun r10 u11 => (if r10 = (2 : Int32) then some ((1 : Int32), u11) else fX3_tokenBetween_10 k46 n x1 x2 x3 (x4 + (1 : Int32)) u11)))))
noncomputable def fX3_tokenBetween_46 (u : Wo) : Re := some ((0 : Int32), u)
noncomputable def fX3_tokenBetween (x1 x2 : Int32) (u : Wo) : Re := bd (fX3_underWay x1 x2 u) (fun r2 u3 => fX3_tokenBetween_10 fX3_tokenBetween_46 FU x1 x2 r2 (0 : Int32) u3)
noncomputable def fX3_tokenIsLost_22 (k47 : Int32 → Wo → Re) : Nat → Int32 → Int32 → Wo → Re
  | 0, _, _, _ => none
  | n + 1, x1, x2, u => (if (u 1 2) ≤ x2 then k47 x1 u else bd (fX3_tokenBetween x1 x2 u) (fun r8 u9 => (if r8 = (0 : Int32) then fX3_tokenIsLost_22 k47 n x1 (x2 + (1 : Int32)) u9 else some ((0 : Int32), u9))))
noncomputable def fX3_tokenIsLost_47 (k2 : Int32 → Wo → Re) (x1 : Int32) (u : Wo) : Re := k2 (x1 + (1 : Int32)) u
noncomputable def fX3_tokenIsLost_2 (k53 : Wo → Re) : Nat → Int32 → Wo → Re
  | 0, _, _ => none
  | n + 1, x1, u => (if (u 1 2) ≤ x1 then k53 u else bd (fX3_hasToken x1 u) (fun r3 u4 => (if r3 = (0 : Int32) then fX3_tokenIsLost_22 (fX3_tokenIsLost_47 (fX3_tokenIsLost_2 k53 n)) FU x1 (0 : Int32) u4 else some ((0 : Int32), u4))))
noncomputable def fX3_tokenIsLost_65 (s0 : Int32) (u : Wo) : Re := gi (zb s0) (some (s0, u))
noncomputable def fX3_tokenIsLost_53 (u : Wo) : Re := (if (u 1 1) = (0 : Int32) then fX3_tokenIsLost_65 (0 : Int32) u else fX3_tokenIsLost_65 (1 : Int32) u)
noncomputable def fX3_tokenIsLost (u : Wo) : Re := fX3_tokenIsLost_2 fX3_tokenIsLost_53 FU (0 : Int32) u
noncomputable def fX2_tally_51 (s1 : Int32) (s2 : Int32) (s3 : Int32) (u : Wo) : Re := gi (inb s1 7) (bw (wr u 13 (s1).toNatClampNeg (s2 + s3)) (fun u10 => gi (inb (6 : Int32) 7) (bd (fX3_underWayInAll u10) (fun r13 u14 => gi (inb (6 : Int32) 7) (bw (wr u14 13 ((6 : Int32)).toNatClampNeg (if (u10 13 ((6 : Int32)).toNatClampNeg) < r13 then r13 else (u10 13 ((6 : Int32)).toNatClampNeg))) (fun u16 => some ((0 : Int32), u16)))))))
noncomputable def fX2_tally_50 (s1 : Int32) (s2 : Int32) (u : Wo) : Re := fX2_tally_51 s1 s2 (0 : Int32) u
noncomputable def fX2_tally (u : Wo) : Re := bd (fX3_howMany (2 : Int32) u) (fun r2 u3 => gi (inb (2 : Int32) 7) (gi (inb (2 : Int32) 7) (bw (wr u3 13 ((2 : Int32)).toNatClampNeg (if (u3 13 ((2 : Int32)).toNatClampNeg) < r2 then r2 else (u3 13 ((2 : Int32)).toNatClampNeg))) (fun u6 => gi (inb (4 : Int32) 7) ((if r2 = (0 : Int32) then bd (fX3_tokenIsLost u6) (fun r18 u19 => (if r18 = (0 : Int32) then fX2_tally_50 (4 : Int32) (u6 13 ((4 : Int32)).toNatClampNeg) u19 else fX2_tally_51 (4 : Int32) (u6 13 ((4 : Int32)).toNatClampNeg) (1 : Int32) u19)) else fX2_tally_50 (4 : Int32) (u6 13 ((4 : Int32)).toNatClampNeg) u6))))))
noncomputable def fX2_weigh_32 (x1 : Int32) (u : Wo) : Re := bd (fX2_load x1 u) (fun r7 u8 => some ((0 : Int32), u8))
noncomputable def fX2_weigh (x1 : Int32) (u : Wo) : Re := (if (u 1 3) = (0 : Int32) then bw (wr u 5 9 (1 : Int32)) (fun u2 => bd (fX2_keep u2) (fun r4 u5 => fX2_weigh_32 x1 u5)) else gi (inb (5 : Int32) 7) (gi (inb (5 : Int32) 7) (bw (wr u 13 ((5 : Int32)).toNatClampNeg ((u 13 ((5 : Int32)).toNatClampNeg) + (1 : Int32))) (fun u11 => fX2_weigh_32 x1 u11))))
noncomputable def fX2_goFrom_87 (k47 : Int32 → Int32 → Int32 → Int32 → Wo → Re) (x1 : Int32) (x2 : Int32) (x3 : Int32) (x4 : Int32) (u : Wo) : Re := k47 x1 x2 x3 (x4 + (1 : Int32)) u
noncomputable def fX2_goFrom_47 (k93 : Int32 → Int32 → Int32 → Wo → Re) : Nat → Int32 → Int32 → Int32 → Int32 → Wo → Re
  | 0, _, _, _, _, _ => none
  | n + 1, x1, x2, x3, x4, u => (if (u 1 2) ≤ x4 then k93 x1 x2 x3 u else bd (fX3_underWay x3 x4 u) (fun r15 u16 => (if r15 ≤ (0 : Int32) then fX2_goFrom_87 (fX2_goFrom_47 k93 n) x1 x2 x3 x4 u16 else bd (fX4_coming x3 x4 u16) (fun r19 u20 => bd (fX2_weigh x1 u20) (fun r22 u23 => fX2_goFrom_87 (fX2_goFrom_47 k93 n) x1 x2 x3 x4 u23)))))
noncomputable def fX2_goFrom_93 (k33 : Int32 → Int32 → Int32 → Wo → Re) (x1 : Int32) (x2 : Int32) (x3 : Int32) (u : Wo) : Re := k33 x1 x2 (x3 + (1 : Int32)) u
noncomputable def fX2_goFrom_33 (k99 : Int32 → Int32 → Wo → Re) : Nat → Int32 → Int32 → Int32 → Wo → Re
  | 0, _, _, _, _ => none
  | n + 1, x1, x2, x3, u => (if (u 1 2) ≤ x3 then k99 x1 x2 u else fX2_goFrom_47 (fX2_goFrom_93 (fX2_goFrom_33 k99 n)) FU x1 x2 x3 (0 : Int32) u)
noncomputable def fX2_goFrom_138 (k101 : Int32 → Int32 → Int32 → Wo → Re) (x1 : Int32) (x2 : Int32) (x3 : Int32) (u : Wo) : Re := k101 x1 x2 (x3 + (1 : Int32)) u
noncomputable def fX2_goFrom_101 (k144 : Int32 → Wo → Re) : Nat → Int32 → Int32 → Int32 → Wo → Re
  | 0, _, _, _, _ => none
  | n + 1, x1, x2, x3, u => (if (u 1 2) ≤ x3 then k144 x2 u else bd (fX3_of x3 (0 : Int32) u) (fun r26 u27 => (if r26 = (2 : Int32) then bd (fX4_left x3 u27) (fun r30 u31 => bd (fX2_weigh x1 u31) (fun r33 u34 => fX2_goFrom_138 (fX2_goFrom_101 k144 n) x1 x2 x3 u34)) else fX2_goFrom_138 (fX2_goFrom_101 k144 n) x1 x2 x3 u27)))
noncomputable def fX2_goFrom_179 (u : Wo) : Re := some ((0 : Int32), u)
noncomputable def fX2_goFrom_177 (s1 : Int32) (s2 : Int32) (s3 : Int32) (u : Wo) : Re := gi (inb s1 7) (bw (wr u 13 (s1).toNatClampNeg (s2 + s3)) (fun u42 => fX2_goFrom_179 u42))
noncomputable def fX2_goFrom_144 (x2 : Int32) (u : Wo) : Re := (if (u 5 9) = (0 : Int32) then gi (inb (1 : Int32) 7) (gi (inb (1 : Int32) 7) (bw (wr u 13 ((1 : Int32)).toNatClampNeg ((u 13 ((1 : Int32)).toNatClampNeg) + (1 : Int32))) (fun u38 => gi (inb (3 : Int32) 7) ((if x2 = (0 : Int32) then fX2_goFrom_177 (3 : Int32) (u38 13 ((3 : Int32)).toNatClampNeg) (0 : Int32) u38 else fX2_goFrom_177 (3 : Int32) (u38 13 ((3 : Int32)).toNatClampNeg) (1 : Int32) u38))))) else fX2_goFrom_179 u)
noncomputable def fX2_goFrom_99 (x1 : Int32) (x2 : Int32) (u : Wo) : Re := fX2_goFrom_101 fX2_goFrom_144 FU x1 x2 (0 : Int32) u
noncomputable def fX2_goFrom_21 (x1 : Int32) (s0 : Int32) (u : Wo) : Re := bd (fX2_tally u) (fun r9 u10 => bw (wr u10 5 9 (0 : Int32)) (fun u11 => fX2_goFrom_33 fX2_goFrom_99 FU x1 s0 (0 : Int32) u11))
noncomputable def fX2_goFrom (x1 : Int32) (u : Wo) : Re := bd (fX2_load x1 u) (fun r2 u3 => bd (fX3_howMany (1 : Int32) u3) (fun r5 u6 => (if r5 ≤ (0 : Int32) then fX2_goFrom_21 x1 (0 : Int32) u6 else fX2_goFrom_21 x1 (1 : Int32) u6)))
noncomputable def fX3_copyFrom_12_36 (u : Wo) : Re := some ((0 : Int32), u)
noncomputable def fX3_copyFrom_12 (x2 x3 : Int32) (u : Wo) : Re := (if x2 < (0 : Int32) then fX3_copyFrom_12_36 u else (if x3 < (0 : Int32) then fX3_copyFrom_12_36 u else (if (618 : Int32) < x3 then fX3_copyFrom_12_36 u else (if ((618 : Int32) - x3) < x2 then fX3_copyFrom_12_36 u else gi (cpo x2 (0 : Int32) x3 618 618) (bw (wcp u 12 (x2).toNatClampNeg 6 ((0 : Int32)).toNatClampNeg (x3).toNatClampNeg) (fun u6 => fX3_copyFrom_12_36 u6))))))
noncomputable def fX2_goThrough_55 (k81 : Wo → Re) : Nat → Int32 → Wo → Re
  | 0, _, _ => none
  | n + 1, x1, u => (if (u 5 7) ≤ x1 then k81 u else (if (300 : Int32) ≤ x1 then k81 u else bd (fX2_goFrom x1 u) (fun r19 u20 => fX2_goThrough_55 k81 n (x1 + (1 : Int32)) u20)))
noncomputable def fX2_goThrough_130 (s0 : Int32) (u : Wo) : Re := some (s0, u)
noncomputable def fX2_goThrough_81 (u : Wo) : Re := bw (wr u 3 2 (1 : Int32)) (fun u21 => bd (fX3_copyFrom_12 (0 : Int32) (618 : Int32) u21) (fun r23 u24 => gi (inb (0 : Int32) 7) (bw (wr u24 13 ((0 : Int32)).toNatClampNeg (u24 5 7)) (fun u26 => (if (u26 5 8) = (0 : Int32) then fX2_goThrough_130 (u26 5 7) u26 else fX2_goThrough_130 (-5 : Int32) u26)))))
noncomputable def fX2_goThrough (u : Wo) : Re := bd (fJ7_fill_53178_13 (0 : Int32) u) (fun r2 u3 => bd (fJ7_fill_53178_11 (0 : Int32) u3) (fun r5 u6 => bw (wr u6 5 7 (0 : Int32)) (fun u7 => bw (wr u7 5 8 (0 : Int32)) (fun u8 => bd (fX3_copyTo_12 (0 : Int32) (618 : Int32) u8) (fun r10 u11 => bw (wr u11 3 2 (0 : Int32)) (fun u12 => bd (fX2_keep u12) (fun r14 u15 => fX2_goThrough_55 fX2_goThrough_81 FU (0 : Int32) u15)))))))
noncomputable def fX5_pass (u : Wo) : Re := (if (u 0 6) < (15 : Int32) then bw (wr u 0 6 ((u 0 6) + (1 : Int32))) (fun u2 => bd (fX2_goThrough u2) (fun r4 u5 => some (r4, u5))) else some ((-3 : Int32), u))
noncomputable def fX5_passed_16 (u : Wo) : Re := some ((-1 : Int32), u)
noncomputable def fX5_passed (x1 : Int32) (u : Wo) : Re := (if x1 < (0 : Int32) then fX5_passed_16 u else (if x1 < (7 : Int32) then gi (inb x1 7) (some ((u 13 (x1).toNatClampNeg), u)) else fX5_passed_16 u))
noncomputable def fX5_count (x1 : Int32) (u : Wo) : Re := (if x1 = (0 : Int32) then some ((u 1 2), u) else (if x1 = (1 : Int32) then some ((u 1 1), u) else (if x1 = (2 : Int32) then bd (fX3_get (611 : Int32) u) (fun r3 u4 => some (r3, u4)) else (if x1 = (3 : Int32) then bd (fX3_get (608 : Int32) u) (fun r6 u7 => some (r6, u7)) else (if x1 = (4 : Int32) then bd (fX3_get (609 : Int32) u) (fun r9 u10 => some (r9, u10)) else (if x1 = (5 : Int32) then bd (fX3_get (610 : Int32) u) (fun r12 u13 => some (r12, u13)) else (if x1 = (6 : Int32) then bd (fX3_underWayInAll u) (fun r15 u16 => some (r15, u16)) else (if x1 = (7 : Int32) then bd (fX3_howMany (2 : Int32) u) (fun r18 u19 => some (r18, u19)) else (if x1 = (8 : Int32) then bd (fX3_howMany (1 : Int32) u) (fun r21 u22 => some (r21, u22)) else (if x1 = (9 : Int32) then some ((u 4 3), u) else (some ((-1 : Int32), u))))))))))))
