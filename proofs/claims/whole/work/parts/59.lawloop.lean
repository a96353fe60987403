-- the law: its loop
theorem law_loop {p : Program} {l : Launch} {e : Env} {s : State} {m : MethodId} {args : Array Value} {below : List Frame} {meth : Method} {c : Code} {Q : State → Prop} {dC : Nat → ClassId} {dI : Nat → Nat → Nat} {cA : ClassId} {ad ad2 : Nat → Nat} {b L : Nat} {xs : Nat → Int32} (S : CallFix p m c cL_law 4 s args TG RL) (hK : va_K (dC, dI) vwCl [(cA, .int)] s) (hap : AP ad 14) (hap2 : AP ad2 9) (hAC : ∀ q, AF ad 14 q → LA s q) (hAM : ∀ q, AF ad2 9 q → LA s q) (hdM : ∀ (z : Wo) (k : Nat) (x : Nat × va_E), (WM ad2 cA z)[k]? = some x → ¬ AF ad 14 x.1) (hdC : ∀ (z : Wo) (k : Nat) (x : Nat × va_E), (WC ad cA z)[k]? = some x → ¬ AF ad2 9 x.1) (hX : va_X b L xs s s.heap) (hbl : b < s.heap.size) (hL : L ≤ 2560)
    (hend : ∀ (H : Heap) (locs : List Loc) (ls : Array Slot), va_S (LA s) s.heap H locs → W p l e room_1 s m args below meth c H locs 23 556840 Q (F0 m 550 ls [.int 1])) : ∀ (d t : Nat) (u v : Wo), L < 5 * t + 5 * d + 5 → t ≤ 513 → GG (64 + 100 * t) u v → LK_ p l e s m args below meth c Q dC dI cA ad ad2 b (nI (5 * t)) u v 18 := by
  intro d
  induction d with
  | zero => ?_
  | succ d ih => ?_
  all_goals
    intro t u v hm ht hG H locs ls hPC hPM hS hl
    have hx := S.1
    have hb := S.2.1
    refine lv_iload_n hx hb dL_law_18 rfl (lv_at hl 0 rfl) ?_
    refine lv_aload_n hx hb dL_law_19 rfl (lv_at hl 3 rfl) ?_
    refine va_slen hx hb hX hbl (Nat.not_le.mpr hbl) hS dL_law_20 ?_
    refine lv_iconst (v := 5) hx hb dL_law_21 (by decide) ?_
    refine lv_isub hx hb dL_law_22 ?_
    have hsub : (nI L - nI 5).toInt = (L : Int) - 5 := pk_sub_toInt (by omega) (by decide)
    have hix : (nI (5 * t)).toInt = ((5 * t : Nat) : Int) := nI_toInt (by omega)
    refine lv_icmp_gt (tgt := 549) hx hb dL_law_23 (by decide) (fun q => ?_) (fun q => ?_)
    · refine lv_iconst (v := 1) hx hb dL_law_549 (by decide) ?_
      exact hend H locs ls hS
    have hlt : 5 * t + 5 ≤ L := by
      refine Decidable.by_contra (fun z => q ?_)
      rw [Int32.lt_iff_toInt_lt]
      show (nI L - nI 5).toInt < (nI (5 * t)).toInt
      rw [hsub, hix]
      omega
  · omega
  have hin : ∀ k : Nat, k < 5 → vp_in (nI (5 * t) + nI k) L := fun k hk => by
    rw [nI_add]
    exact vp_in_nI (by omega) (by omega)
  refine lv_aload_n hx hb dL_law_26 rfl (lv_at hl 3 rfl) ?_
  refine lv_iload_n hx hb dL_law_27 rfl (lv_at hl 0 rfl) ?_
  refine va_sld hx hb hX hbl (Nat.not_le.mpr hbl) hS (vp_in_nI (by omega) (by omega)) dL_law_28 ?_
  refine lv_bipush (v := 15) hx hb dL_law_29 (by decide) ?_
  refine lv_iand hx hb dL_law_31 ?_
  have kk : ∀ u1 v1, GG (64 + 100 * t + 100) u1 v1 → LK_ p l e s m args below meth c Q dC dI cA ad ad2 b (nI (5 * t)) u1 v1 543 := fun u1 v1 g H locs ls hPC hPM hS hl => by
    refine lv_iinc (v := nI (5 * (t + 1))) (lv' := [(3, .int (nI (5 * (t + 1)))), (2, .ref (ad2 0)), (1, .ref (ad 0)), (0, .ref b)]) hx hb dL_law_543 hl (k := 0) rfl (nI_add (5 * t) 5) (by decide) rfl (fun ls hl => ?_)
    refine lv_goto (tgt := 18) hx hb dL_law_546 (by decide) ?_
    exact ih (t + 1) u1 v1 (by omega) (by omega) (by rw [show 64 + 100 * (t + 1) = 64 + 100 * t + 100 by omega]; exact g) H locs ls hPC hPM hS hl
  have ops := law_ops (B := 64 + 100 * t) (by omega) hG (xs (nI (5 * t) + (1 : Int32)).toNatClampNeg) (xs (nI (5 * t) + (2 : Int32)).toNatClampNeg) (xs (nI (5 * t) + (3 : Int32)).toNatClampNeg) (xs (nI (5 * t) + (4 : Int32)).toNatClampNeg)
  obtain ⟨j, hj, ej⟩ := pk_andE (xs (nI (5 * t)).toNatClampNeg) (m := 15) 4 (by decide)
  rw [ej]
  rcases (show j = 0 ∨ j = 1 ∨ j = 2 ∨ j = 3 ∨ j = 4 ∨ j = 5 ∨ j = 6 ∨ j = 7 ∨ j = 8 ∨ j = 9 ∨ j = 10 ∨ j = 11 ∨ j = 12 ∨ j = 13 ∨ j = 14 ∨ j = 15 by omega) with rfl | rfl | rfl | rfl | rfl | rfl | rfl | rfl | rfl | rfl | rfl | rfl | rfl | rfl | rfl | rfl
  · refine lv_tableIn (tgt := 108) (off := 76) hx hb dL_law_32 (by decide) (by decide) (by decide) (by decide) ?_
    exact lc_0 S hK hap hap2 hAC hAM hdM hdC hX hbl hin ops.1 kk H locs ls hPC hPM hS hl
  · refine lv_tableIn (tgt := 141) (off := 109) hx hb dL_law_32 (by decide) (by decide) (by decide) (by decide) ?_
    exact lc_1 S hK hap hap2 hAC hAM hdM hdC hX hbl hin ops.2.1 kk H locs ls hPC hPM hS hl
  · refine lv_tableIn (tgt := 174) (off := 142) hx hb dL_law_32 (by decide) (by decide) (by decide) (by decide) ?_
    exact lc_2 S hK hap hap2 hAC hAM hdM hdC hX hbl hin ops.2.2.1 kk H locs ls hPC hPM hS hl
  · refine lv_tableIn (tgt := 197) (off := 165) hx hb dL_law_32 (by decide) (by decide) (by decide) (by decide) ?_
    exact lc_3 S hK hap hap2 hAC hAM hdM hdC hX hbl hin ops.2.2.2.1 kk H locs ls hPC hPM hS hl
  · refine lv_tableIn (tgt := 220) (off := 188) hx hb dL_law_32 (by decide) (by decide) (by decide) (by decide) ?_
    exact lc_4 S hK hap hap2 hAC hAM hdM hdC hX hbl hin ops.2.2.2.2.1 kk H locs ls hPC hPM hS hl
  · refine lv_tableIn (tgt := 253) (off := 221) hx hb dL_law_32 (by decide) (by decide) (by decide) (by decide) ?_
    exact lc_5 S hK hap hap2 hAC hAM hdM hdC hX hbl hin ops.2.2.2.2.2.1 kk H locs ls hPC hPM hS hl
  · refine lv_tableIn (tgt := 286) (off := 254) hx hb dL_law_32 (by decide) (by decide) (by decide) (by decide) ?_
    exact lc_6 S hK hap hap2 hAC hAM hdM hdC hX hbl hin ops.2.2.2.2.2.2.1 kk H locs ls hPC hPM hS hl
  · refine lv_tableIn (tgt := 319) (off := 287) hx hb dL_law_32 (by decide) (by decide) (by decide) (by decide) ?_
    exact lc_7 S hK hap hap2 hAC hAM hdM hdC hX hbl hin ops.2.2.2.2.2.2.2.1 kk H locs ls hPC hPM hS hl
  · refine lv_tableIn (tgt := 352) (off := 320) hx hb dL_law_32 (by decide) (by decide) (by decide) (by decide) ?_
    exact lc_8 S hK hap hap2 hAC hAM hdM hdC hX hbl hin ops.2.2.2.2.2.2.2.2.1 kk H locs ls hPC hPM hS hl
  · refine lv_tableIn (tgt := 385) (off := 353) hx hb dL_law_32 (by decide) (by decide) (by decide) (by decide) ?_
    exact lc_9 S hK hap hap2 hAC hAM hdM hdC hX hbl hin ops.2.2.2.2.2.2.2.2.2.1 kk H locs ls hPC hPM hS hl
  · refine lv_tableIn (tgt := 438) (off := 406) hx hb dL_law_32 (by decide) (by decide) (by decide) (by decide) ?_
    exact lc_10 S hK hap hap2 hAC hAM hdM hdC hX hbl hin ops.2.2.2.2.2.2.2.2.2.2.1 kk H locs ls hPC hPM hS hl
  · refine lv_tableIn (tgt := 471) (off := 439) hx hb dL_law_32 (by decide) (by decide) (by decide) (by decide) ?_
    exact lc_11 S hK hap hap2 hAC hAM hdM hdC hX hbl hin ops.2.2.2.2.2.2.2.2.2.2.2.1 kk H locs ls hPC hPM hS hl
  · refine lv_tableIn (tgt := 484) (off := 452) hx hb dL_law_32 (by decide) (by decide) (by decide) (by decide) ?_
    exact lc_12 S hK hap hap2 hAC hAM hdM hdC hX hbl hin ops.2.2.2.2.2.2.2.2.2.2.2.2.1 kk H locs ls hPC hPM hS hl
  · refine lv_tableIn (tgt := 497) (off := 465) hx hb dL_law_32 (by decide) (by decide) (by decide) (by decide) ?_
    exact lc_13 S hK hap hap2 hAC hAM hdM hdC hX hbl hin ops.2.2.2.2.2.2.2.2.2.2.2.2.2.1 kk H locs ls hPC hPM hS hl
  · refine lv_tableIn (tgt := 520) (off := 488) hx hb dL_law_32 (by decide) (by decide) (by decide) (by decide) ?_
    exact lc_14 S hK hap hap2 hAC hAM hdM hdC hX hbl hin ops.2.2.2.2.2.2.2.2.2.2.2.2.2.2 kk H locs ls hPC hPM hS hl
  · refine lv_tableOut (tgt := 543) hx hb dL_law_32 (by decide) (by decide) ?_
    exact kk u v (GG_mono hG (by omega)) H locs ls hPC hPM hS hl
