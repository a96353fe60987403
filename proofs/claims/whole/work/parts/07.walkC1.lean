theorem hy_X4_leftByToken : yX4_leftByToken.cls ≠ "java/lang/invoke/MethodHandle" ∧ yX4_leftByToken.cls ≠ "java/lang/invoke/VarHandle" ∧ (parseMethodDescriptor yX4_leftByToken.desc).map (fun d => d.parameters.length) = some 1 := by decide +kernel
set_option maxHeartbeats 4000000 in
set_option maxRecDepth 100000 in
theorem k_X4_leftByToken {l : Launch} {dC : Nat → ClassId} {dI : Nat → Nat → Nat} {ad : Nat → Nat} {cI : ClassId} (hap : AP ad 14) {x1 : Int32} {u uf : Wo} {rf : Int32} (h : fX4_leftByToken x1 u = some (rf, uf)) : CV l dC dI cI (WC ad cI) (AF ad 14) yX4_leftByToken cX4_leftByToken 3 none 3 70 [.ref (ad 3), .int x1] u uf := by
  refine cv_begin (by decide) (Nat.le_of_ble_eq_true rfl) ?_
  intro p e s m args below meth c S hr hlk hK
  have B_66 : ∀ (k22 : Int32 → Int32 → Wo → Re) (hk22 : ∀ (x1 : Int32) (x2 : Int32) (u : Wo), k22 x1 x2 u = some (rf, uf) → J p l e (rmk 3 70) s m args below meth c dC dI (WC ad cI) (AF ad 14) (MQ below (QV dC dI cI (WC ad cI) (AF ad 14) uf) args s 0 0 (AF ad 14)) u 22 3 [(0, .ref (ad 3)), (1, .int x1), (2, .int x2)] []) (x1 : Int32) (x2 : Int32) (u : Wo), fX4_leftByToken_66 k22 x1 x2 u = some (rf, uf) → J p l e (rmk 3 70) s m args below meth c dC dI (WC ad cI) (AF ad 14) (MQ below (QV dC dI cI (WC ad cI) (AF ad 14) uf) args s 0 0 (AF ad 14)) u 66 3 [(0, .ref (ad 3)), (1, .int x1), (2, .int x2)] [] := by
    intro k22 hk22 x1 x2 u h H locs ls hP hS hl
    unfold fX4_leftByToken_66 at h
    refine lv_iinc (v := (x2 + (1 : Int32))) (lv' := [(2, .int (x2 + (1 : Int32))), (0, .ref (ad 3)), (1, .int x1)]) S.1 S.2.1 dX4_leftByToken_66 hl (k := 2) rfl rfl (by decide) rfl (fun ls hl => ?_)
    refine lv_goto (tgt := 22) S.1 S.2.1 dX4_leftByToken_69 (by decide) ?_
    exact hk22 _ _ u h _ _ _ hP hS (lv_sub hl [1, 2, 0] rfl)
  have B_22 : ∀ (k72 : Int32 → Wo → Re) (hk72 : ∀ (x1 : Int32) (u : Wo), k72 x1 u = some (rf, uf) → J p l e (rmk 3 70) s m args below meth c dC dI (WC ad cI) (AF ad 14) (MQ below (QV dC dI cI (WC ad cI) (AF ad 14) uf) args s 0 0 (AF ad 14)) u 72 3 [(0, .ref (ad 3)), (1, .int x1)] []) (n : Nat) (x1 : Int32) (x2 : Int32) (u : Wo), fX4_leftByToken_22 k72 n x1 x2 u = some (rf, uf) → J p l e (rmk 3 70) s m args below meth c dC dI (WC ad cI) (AF ad 14) (MQ below (QV dC dI cI (WC ad cI) (AF ad 14) uf) args s 0 0 (AF ad 14)) u 22 3 [(0, .ref (ad 3)), (1, .int x1), (2, .int x2)] [] := by
    intro k72 hk72
    intro n
    induction n with
    | zero => intro x1 x2 u h; cases h
    | succ n ih =>
      intro x1 x2 u h H locs ls hP hS hl
      rw [fX4_leftByToken_22.eq_2] at h
      refine lv_iload_n S.1 S.2.1 dX4_leftByToken_22 rfl (lv_at hl 2 rfl) ?_
      refine lv_aload_n S.1 S.2.1 dX4_leftByToken_23 rfl (lv_at hl 0 rfl) ?_
      refine gC_3_stand S hK hP wf_X4_9 dX4_leftByToken_24 ?_
      refine gC_1_n S hK hP wf_X4_88 dX4_leftByToken_27 ?_
      refine lv_icmp_ge (tgt := 72) S.1 S.2.1 dX4_leftByToken_30 (by decide) (fun c7 => ?_) (fun c7 => ?_)
      · rw [if_pos c7] at h
        exact hk72 _ u h _ _ _ hP hS (lv_sub hl [0, 1] rfl)
      · rw [if_neg c7] at h
        refine lv_aload_n S.1 S.2.1 dX4_leftByToken_33 rfl (lv_at hl 0 rfl) ?_
        refine gC_3_stand S hK hP wf_X4_9 dX4_leftByToken_34 ?_
        refine lv_iload_n S.1 S.2.1 dX4_leftByToken_37 rfl (lv_at hl 2 rfl) ?_
        obtain ⟨r9, u10, q8, h⟩ := bd_some h
        refine x_vi (Wf := WC ad cI) (q0 := 1) (ci := 3) (As := [.int x2]) (rest := []) S hK hP hS (k_X3_rowHas hap q8) rfl rfl wl_X4_141 wi_X3_rowHas ws_X3_rowHas wz_X3 wc_X3_rowHas hy_X3_rowHas ⟨Nat.le_of_ble_eq_true rfl, Nat.le_of_ble_eq_true rfl⟩ hl.1 rfl (Nat.le_of_ble_eq_true rfl) dX4_leftByToken_38 (fun H locs hP hS => ?_)
        refine lv_if_ne (tgt := 66) S.1 S.2.1 dX4_leftByToken_41 (by decide) (fun c11 => ?_) (fun c11 => ?_)
        · rw [if_neg c11] at h
          exact B_66 _ ih _ _ u10 h _ _ _ hP hS (lv_sub hl [0, 1, 2] rfl)
        · rw [if_pos c11] at h
          refine lv_aload_n S.1 S.2.1 dX4_leftByToken_44 rfl (lv_at hl 0 rfl) ?_
          refine lv_iload_n S.1 S.2.1 dX4_leftByToken_45 rfl (lv_at hl 1 rfl) ?_
          refine lv_iload_n S.1 S.2.1 dX4_leftByToken_46 rfl (lv_at hl 2 rfl) ?_
          obtain ⟨r13, u14, q12, h⟩ := bd_some h
          refine x_vi (Wf := WC ad cI) (q0 := 3) (ci := 4) (As := [.int x1, .int x2]) (rest := []) S hK hP hS (k_X4_isDue hap q12) rfl rfl wl_X4_134 wi_X4_isDue ws_X4_isDue wz_X4 wc_X4_isDue hy_X4_isDue ⟨Nat.le_of_ble_eq_true rfl, Nat.le_of_ble_eq_true rfl⟩ hl.1 rfl (Nat.le_of_ble_eq_true rfl) dX4_leftByToken_47 (fun H locs hP hS => ?_)
          refine lv_if_eq (tgt := 66) S.1 S.2.1 dX4_leftByToken_50 (by decide) (fun c15 => ?_) (fun c15 => ?_)
          · rw [if_pos c15] at h
            exact B_66 _ ih _ _ u14 h _ _ _ hP hS (lv_sub hl [0, 1, 2] rfl)
          · rw [if_neg c15] at h
            refine lv_aload_n S.1 S.2.1 dX4_leftByToken_53 rfl (lv_at hl 0 rfl) ?_
            refine gC_3_stand S hK hP wf_X4_9 dX4_leftByToken_54 ?_
            refine lv_bipush (v := (37 : Int32)) S.1 S.2.1 dX4_leftByToken_57 (by decide) ?_
            refine lv_bipush (v := (6 : Int32)) S.1 S.2.1 dX4_leftByToken_59 (by decide) ?_
            refine lv_iload_n S.1 S.2.1 dX4_leftByToken_61 rfl (lv_at hl 2 rfl) ?_
            obtain ⟨r17, u18, q16, h⟩ := bd_some h
            refine x_vi (Wf := WC ad cI) (q0 := 1) (ci := 3) (As := [.int (37 : Int32), .int (6 : Int32), .int x2]) (rest := []) S hK hP hS (k_X3_append hap q16) rfl rfl wl_X4_144 wi_X3_append ws_X3_append wz_X3 wc_X3_append hy_X3_append ⟨Nat.le_of_ble_eq_true rfl, Nat.le_of_ble_eq_true rfl⟩ hl.1 rfl (Nat.le_of_ble_eq_true rfl) dX4_leftByToken_62 (fun H locs hP hS => ?_)
            refine lv_pop S.1 S.2.1 dX4_leftByToken_65 rfl ?_
            exact B_66 _ ih _ _ u18 h _ _ _ hP hS (lv_sub hl [0, 1, 2] rfl)
  have B_100 : ∀ (u : Wo), fX4_leftByToken_100 u = some (rf, uf) → J p l e (rmk 3 70) s m args below meth c dC dI (WC ad cI) (AF ad 14) (MQ below (QV dC dI cI (WC ad cI) (AF ad 14) uf) args s 0 0 (AF ad 14)) u 100 3 [] [] := by
    intro u h H locs ls hP hS hl
    unfold fX4_leftByToken_100 at h
    exact x_vret S hr hlk hK hP hS h dX4_leftByToken_100
  have B_72 : ∀ (x1 : Int32) (u : Wo), fX4_leftByToken_72 x1 u = some (rf, uf) → J p l e (rmk 3 70) s m args below meth c dC dI (WC ad cI) (AF ad 14) (MQ below (QV dC dI cI (WC ad cI) (AF ad 14) uf) args s 0 0 (AF ad 14)) u 72 3 [(0, .ref (ad 3)), (1, .int x1)] [] := by
    intro x1 u h H locs ls hP hS hl
    unfold fX4_leftByToken_72 at h
    refine lv_aload_n S.1 S.2.1 dX4_leftByToken_72 rfl (lv_at hl 0 rfl) ?_
    refine gC_3_stand S hK hP wf_X4_9 dX4_leftByToken_73 ?_
    refine lv_bipush (v := (37 : Int32)) S.1 S.2.1 dX4_leftByToken_76 (by decide) ?_
    obtain ⟨r20, u21, q19, h⟩ := bd_some h
    refine x_vi (Wf := WC ad cI) (q0 := 1) (ci := 3) (As := [.int (37 : Int32)]) (rest := []) S hK hP hS (k_X3_get hap q19) rfl rfl wl_X4_32 wi_X3_get ws_X3_get wz_X3 wc_X3_get hy_X3_get ⟨Nat.le_of_ble_eq_true rfl, Nat.le_of_ble_eq_true rfl⟩ hl.1 rfl (Nat.le_of_ble_eq_true rfl) dX4_leftByToken_78 (fun H locs hP hS => ?_)
    refine lv_if_le (tgt := 100) S.1 S.2.1 dX4_leftByToken_81 (by decide) (fun c22 => ?_) (fun c22 => ?_)
    · rw [if_pos c22] at h
      exact B_100 u21 h _ _ _ hP hS (lv_sub hl [] rfl)
    · rw [if_neg c22] at h
      refine lv_aload_n S.1 S.2.1 dX4_leftByToken_84 rfl (lv_at hl 0 rfl) ?_
      refine lv_iload_n S.1 S.2.1 dX4_leftByToken_85 rfl (lv_at hl 1 rfl) ?_
      refine lv_aload_n S.1 S.2.1 dX4_leftByToken_86 rfl (lv_at hl 0 rfl) ?_
      refine gC_3_stand S hK hP wf_X4_9 dX4_leftByToken_87 ?_
      refine lv_bipush (v := (37 : Int32)) S.1 S.2.1 dX4_leftByToken_90 (by decide) ?_
      refine lv_bipush (v := (6 : Int32)) S.1 S.2.1 dX4_leftByToken_92 (by decide) ?_
      obtain ⟨r24, u25, q23, h⟩ := bd_some h
      refine x_vi (Wf := WC ad cI) (q0 := 1) (ci := 3) (As := [.int (37 : Int32), .int (6 : Int32)]) (rest := [.int x1, .ref (ad 3)]) S hK hP hS (k_X3_takeFirst hap q23) rfl rfl wl_X4_147 wi_X3_takeFirst ws_X3_takeFirst wz_X3 wc_X3_takeFirst hy_X3_takeFirst ⟨Nat.le_of_ble_eq_true rfl, Nat.le_of_ble_eq_true rfl⟩ hl.1 rfl (Nat.le_of_ble_eq_true rfl) dX4_leftByToken_94 (fun H locs hP hS => ?_)
      obtain ⟨r27, u28, q26, h⟩ := bd_some h
      refine x_vv (Wf := WC ad cI) (q0 := 3) (ci := 4) (As := [.int x1, .int r24]) (rest := []) S hK hP hS (k_X4_passToken hap q26) rfl rfl wl_X4_138 wi_X4_passToken ws_X4_passToken wz_X4 wc_X4_passToken hy_X4_passToken ⟨Nat.le_of_ble_eq_true rfl, Nat.le_of_ble_eq_true rfl⟩ hl.1 rfl (Nat.le_of_ble_eq_true rfl) dX4_leftByToken_97 (fun H locs hP hS => ?_)
      exact B_100 u28 h _ _ _ hP hS (lv_sub hl [] rfl)
  intro H locs ls hP hS hl
  have hl : lv_has ls 3 [(0, .ref (ad 3)), (1, .int x1)] := hl
  unfold fX4_leftByToken at h
  refine lv_aload_n S.1 S.2.1 dX4_leftByToken_0 rfl (lv_at hl 0 rfl) ?_
  refine gC_3_stand S hK hP wf_X4_9 dX4_leftByToken_1 ?_
  refine lv_bipush (v := (31 : Int32)) S.1 S.2.1 dX4_leftByToken_4 (by decide) ?_
  refine lv_iload_n S.1 S.2.1 dX4_leftByToken_6 rfl (lv_at hl 1 rfl) ?_
  refine lv_iadd S.1 S.2.1 dX4_leftByToken_7 ?_
  refine lv_aload_n S.1 S.2.1 dX4_leftByToken_8 rfl (lv_at hl 0 rfl) ?_
  refine gC_3_stand S hK hP wf_X4_9 dX4_leftByToken_9 ?_
  refine lv_iload_n S.1 S.2.1 dX4_leftByToken_12 rfl (lv_at hl 1 rfl) ?_
  refine lv_iload_n S.1 S.2.1 dX4_leftByToken_13 rfl (lv_at hl 1 rfl) ?_
  obtain ⟨r2, u3, q1, h⟩ := bd_some h
  refine x_vi (Wf := WC ad cI) (q0 := 1) (ci := 3) (As := [.int x1, .int x1]) (rest := [.int ((31 : Int32) + x1), .ref (ad 1)]) S hK hP hS (k_X3_known hap q1) rfl rfl wl_X4_128 wi_X3_known ws_X3_known wz_X3 wc_X3_known hy_X3_known ⟨Nat.le_of_ble_eq_true rfl, Nat.le_of_ble_eq_true rfl⟩ hl.1 rfl (Nat.le_of_ble_eq_true rfl) dX4_leftByToken_14 (fun H locs hP hS => ?_)
  obtain ⟨r5, u6, q4, h⟩ := bd_some h
  refine x_vv (Wf := WC ad cI) (q0 := 1) (ci := 3) (As := [.int ((31 : Int32) + x1), .int r2]) (rest := []) S hK hP hS (k_X3_put hap q4) rfl rfl wl_X4_36 wi_X3_put ws_X3_put wz_X3 wc_X3_put hy_X3_put ⟨Nat.le_of_ble_eq_true rfl, Nat.le_of_ble_eq_true rfl⟩ hl.1 rfl (Nat.le_of_ble_eq_true rfl) dX4_leftByToken_17 (fun H locs hP hS => ?_)
  refine lv_iconst (v := (0 : Int32)) S.1 S.2.1 dX4_leftByToken_20 (by decide) ?_
  refine lv_istore_n (lv' := [(2, .int (0 : Int32)), (0, .ref (ad 3)), (1, .int x1)]) S.1 S.2.1 dX4_leftByToken_21 rfl hl (by decide) rfl (fun ls hl => ?_)
  exact B_22 _ B_72 FU _ _ u6 h _ _ _ hP hS (lv_sub hl [1, 2, 0] rfl)
theorem hy_X4_leftByAsking : yX4_leftByAsking.cls ≠ "java/lang/invoke/MethodHandle" ∧ yX4_leftByAsking.cls ≠ "java/lang/invoke/VarHandle" ∧ (parseMethodDescriptor yX4_leftByAsking.desc).map (fun d => d.parameters.length) = some 1 := by decide +kernel
set_option maxHeartbeats 4000000 in
set_option maxRecDepth 100000 in
theorem k_X4_leftByAsking {l : Launch} {dC : Nat → ClassId} {dI : Nat → Nat → Nat} {ad : Nat → Nat} {cI : ClassId} (hap : AP ad 14) {x1 : Int32} {u uf : Wo} {rf : Int32} (h : fX4_leftByAsking x1 u = some (rf, uf)) : CV l dC dI cI (WC ad cI) (AF ad 14) yX4_leftByAsking cX4_leftByAsking 4 none 2 48 [.ref (ad 3), .int x1] u uf := by
  refine cv_begin (by decide) (Nat.le_of_ble_eq_true rfl) ?_
  intro p e s m args below meth c S hr hlk hK
  have B_43 : ∀ (k13 : Int32 → Int32 → Int32 → Wo → Re) (hk13 : ∀ (x1 : Int32) (x2 : Int32) (x3 : Int32) (u : Wo), k13 x1 x2 x3 u = some (rf, uf) → J p l e (rmk 2 48) s m args below meth c dC dI (WC ad cI) (AF ad 14) (MQ below (QV dC dI cI (WC ad cI) (AF ad 14) uf) args s 0 0 (AF ad 14)) u 13 4 [(0, .ref (ad 3)), (1, .int x1), (2, .int x2), (3, .int x3)] []) (x1 : Int32) (x2 : Int32) (x3 : Int32) (u : Wo), fX4_leftByAsking_43 k13 x1 x2 x3 u = some (rf, uf) → J p l e (rmk 2 48) s m args below meth c dC dI (WC ad cI) (AF ad 14) (MQ below (QV dC dI cI (WC ad cI) (AF ad 14) uf) args s 0 0 (AF ad 14)) u 43 4 [(0, .ref (ad 3)), (1, .int x1), (2, .int x2), (3, .int x3)] [] := by
    intro k13 hk13 x1 x2 x3 u h H locs ls hP hS hl
    unfold fX4_leftByAsking_43 at h
    refine lv_iinc (v := (x3 + (1 : Int32))) (lv' := [(3, .int (x3 + (1 : Int32))), (0, .ref (ad 3)), (1, .int x1), (2, .int x2)]) S.1 S.2.1 dX4_leftByAsking_43 hl (k := 3) rfl rfl (by decide) rfl (fun ls hl => ?_)
    refine lv_goto (tgt := 13) S.1 S.2.1 dX4_leftByAsking_46 (by decide) ?_
    exact hk13 _ _ _ u h _ _ _ hP hS (lv_sub hl [1, 2, 3, 0] rfl)
  have B_13 : ∀ (k49 : Int32 → Wo → Re) (hk49 : ∀ (x1 : Int32) (u : Wo), k49 x1 u = some (rf, uf) → J p l e (rmk 2 48) s m args below meth c dC dI (WC ad cI) (AF ad 14) (MQ below (QV dC dI cI (WC ad cI) (AF ad 14) uf) args s 0 0 (AF ad 14)) u 49 4 [(0, .ref (ad 3)), (1, .int x1)] []) (n : Nat) (x1 : Int32) (x2 : Int32) (x3 : Int32) (u : Wo), fX4_leftByAsking_13 k49 n x1 x2 x3 u = some (rf, uf) → J p l e (rmk 2 48) s m args below meth c dC dI (WC ad cI) (AF ad 14) (MQ below (QV dC dI cI (WC ad cI) (AF ad 14) uf) args s 0 0 (AF ad 14)) u 13 4 [(0, .ref (ad 3)), (1, .int x1), (2, .int x2), (3, .int x3)] [] := by
    intro k49 hk49
    intro n
    induction n with
    | zero => intro x1 x2 x3 u h; cases h
    | succ n ih =>
      intro x1 x2 x3 u h H locs ls hP hS hl
      rw [fX4_leftByAsking_13.eq_2] at h
      refine lv_iload_n S.1 S.2.1 dX4_leftByAsking_13 rfl (lv_at hl 3 rfl) ?_
      refine lv_aload_n S.1 S.2.1 dX4_leftByAsking_14 rfl (lv_at hl 0 rfl) ?_
      refine gC_3_stand S hK hP wf_X4_9 dX4_leftByAsking_15 ?_
      refine gC_1_n S hK hP wf_X4_88 dX4_leftByAsking_18 ?_
      refine lv_icmp_ge (tgt := 49) S.1 S.2.1 dX4_leftByAsking_21 (by decide) (fun c4 => ?_) (fun c4 => ?_)
      · rw [if_pos c4] at h
        exact hk49 _ u h _ _ _ hP hS (lv_sub hl [0, 1] rfl)
      · rw [if_neg c4] at h
        refine lv_iload_n S.1 S.2.1 dX4_leftByAsking_24 rfl (lv_at hl 2 rfl) ?_
        refine lv_iload_n S.1 S.2.1 dX4_leftByAsking_25 rfl (lv_at hl 3 rfl) ?_
        refine lv_ishr S.1 S.2.1 dX4_leftByAsking_26 ?_
        refine lv_iconst (v := (1 : Int32)) S.1 S.2.1 dX4_leftByAsking_27 (by decide) ?_
        refine lv_iand S.1 S.2.1 dX4_leftByAsking_28 ?_
        refine lv_if_eq (tgt := 43) S.1 S.2.1 dX4_leftByAsking_29 (by decide) (fun c5 => ?_) (fun c5 => ?_)
        · rw [if_pos c5] at h
          exact B_43 _ ih _ _ _ u h _ _ _ hP hS (lv_sub hl [0, 1, 2, 3] rfl)
        · rw [if_neg c5] at h
          refine lv_aload_n S.1 S.2.1 dX4_leftByAsking_32 rfl (lv_at hl 0 rfl) ?_
          refine gC_3_stand S hK hP wf_X4_9 dX4_leftByAsking_33 ?_
          refine lv_iload_n S.1 S.2.1 dX4_leftByAsking_36 rfl (lv_at hl 1 rfl) ?_
          refine lv_iload_n S.1 S.2.1 dX4_leftByAsking_37 rfl (lv_at hl 3 rfl) ?_
          refine lv_iconst (v := (1 : Int32)) S.1 S.2.1 dX4_leftByAsking_38 (by decide) ?_
          refine lv_iconst (v := (0 : Int32)) S.1 S.2.1 dX4_leftByAsking_39 (by decide) ?_
          obtain ⟨r7, u8, q6, h⟩ := bd_some h
          refine x_vv (Wf := WC ad cI) (q0 := 1) (ci := 3) (As := [.int x1, .int x3, .int (1 : Int32), .int (0 : Int32)]) (rest := []) S hK hP hS (k_X3_send hap q6) rfl rfl wl_X4_118 wi_X3_send ws_X3_send wz_X3 wc_X3_send hy_X3_send ⟨Nat.le_of_ble_eq_true rfl, Nat.le_of_ble_eq_true rfl⟩ hl.1 rfl (Nat.le_of_ble_eq_true rfl) dX4_leftByAsking_40 (fun H locs hP hS => ?_)
          exact B_43 _ ih _ _ _ u8 h _ _ _ hP hS (lv_sub hl [0, 1, 2, 3] rfl)
  have B_49 : ∀ (x1 : Int32) (u : Wo), fX4_leftByAsking_49 x1 u = some (rf, uf) → J p l e (rmk 2 48) s m args below meth c dC dI (WC ad cI) (AF ad 14) (MQ below (QV dC dI cI (WC ad cI) (AF ad 14) uf) args s 0 0 (AF ad 14)) u 49 4 [(0, .ref (ad 3)), (1, .int x1)] [] := by
    intro x1 u h H locs ls hP hS hl
    unfold fX4_leftByAsking_49 at h
    refine lv_aload_n S.1 S.2.1 dX4_leftByAsking_49 rfl (lv_at hl 0 rfl) ?_
    refine gC_3_stand S hK hP wf_X4_9 dX4_leftByAsking_50 ?_
    refine lv_iload_n S.1 S.2.1 dX4_leftByAsking_53 rfl (lv_at hl 1 rfl) ?_
    refine lv_bipush (v := (24 : Int32)) S.1 S.2.1 dX4_leftByAsking_54 (by decide) ?_
    refine lv_iconst (v := (0 : Int32)) S.1 S.2.1 dX4_leftByAsking_56 (by decide) ?_
    obtain ⟨r10, u11, q9, h⟩ := bd_some h
    refine x_vv (Wf := WC ad cI) (q0 := 1) (ci := 3) (As := [.int x1, .int (24 : Int32), .int (0 : Int32)]) (rest := []) S hK hP hS (k_X3_set hap q9) rfl rfl wl_X4_28 wi_X3_set ws_X3_set wz_X3 wc_X3_set hy_X3_set ⟨Nat.le_of_ble_eq_true rfl, Nat.le_of_ble_eq_true rfl⟩ hl.1 rfl (Nat.le_of_ble_eq_true rfl) dX4_leftByAsking_57 (fun H locs hP hS => ?_)
    exact x_vret S hr hlk hK hP hS h dX4_leftByAsking_60
  intro H locs ls hP hS hl
  have hl : lv_has ls 4 [(0, .ref (ad 3)), (1, .int x1)] := hl
  unfold fX4_leftByAsking at h
  refine lv_aload_n S.1 S.2.1 dX4_leftByAsking_0 rfl (lv_at hl 0 rfl) ?_
  refine gC_3_stand S hK hP wf_X4_9 dX4_leftByAsking_1 ?_
  refine lv_iload_n S.1 S.2.1 dX4_leftByAsking_4 rfl (lv_at hl 1 rfl) ?_
  refine lv_bipush (v := (24 : Int32)) S.1 S.2.1 dX4_leftByAsking_5 (by decide) ?_
  obtain ⟨r2, u3, q1, h⟩ := bd_some h
  refine x_vi (Wf := WC ad cI) (q0 := 1) (ci := 3) (As := [.int x1, .int (24 : Int32)]) (rest := []) S hK hP hS (k_X3_of hap q1) rfl rfl wl_X4_85 wi_X3_of ws_X3_of wz_X3 wc_X3_of hy_X3_of ⟨Nat.le_of_ble_eq_true rfl, Nat.le_of_ble_eq_true rfl⟩ hl.1 rfl (Nat.le_of_ble_eq_true rfl) dX4_leftByAsking_7 (fun H locs hP hS => ?_)
  refine lv_istore_n (lv' := [(2, .int r2), (0, .ref (ad 3)), (1, .int x1)]) S.1 S.2.1 dX4_leftByAsking_10 rfl hl (by decide) rfl (fun ls hl => ?_)
  refine lv_iconst (v := (0 : Int32)) S.1 S.2.1 dX4_leftByAsking_11 (by decide) ?_
  refine lv_istore_n (lv' := [(3, .int (0 : Int32)), (2, .int r2), (0, .ref (ad 3)), (1, .int x1)]) S.1 S.2.1 dX4_leftByAsking_12 rfl hl (by decide) rfl (fun ls hl => ?_)
  exact B_13 _ B_49 FU _ _ _ u3 h _ _ _ hP hS (lv_sub hl [2, 3, 1, 0] rfl)
theorem hy_X4_left : yX4_left.cls ≠ "java/lang/invoke/MethodHandle" ∧ yX4_left.cls ≠ "java/lang/invoke/VarHandle" ∧ (parseMethodDescriptor yX4_left.desc).map (fun d => d.parameters.length) = some 1 := by decide +kernel
set_option maxHeartbeats 4000000 in
set_option maxRecDepth 100000 in
theorem k_X4_left {l : Launch} {dC : Nat → ClassId} {dI : Nat → Nat → Nat} {ad : Nat → Nat} {cI : ClassId} (hap : AP ad 14) {x1 : Int32} {u uf : Wo} {rf : Int32} (h : fX4_left x1 u = some (rf, uf)) : CV l dC dI cI (WC ad cI) (AF ad 14) yX4_left cX4_left 2 none 4 92 [.ref (ad 3), .int x1] u uf := by
  refine cv_begin (by decide) (Nat.le_of_ble_eq_true rfl) ?_
  intro p e s m args below meth c S hr hlk hK
  have B_60 : ∀ (u : Wo), fX4_left_60 u = some (rf, uf) → J p l e (rmk 4 92) s m args below meth c dC dI (WC ad cI) (AF ad 14) (MQ below (QV dC dI cI (WC ad cI) (AF ad 14) uf) args s 0 0 (AF ad 14)) u 60 2 [] [] := by
    intro u h H locs ls hP hS hl
    unfold fX4_left_60 at h
    exact x_vret S hr hlk hK hP hS h dX4_left_60
  intro H locs ls hP hS hl
  have hl : lv_has ls 2 [(0, .ref (ad 3)), (1, .int x1)] := hl
  unfold fX4_left at h
  refine lv_aload_n S.1 S.2.1 dX4_left_0 rfl (lv_at hl 0 rfl) ?_
  refine gC_3_stand S hK hP wf_X4_9 dX4_left_1 ?_
  refine lv_iconst (v := (0 : Int32)) S.1 S.2.1 dX4_left_4 (by decide) ?_
  obtain ⟨u1, hu1, h⟩ := bw_some h
  refine pC_1_tooMany S hK hap hP hS wf_X4_23 dX4_left_5 (by decide) hu1 (fun H locs hP hS => ?_)
  refine lv_aload_n S.1 S.2.1 dX4_left_8 rfl (lv_at hl 0 rfl) ?_
  refine gC_3_stand S hK hP wf_X4_9 dX4_left_9 ?_
  refine lv_iload_n S.1 S.2.1 dX4_left_12 rfl (lv_at hl 1 rfl) ?_
  refine lv_iconst (v := (0 : Int32)) S.1 S.2.1 dX4_left_13 (by decide) ?_
  refine lv_iconst (v := (0 : Int32)) S.1 S.2.1 dX4_left_14 (by decide) ?_
  obtain ⟨r3, u4, q2, h⟩ := bd_some h
  refine x_vv (Wf := WC ad cI) (q0 := 1) (ci := 3) (As := [.int x1, .int (0 : Int32), .int (0 : Int32)]) (rest := []) S hK hP hS (k_X3_set hap q2) rfl rfl wl_X4_28 wi_X3_set ws_X3_set wz_X3 wc_X3_set hy_X3_set ⟨Nat.le_of_ble_eq_true rfl, Nat.le_of_ble_eq_true rfl⟩ hl.1 rfl (Nat.le_of_ble_eq_true rfl) dX4_left_15 (fun H locs hP hS => ?_)
  refine lv_aload_n S.1 S.2.1 dX4_left_18 rfl (lv_at hl 0 rfl) ?_
  refine gC_3_stand S hK hP wf_X4_9 dX4_left_19 ?_
  refine gC_1_way S hK hP wf_X4_40 dX4_left_22 ?_
  refine lv_if_ne (tgt := 36) S.1 S.2.1 dX4_left_25 (by decide) (fun c5 => ?_) (fun c5 => ?_)
  · rw [if_neg c5] at h
    refine lv_aload_n S.1 S.2.1 dX4_left_36 rfl (lv_at hl 0 rfl) ?_
    refine gC_3_stand S hK hP wf_X4_9 dX4_left_37 ?_
    refine gC_1_way S hK hP wf_X4_40 dX4_left_40 ?_
    refine lv_iconst (v := (1 : Int32)) S.1 S.2.1 dX4_left_43 (by decide) ?_
    refine lv_icmp_ne (tgt := 55) S.1 S.2.1 dX4_left_44 (by decide) (fun c6 => ?_) (fun c6 => ?_)
    · rw [if_neg c6] at h
      refine lv_aload_n S.1 S.2.1 dX4_left_55 rfl (lv_at hl 0 rfl) ?_
      refine lv_iload_n S.1 S.2.1 dX4_left_56 rfl (lv_at hl 1 rfl) ?_
      obtain ⟨r8, u9, q7, h⟩ := bd_some h
      refine x_vv (Wf := WC ad cI) (q0 := 3) (ci := 4) (As := [.int x1]) (rest := []) S hK hP hS (k_X4_followRules hap q7) rfl rfl wl_X4_54 wi_X4_followRules ws_X4_followRules wz_X4 wc_X4_followRules hy_X4_followRules ⟨Nat.le_of_ble_eq_true rfl, Nat.le_of_ble_eq_true rfl⟩ hl.1 rfl (Nat.le_of_ble_eq_true rfl) dX4_left_57 (fun H locs hP hS => ?_)
      exact B_60 u9 h _ _ _ hP hS (lv_sub hl [] rfl)
    · rw [if_pos c6] at h
      refine lv_aload_n S.1 S.2.1 dX4_left_47 rfl (lv_at hl 0 rfl) ?_
      refine lv_iload_n S.1 S.2.1 dX4_left_48 rfl (lv_at hl 1 rfl) ?_
      obtain ⟨r11, u12, q10, h⟩ := bd_some h
      refine x_vv (Wf := WC ad cI) (q0 := 3) (ci := 4) (As := [.int x1]) (rest := []) S hK hP hS (k_X4_leftByToken hap q10) rfl rfl wl_X4_60 wi_X4_leftByToken ws_X4_leftByToken wz_X4 wc_X4_leftByToken hy_X4_leftByToken ⟨Nat.le_of_ble_eq_true rfl, Nat.le_of_ble_eq_true rfl⟩ hl.1 rfl (Nat.le_of_ble_eq_true rfl) dX4_left_49 (fun H locs hP hS => ?_)
      refine lv_goto (tgt := 60) S.1 S.2.1 dX4_left_52 (by decide) ?_
      exact B_60 u12 h _ _ _ hP hS (lv_sub hl [] rfl)
  · rw [if_pos c5] at h
    refine lv_aload_n S.1 S.2.1 dX4_left_28 rfl (lv_at hl 0 rfl) ?_
    refine lv_iload_n S.1 S.2.1 dX4_left_29 rfl (lv_at hl 1 rfl) ?_
    obtain ⟨r14, u15, q13, h⟩ := bd_some h
    refine x_vv (Wf := WC ad cI) (q0 := 3) (ci := 4) (As := [.int x1]) (rest := []) S hK hP hS (k_X4_leftByAsking hap q13) rfl rfl wl_X4_57 wi_X4_leftByAsking ws_X4_leftByAsking wz_X4 wc_X4_leftByAsking hy_X4_leftByAsking ⟨Nat.le_of_ble_eq_true rfl, Nat.le_of_ble_eq_true rfl⟩ hl.1 rfl (Nat.le_of_ble_eq_true rfl) dX4_left_30 (fun H locs hP hS => ?_)
    refine lv_goto (tgt := 60) S.1 S.2.1 dX4_left_33 (by decide) ?_
    exact B_60 u15 h _ _ _ hP hS (lv_sub hl [] rfl)
theorem hy_X5_leave : yX5_leave.cls ≠ "java/lang/invoke/MethodHandle" ∧ yX5_leave.cls ≠ "java/lang/invoke/VarHandle" ∧ (parseMethodDescriptor yX5_leave.desc).map (fun d => d.parameters.length) = some 1 := by decide +kernel
set_option maxHeartbeats 4000000 in
set_option maxRecDepth 100000 in
theorem k_X5_leave {l : Launch} {dC : Nat → ClassId} {dI : Nat → Nat → Nat} {ad : Nat → Nat} {cI : ClassId} (hap : AP ad 14) {x1 : Int32} {u uf : Wo} {rf : Int32} (h : fX5_leave x1 u = some (rf, uf)) : CI l dC dI cI (WC ad cI) (AF ad 14) yX5_leave cX5_leave 3 (some .int) 5 113 [.ref (ad 0), .int x1] u rf uf := by
  refine ci_begin (by decide) (Nat.le_of_ble_eq_true rfl) ?_
  intro p e s m args below meth c S hr hlk hK
  intro H locs ls hP hS hl
  have hl : lv_has ls 3 [(0, .ref (ad 0)), (1, .int x1)] := hl
  unfold fX5_leave at h
  refine lv_aload_n S.1 S.2.1 dX5_leave_0 rfl (lv_at hl 0 rfl) ?_
  refine gC_0_stand S hK hP wf_X5_10 dX5_leave_1 ?_
  refine lv_iload_n S.1 S.2.1 dX5_leave_4 rfl (lv_at hl 1 rfl) ?_
  obtain ⟨r2, u3, q1, h⟩ := bd_some h
  refine x_vi (Wf := WC ad cI) (q0 := 1) (ci := 3) (As := [.int x1]) (rest := []) S hK hP hS (k_X3_isKeeper hap q1) rfl rfl wl_X5_82 wi_X3_isKeeper ws_X3_isKeeper wz_X3 wc_X3_isKeeper hy_X3_isKeeper ⟨Nat.le_of_ble_eq_true rfl, Nat.le_of_ble_eq_true rfl⟩ hl.1 rfl (Nat.le_of_ble_eq_true rfl) dX5_leave_5 (fun H locs hP hS => ?_)
  refine lv_if_ne (tgt := 13) S.1 S.2.1 dX5_leave_8 (by decide) (fun c4 => ?_) (fun c4 => ?_)
  · rw [if_neg c4] at h
    refine lv_aload_n S.1 S.2.1 dX5_leave_13 rfl (lv_at hl 0 rfl) ?_
    refine gC_0_stand S hK hP wf_X5_10 dX5_leave_14 ?_
    refine lv_iload_n S.1 S.2.1 dX5_leave_17 rfl (lv_at hl 1 rfl) ?_
    refine lv_iconst (v := (0 : Int32)) S.1 S.2.1 dX5_leave_18 (by decide) ?_
    obtain ⟨r6, u7, q5, h⟩ := bd_some h
    refine x_vi (Wf := WC ad cI) (q0 := 1) (ci := 3) (As := [.int x1, .int (0 : Int32)]) (rest := []) S hK hP hS (k_X3_of hap q5) rfl rfl wl_X5_74 wi_X3_of ws_X3_of wz_X3 wc_X3_of hy_X3_of ⟨Nat.le_of_ble_eq_true rfl, Nat.le_of_ble_eq_true rfl⟩ hl.1 rfl (Nat.le_of_ble_eq_true rfl) dX5_leave_19 (fun H locs hP hS => ?_)
    refine lv_iconst (v := (2 : Int32)) S.1 S.2.1 dX5_leave_22 (by decide) ?_
    refine lv_icmp_eq (tgt := 29) S.1 S.2.1 dX5_leave_23 (by decide) (fun c8 => ?_) (fun c8 => ?_)
    · rw [if_pos c8] at h
      refine lv_aload_n S.1 S.2.1 dX5_leave_29 rfl (lv_at hl 0 rfl) ?_
      refine gC_0_stand S hK hP wf_X5_10 dX5_leave_30 ?_
      obtain ⟨r10, u11, q9, h⟩ := bd_some h
      refine x_vi (Wf := WC ad cI) (q0 := 1) (ci := 3) (As := []) (rest := []) S hK hP hS (k_X3_sentInAll hap q9) rfl rfl wl_X5_97 wi_X3_sentInAll ws_X3_sentInAll wz_X3 wc_X3_sentInAll hy_X3_sentInAll ⟨Nat.le_of_ble_eq_true rfl, Nat.le_of_ble_eq_true rfl⟩ hl.1 rfl (Nat.le_of_ble_eq_true rfl) dX5_leave_33 (fun H locs hP hS => ?_)
      refine lv_istore_n (lv' := [(2, .int r10), (0, .ref (ad 0)), (1, .int x1)]) S.1 S.2.1 dX5_leave_36 rfl hl (by decide) rfl (fun ls hl => ?_)
      refine lv_aload_n S.1 S.2.1 dX5_leave_37 rfl (lv_at hl 1 rfl) ?_
      refine gC_0_past S hK hP wf_X5_37 dX5_leave_38 ?_
      obtain ⟨r13, u14, q12, h⟩ := bd_some h
      refine x_vv (Wf := WC ad cI) (q0 := 4) (ci := 1) (As := []) (rest := []) S hK hP hS (k_X1_mark hap q12) rfl rfl wl_X5_86 wi_X1_mark ws_X1_mark wz_X1 wc_X1_mark hy_X1_mark ⟨Nat.le_of_ble_eq_true rfl, Nat.le_of_ble_eq_true rfl⟩ hl.1 rfl (Nat.le_of_ble_eq_true rfl) dX5_leave_41 (fun H locs hP hS => ?_)
      refine lv_aload_n S.1 S.2.1 dX5_leave_44 rfl (lv_at hl 1 rfl) ?_
      refine gC_0_ways S hK hP wf_X5_28 dX5_leave_45 ?_
      refine lv_iload_n S.1 S.2.1 dX5_leave_48 rfl (lv_at hl 2 rfl) ?_
      obtain ⟨r16, u17, q15, h⟩ := bd_some h
      refine x_vv (Wf := WC ad cI) (q0 := 3) (ci := 4) (As := [.int x1]) (rest := []) S hK hP hS (k_X4_left hap q15) rfl rfl wl_X5_101 wi_X4_left ws_X4_left wz_X4 wc_X4_left hy_X4_left ⟨Nat.le_of_ble_eq_true rfl, Nat.le_of_ble_eq_true rfl⟩ hl.1 rfl (Nat.le_of_ble_eq_true rfl) dX5_leave_49 (fun H locs hP hS => ?_)
      refine lv_aload_n S.1 S.2.1 dX5_leave_52 rfl (lv_at hl 1 rfl) ?_
      obtain ⟨r19, u20, q18, h⟩ := bd_some h
      refine x_vi (Wf := WC ad cI) (q0 := 0) (ci := 5) (As := []) (rest := []) S hK hP hS (k_X5_settled hap q18) rfl rfl wl_X5_93 wi_X5_settled ws_X5_settled wz_X5 wc_X5_settled hy_X5_settled ⟨Nat.le_of_ble_eq_true rfl, Nat.le_of_ble_eq_true rfl⟩ hl.1 rfl (Nat.le_of_ble_eq_true rfl) dX5_leave_53 (fun H locs hP hS => ?_)
      refine lv_if_ne (tgt := 62) S.1 S.2.1 dX5_leave_56 (by decide) (fun c21 => ?_) (fun c21 => ?_)
      · rw [if_neg c21] at h
        refine lv_aload_n S.1 S.2.1 dX5_leave_62 rfl (lv_at hl 1 rfl) ?_
        refine gC_0_stand S hK hP wf_X5_10 dX5_leave_63 ?_
        obtain ⟨r23, u24, q22, h⟩ := bd_some h
        refine x_vi (Wf := WC ad cI) (q0 := 1) (ci := 3) (As := []) (rest := []) S hK hP hS (k_X3_sentInAll hap q22) rfl rfl wl_X5_97 wi_X3_sentInAll ws_X3_sentInAll wz_X3 wc_X3_sentInAll hy_X3_sentInAll ⟨Nat.le_of_ble_eq_true rfl, Nat.le_of_ble_eq_true rfl⟩ hl.1 rfl (Nat.le_of_ble_eq_true rfl) dX5_leave_66 (fun H locs hP hS => ?_)
        refine lv_iload_n S.1 S.2.1 dX5_leave_69 rfl (lv_at hl 0 rfl) ?_
        refine lv_isub S.1 S.2.1 dX5_leave_70 ?_
        exact x_iret S hr hlk hK hP hS h dX5_leave_71
      · rw [if_pos c21] at h
        refine lv_bipush (v := (-3 : Int32)) S.1 S.2.1 dX5_leave_59 (by decide) ?_
        exact x_iret S hr hlk hK hP hS h dX5_leave_61
    · rw [if_neg c8] at h
      refine lv_bipush (v := (-2 : Int32)) S.1 S.2.1 dX5_leave_26 (by decide) ?_
      exact x_iret S hr hlk hK hP hS h dX5_leave_28
  · rw [if_pos c4] at h
    refine lv_iconst (v := (-1 : Int32)) S.1 S.2.1 dX5_leave_11 (by decide) ?_
    exact x_iret S hr hlk hK hP hS h dX5_leave_12
theorem hy_X3_isPair : yX3_isPair.cls ≠ "java/lang/invoke/MethodHandle" ∧ yX3_isPair.cls ≠ "java/lang/invoke/VarHandle" ∧ (parseMethodDescriptor yX3_isPair.desc).map (fun d => d.parameters.length) = some 2 := by decide +kernel
set_option maxHeartbeats 4000000 in
set_option maxRecDepth 100000 in
theorem k_X3_isPair {l : Launch} {dC : Nat → ClassId} {dI : Nat → Nat → Nat} {ad : Nat → Nat} {cI : ClassId} (hap : AP ad 14) {x1 x2 : Int32} {u uf : Wo} {rf : Int32} (h : fX3_isPair x1 x2 u = some (rf, uf)) : CI l dC dI cI (WC ad cI) (AF ad 14) yX3_isPair cX3_isPair 3 (some .boolean) 1 21 [.ref (ad 1), .int x1, .int x2] u rf uf := by
  refine ci_begin (by decide) (Nat.le_of_ble_eq_true rfl) ?_
  intro p e s m args below meth c S hr hlk hK
  have B_26 : ∀ (s0 : Int32) (u : Wo), fX3_isPair_26 s0 u = some (rf, uf) → J p l e (rmk 1 21) s m args below meth c dC dI (WC ad cI) (AF ad 14) (MQ below (QI dC dI cI (WC ad cI) (AF ad 14) rf uf) args s 0 0 (AF ad 14)) u 26 3 [] [.int s0] := by
    intro s0 u h H locs ls hP hS hl
    unfold fX3_isPair_26 at h
    obtain ⟨q5, h⟩ := gi_some h
    exact x_zret S hr hlk hK hP hS q5 h dX3_isPair_26
  have B_25 : ∀ (u : Wo), fX3_isPair_25 u = some (rf, uf) → J p l e (rmk 1 21) s m args below meth c dC dI (WC ad cI) (AF ad 14) (MQ below (QI dC dI cI (WC ad cI) (AF ad 14) rf uf) args s 0 0 (AF ad 14)) u 25 3 [] [] := by
    intro u h H locs ls hP hS hl
    unfold fX3_isPair_25 at h
    refine lv_iconst (v := (0 : Int32)) S.1 S.2.1 dX3_isPair_25 (by decide) ?_
    exact B_26 _ u h _ _ _ hP hS (lv_sub hl [] rfl)
  intro H locs ls hP hS hl
  have hl : lv_has ls 3 [(0, .ref (ad 1)), (1, .int x1), (2, .int x2)] := hl
  unfold fX3_isPair at h
  refine lv_aload_n S.1 S.2.1 dX3_isPair_0 rfl (lv_at hl 0 rfl) ?_
  refine lv_iload_n S.1 S.2.1 dX3_isPair_1 rfl (lv_at hl 1 rfl) ?_
  obtain ⟨r2, u3, q1, h⟩ := bd_some h
  refine x_vi (Wf := WC ad cI) (q0 := 1) (ci := 3) (As := [.int x1]) (rest := []) S hK hP hS (k_X3_isKeeper hap q1) rfl rfl wl_X3_32 wi_X3_isKeeper ws_X3_isKeeper wz_X3 wc_X3_isKeeper hy_X3_isKeeper ⟨Nat.le_of_ble_eq_true rfl, Nat.le_of_ble_eq_true rfl⟩ hl.1 rfl (Nat.le_of_ble_eq_true rfl) dX3_isPair_2 (fun H locs hP hS => ?_)
  refine lv_if_eq (tgt := 25) S.1 S.2.1 dX3_isPair_5 (by decide) (fun c4 => ?_) (fun c4 => ?_)
  · rw [if_pos c4] at h
    exact B_25 u3 h _ _ _ hP hS (lv_sub hl [] rfl)
  · rw [if_neg c4] at h
    refine lv_aload_n S.1 S.2.1 dX3_isPair_8 rfl (lv_at hl 0 rfl) ?_
    refine lv_iload_n S.1 S.2.1 dX3_isPair_9 rfl (lv_at hl 2 rfl) ?_
    obtain ⟨r7, u8, q6, h⟩ := bd_some h
    refine x_vi (Wf := WC ad cI) (q0 := 1) (ci := 3) (As := [.int x2]) (rest := []) S hK hP hS (k_X3_isKeeper hap q6) rfl rfl wl_X3_32 wi_X3_isKeeper ws_X3_isKeeper wz_X3 wc_X3_isKeeper hy_X3_isKeeper ⟨Nat.le_of_ble_eq_true rfl, Nat.le_of_ble_eq_true rfl⟩ hl.1 rfl (Nat.le_of_ble_eq_true rfl) dX3_isPair_10 (fun H locs hP hS => ?_)
    refine lv_if_eq (tgt := 25) S.1 S.2.1 dX3_isPair_13 (by decide) (fun c9 => ?_) (fun c9 => ?_)
    · rw [if_pos c9] at h
      exact B_25 u8 h _ _ _ hP hS (lv_sub hl [] rfl)
    · rw [if_neg c9] at h
      refine lv_iload_n S.1 S.2.1 dX3_isPair_16 rfl (lv_at hl 1 rfl) ?_
      refine lv_iload_n S.1 S.2.1 dX3_isPair_17 rfl (lv_at hl 2 rfl) ?_
      refine lv_icmp_eq (tgt := 25) S.1 S.2.1 dX3_isPair_18 (by decide) (fun c10 => ?_) (fun c10 => ?_)
      · rw [if_pos c10] at h
        exact B_25 u8 h _ _ _ hP hS (lv_sub hl [] rfl)
      · rw [if_neg c10] at h
        refine lv_iconst (v := (1 : Int32)) S.1 S.2.1 dX3_isPair_21 (by decide) ?_
        refine lv_goto (tgt := 26) S.1 S.2.1 dX3_isPair_22 (by decide) ?_
        exact B_26 _ u8 h _ _ _ hP hS (lv_sub hl [] rfl)
theorem hy_X3_underWay : yX3_underWay.cls ≠ "java/lang/invoke/MethodHandle" ∧ yX3_underWay.cls ≠ "java/lang/invoke/VarHandle" ∧ (parseMethodDescriptor yX3_underWay.desc).map (fun d => d.parameters.length) = some 2 := by decide +kernel
set_option maxHeartbeats 4000000 in
set_option maxRecDepth 100000 in
theorem k_X3_underWay {l : Launch} {dC : Nat → ClassId} {dI : Nat → Nat → Nat} {ad : Nat → Nat} {cI : ClassId} (hap : AP ad 14) {x1 x2 : Int32} {u uf : Wo} {rf : Int32} (h : fX3_underWay x1 x2 u = some (rf, uf)) : CI l dC dI cI (WC ad cI) (AF ad 14) yX3_underWay cX3_underWay 3 (some .int) 1 21 [.ref (ad 1), .int x1, .int x2] u rf uf := by
  refine ci_begin (by decide) (Nat.le_of_ble_eq_true rfl) ?_
  intro p e s m args below meth c S hr hlk hK
  intro H locs ls hP hS hl
  have hl : lv_has ls 3 [(0, .ref (ad 1)), (1, .int x1), (2, .int x2)] := hl
  unfold fX3_underWay at h
  refine lv_aload_n S.1 S.2.1 dX3_underWay_0 rfl (lv_at hl 0 rfl) ?_
  refine lv_iload_n S.1 S.2.1 dX3_underWay_1 rfl (lv_at hl 1 rfl) ?_
  refine lv_iload_n S.1 S.2.1 dX3_underWay_2 rfl (lv_at hl 2 rfl) ?_
  obtain ⟨r2, u3, q1, h⟩ := bd_some h
  refine x_si (Wf := WC ad cI) (As := [.int x1, .int x2]) (rest := [.ref (ad 1)]) S hK hP hS (k_X3_lettersOf hap q1) wl_X3_44 wt_X3_lettersOf wz_X3 wc_X3_lettersOf hy_X3_lettersOf ⟨Nat.le_of_ble_eq_true rfl, Nat.le_of_ble_eq_true rfl⟩ hl.1 rfl (Nat.le_of_ble_eq_true rfl) dX3_underWay_3 (fun H locs hP hS => ?_)
  obtain ⟨r5, u6, q4, h⟩ := bd_some h
  refine x_vi (Wf := WC ad cI) (q0 := 1) (ci := 3) (As := [.int r2]) (rest := []) S hK hP hS (k_X3_get hap q4) rfl rfl wl_X3_36 wi_X3_get ws_X3_get wz_X3 wc_X3_get hy_X3_get ⟨Nat.le_of_ble_eq_true rfl, Nat.le_of_ble_eq_true rfl⟩ hl.1 rfl (Nat.le_of_ble_eq_true rfl) dX3_underWay_6 (fun H locs hP hS => ?_)
  exact x_iret S hr hlk hK hP hS h dX3_underWay_9
theorem hy_X3_letterAt : yX3_letterAt.cls ≠ "java/lang/invoke/MethodHandle" ∧ yX3_letterAt.cls ≠ "java/lang/invoke/VarHandle" ∧ (parseMethodDescriptor yX3_letterAt.desc).map (fun d => d.parameters.length) = some 3 := by decide +kernel
set_option maxHeartbeats 4000000 in
set_option maxRecDepth 100000 in
theorem k_X3_letterAt {l : Launch} {dC : Nat → ClassId} {dI : Nat → Nat → Nat} {ad : Nat → Nat} {cI : ClassId} (hap : AP ad 14) {x1 x2 x3 : Int32} {u uf : Wo} {rf : Int32} (h : fX3_letterAt x1 x2 x3 u = some (rf, uf)) : CI l dC dI cI (WC ad cI) (AF ad 14) yX3_letterAt cX3_letterAt 4 (some .int) 1 21 [.ref (ad 1), .int x1, .int x2, .int x3] u rf uf := by
  refine ci_begin (by decide) (Nat.le_of_ble_eq_true rfl) ?_
  intro p e s m args below meth c S hr hlk hK
  intro H locs ls hP hS hl
  have hl : lv_has ls 4 [(0, .ref (ad 1)), (1, .int x1), (2, .int x2), (3, .int x3)] := hl
  unfold fX3_letterAt at h
  refine lv_aload_n S.1 S.2.1 dX3_letterAt_0 rfl (lv_at hl 0 rfl) ?_
  refine lv_iload_n S.1 S.2.1 dX3_letterAt_1 rfl (lv_at hl 1 rfl) ?_
  refine lv_iload_n S.1 S.2.1 dX3_letterAt_2 rfl (lv_at hl 2 rfl) ?_
  obtain ⟨r2, u3, q1, h⟩ := bd_some h
  refine x_si (Wf := WC ad cI) (As := [.int x1, .int x2]) (rest := [.ref (ad 1)]) S hK hP hS (k_X3_lettersOf hap q1) wl_X3_44 wt_X3_lettersOf wz_X3 wc_X3_lettersOf hy_X3_lettersOf ⟨Nat.le_of_ble_eq_true rfl, Nat.le_of_ble_eq_true rfl⟩ hl.1 rfl (Nat.le_of_ble_eq_true rfl) dX3_letterAt_3 (fun H locs hP hS => ?_)
  refine lv_iconst (v := (1 : Int32)) S.1 S.2.1 dX3_letterAt_6 (by decide) ?_
  refine lv_iadd S.1 S.2.1 dX3_letterAt_7 ?_
  refine lv_iload_n S.1 S.2.1 dX3_letterAt_8 rfl (lv_at hl 3 rfl) ?_
  refine lv_iadd S.1 S.2.1 dX3_letterAt_9 ?_
  obtain ⟨r5, u6, q4, h⟩ := bd_some h
  refine x_vi (Wf := WC ad cI) (q0 := 1) (ci := 3) (As := [.int ((r2 + (1 : Int32)) + x3)]) (rest := []) S hK hP hS (k_X3_get hap q4) rfl rfl wl_X3_36 wi_X3_get ws_X3_get wz_X3 wc_X3_get hy_X3_get ⟨Nat.le_of_ble_eq_true rfl, Nat.le_of_ble_eq_true rfl⟩ hl.1 rfl (Nat.le_of_ble_eq_true rfl) dX3_letterAt_10 (fun H locs hP hS => ?_)
  exact x_iret S hr hlk hK hP hS h dX3_letterAt_13
theorem hy_X3_kindOf : yX3_kindOf.cls ≠ "java/lang/invoke/MethodHandle" ∧ yX3_kindOf.cls ≠ "java/lang/invoke/VarHandle" ∧ (parseMethodDescriptor yX3_kindOf.desc).map (fun d => d.parameters.length) = some 1 := by decide +kernel
set_option maxHeartbeats 4000000 in
set_option maxRecDepth 100000 in
theorem k_X3_kindOf {l : Launch} {dC : Nat → ClassId} {dI : Nat → Nat → Nat} {ad : Nat → Nat} {cI : ClassId} (hap : AP ad 14) {x0 : Int32} {u uf : Wo} {rf : Int32} (h : fX3_kindOf x0 u = some (rf, uf)) : CI l dC dI cI (WC ad cI) (AF ad 14) yX3_kindOf cX3_kindOf 1 (some .int) 0 0 [.int x0] u rf uf := by
  refine ci_begin (by decide) (Nat.le_of_ble_eq_true rfl) ?_
  intro p e s m args below meth c S hr hlk hK
  intro H locs ls hP hS hl
  have hl : lv_has ls 1 [(0, .int x0)] := hl
  unfold fX3_kindOf at h
  refine lv_iload_n S.1 S.2.1 dX3_kindOf_0 rfl (lv_at hl 0 rfl) ?_
  refine lv_iconst (v := (3 : Int32)) S.1 S.2.1 dX3_kindOf_1 (by decide) ?_
  refine lv_iand S.1 S.2.1 dX3_kindOf_2 ?_
  exact x_iret S hr hlk hK hP hS h dX3_kindOf_3
theorem hy_X3_takeLetter : yX3_takeLetter.cls ≠ "java/lang/invoke/MethodHandle" ∧ yX3_takeLetter.cls ≠ "java/lang/invoke/VarHandle" ∧ (parseMethodDescriptor yX3_takeLetter.desc).map (fun d => d.parameters.length) = some 2 := by decide +kernel
set_option maxHeartbeats 4000000 in
set_option maxRecDepth 100000 in
theorem k_X3_takeLetter {l : Launch} {dC : Nat → ClassId} {dI : Nat → Nat → Nat} {ad : Nat → Nat} {cI : ClassId} (hap : AP ad 14) {x1 x2 : Int32} {u uf : Wo} {rf : Int32} (h : fX3_takeLetter x1 x2 u = some (rf, uf)) : CI l dC dI cI (WC ad cI) (AF ad 14) yX3_takeLetter cX3_takeLetter 3 (some .int) 2 47 [.ref (ad 1), .int x1, .int x2] u rf uf := by
  refine ci_begin (by decide) (Nat.le_of_ble_eq_true rfl) ?_
  intro p e s m args below meth c S hr hlk hK
  intro H locs ls hP hS hl
  have hl : lv_has ls 3 [(0, .ref (ad 1)), (1, .int x1), (2, .int x2)] := hl
  unfold fX3_takeLetter at h
  refine lv_aload_n S.1 S.2.1 dX3_takeLetter_0 rfl (lv_at hl 0 rfl) ?_
  refine lv_iload_n S.1 S.2.1 dX3_takeLetter_1 rfl (lv_at hl 1 rfl) ?_
  refine lv_iload_n S.1 S.2.1 dX3_takeLetter_2 rfl (lv_at hl 2 rfl) ?_
  obtain ⟨r2, u3, q1, h⟩ := bd_some h
  refine x_si (Wf := WC ad cI) (As := [.int x1, .int x2]) (rest := [.ref (ad 1)]) S hK hP hS (k_X3_lettersOf hap q1) wl_X3_44 wt_X3_lettersOf wz_X3 wc_X3_lettersOf hy_X3_lettersOf ⟨Nat.le_of_ble_eq_true rfl, Nat.le_of_ble_eq_true rfl⟩ hl.1 rfl (Nat.le_of_ble_eq_true rfl) dX3_takeLetter_3 (fun H locs hP hS => ?_)
  refine lv_bipush (v := (12 : Int32)) S.1 S.2.1 dX3_takeLetter_6 (by decide) ?_
  obtain ⟨r5, u6, q4, h⟩ := bd_some h
  refine x_vi (Wf := WC ad cI) (q0 := 1) (ci := 3) (As := [.int r2, .int (12 : Int32)]) (rest := []) S hK hP hS (k_X3_takeFirst hap q4) rfl rfl wl_X3_60 wi_X3_takeFirst ws_X3_takeFirst wz_X3 wc_X3_takeFirst hy_X3_takeFirst ⟨Nat.le_of_ble_eq_true rfl, Nat.le_of_ble_eq_true rfl⟩ hl.1 rfl (Nat.le_of_ble_eq_true rfl) dX3_takeLetter_8 (fun H locs hP hS => ?_)
  exact x_iret S hr hlk hK hP hS h dX3_takeLetter_11
theorem hy_X3_numberOf : yX3_numberOf.cls ≠ "java/lang/invoke/MethodHandle" ∧ yX3_numberOf.cls ≠ "java/lang/invoke/VarHandle" ∧ (parseMethodDescriptor yX3_numberOf.desc).map (fun d => d.parameters.length) = some 1 := by decide +kernel
set_option maxHeartbeats 4000000 in
set_option maxRecDepth 100000 in
theorem k_X3_numberOf {l : Launch} {dC : Nat → ClassId} {dI : Nat → Nat → Nat} {ad : Nat → Nat} {cI : ClassId} (hap : AP ad 14) {x0 : Int32} {u uf : Wo} {rf : Int32} (h : fX3_numberOf x0 u = some (rf, uf)) : CI l dC dI cI (WC ad cI) (AF ad 14) yX3_numberOf cX3_numberOf 1 (some .int) 0 0 [.int x0] u rf uf := by
  refine ci_begin (by decide) (Nat.le_of_ble_eq_true rfl) ?_
  intro p e s m args below meth c S hr hlk hK
  intro H locs ls hP hS hl
  have hl : lv_has ls 1 [(0, .int x0)] := hl
  unfold fX3_numberOf at h
  refine lv_iload_n S.1 S.2.1 dX3_numberOf_0 rfl (lv_at hl 0 rfl) ?_
  refine lv_iconst (v := (2 : Int32)) S.1 S.2.1 dX3_numberOf_1 (by decide) ?_
  refine lv_ishr S.1 S.2.1 dX3_numberOf_2 ?_
  exact x_iret S hr hlk hK hP hS h dX3_numberOf_3
theorem hy_X4_askedByToken : yX4_askedByToken.cls ≠ "java/lang/invoke/MethodHandle" ∧ yX4_askedByToken.cls ≠ "java/lang/invoke/VarHandle" ∧ (parseMethodDescriptor yX4_askedByToken.desc).map (fun d => d.parameters.length) = some 3 := by decide +kernel
set_option maxHeartbeats 4000000 in
set_option maxRecDepth 100000 in
theorem k_X4_askedByToken {l : Launch} {dC : Nat → ClassId} {dI : Nat → Nat → Nat} {ad : Nat → Nat} {cI : ClassId} (hap : AP ad 14) {x1 x2 x3 : Int32} {u uf : Wo} {rf : Int32} (h : fX4_askedByToken x1 x2 x3 u = some (rf, uf)) : CV l dC dI cI (WC ad cI) (AF ad 14) yX4_askedByToken cX4_askedByToken 4 none 3 70 [.ref (ad 3), .int x1, .int x2, .int x3] u uf := by
  refine cv_begin (by decide) (Nat.le_of_ble_eq_true rfl) ?_
  intro p e s m args below meth c S hr hlk hK
  have B_60 : ∀ (u : Wo), fX4_askedByToken_60 u = some (rf, uf) → J p l e (rmk 3 70) s m args below meth c dC dI (WC ad cI) (AF ad 14) (MQ below (QV dC dI cI (WC ad cI) (AF ad 14) uf) args s 0 0 (AF ad 14)) u 60 4 [] [] := by
    intro u h H locs ls hP hS hl
    unfold fX4_askedByToken_60 at h
    exact x_vret S hr hlk hK hP hS h dX4_askedByToken_60
  intro H locs ls hP hS hl
  have hl : lv_has ls 4 [(0, .ref (ad 3)), (1, .int x1), (2, .int x2), (3, .int x3)] := hl
  unfold fX4_askedByToken at h
  refine lv_aload_n S.1 S.2.1 dX4_askedByToken_0 rfl (lv_at hl 0 rfl) ?_
  refine gC_3_stand S hK hP wf_X4_9 dX4_askedByToken_1 ?_
  refine lv_iload_n S.1 S.2.1 dX4_askedByToken_4 rfl (lv_at hl 1 rfl) ?_
  refine lv_iload_n S.1 S.2.1 dX4_askedByToken_5 rfl (lv_at hl 2 rfl) ?_
  refine lv_aload_n S.1 S.2.1 dX4_askedByToken_6 rfl (lv_at hl 0 rfl) ?_
  refine gC_3_stand S hK hP wf_X4_9 dX4_askedByToken_7 ?_
  refine lv_iload_n S.1 S.2.1 dX4_askedByToken_10 rfl (lv_at hl 1 rfl) ?_
  refine lv_iload_n S.1 S.2.1 dX4_askedByToken_11 rfl (lv_at hl 2 rfl) ?_
  obtain ⟨r2, u3, q1, h⟩ := bd_some h
  refine x_vi (Wf := WC ad cI) (q0 := 1) (ci := 3) (As := [.int x1, .int x2]) (rest := [.int x2, .int x1, .ref (ad 1)]) S hK hP hS (k_X3_known hap q1) rfl rfl wl_X4_128 wi_X3_known ws_X3_known wz_X3 wc_X3_known hy_X3_known ⟨Nat.le_of_ble_eq_true rfl, Nat.le_of_ble_eq_true rfl⟩ hl.1 rfl (Nat.le_of_ble_eq_true rfl) dX4_askedByToken_12 (fun H locs hP hS => ?_)
  refine lv_iload_n S.1 S.2.1 dX4_askedByToken_15 rfl (lv_at hl 3 rfl) ?_
  refine x_max S wl_X4_109 hl.1 ⟨Nat.le_of_ble_eq_true rfl, Nat.le_of_ble_eq_true rfl⟩ dX4_askedByToken_16 ?_
  obtain ⟨r5, u6, q4, h⟩ := bd_some h
  refine x_vv (Wf := WC ad cI) (q0 := 1) (ci := 3) (As := [.int x1, .int x2, .int (if r2 < x3 then x3 else r2)]) (rest := []) S hK hP hS (k_X3_setKnown hap q4) rfl rfl wl_X4_131 wi_X3_setKnown ws_X3_setKnown wz_X3 wc_X3_setKnown hy_X3_setKnown ⟨Nat.le_of_ble_eq_true rfl, Nat.le_of_ble_eq_true rfl⟩ hl.1 rfl (Nat.le_of_ble_eq_true rfl) dX4_askedByToken_19 (fun H locs hP hS => ?_)
  refine lv_aload_n S.1 S.2.1 dX4_askedByToken_22 rfl (lv_at hl 0 rfl) ?_
  refine gC_3_stand S hK hP wf_X4_9 dX4_askedByToken_23 ?_
  refine lv_iload_n S.1 S.2.1 dX4_askedByToken_26 rfl (lv_at hl 1 rfl) ?_
  obtain ⟨r8, u9, q7, h⟩ := bd_some h
  refine x_vi (Wf := WC ad cI) (q0 := 1) (ci := 3) (As := [.int x1]) (rest := []) S hK hP hS (k_X3_hasToken hap q7) rfl rfl wl_X4_124 wi_X3_hasToken ws_X3_hasToken wz_X3 wc_X3_hasToken hy_X3_hasToken ⟨Nat.le_of_ble_eq_true rfl, Nat.le_of_ble_eq_true rfl⟩ hl.1 rfl (Nat.le_of_ble_eq_true rfl) dX4_askedByToken_27 (fun H locs hP hS => ?_)
  refine lv_if_eq (tgt := 60) S.1 S.2.1 dX4_askedByToken_30 (by decide) (fun c10 => ?_) (fun c10 => ?_)
  · rw [if_pos c10] at h
    exact B_60 u9 h _ _ _ hP hS (lv_sub hl [] rfl)
  · rw [if_neg c10] at h
    refine lv_aload_n S.1 S.2.1 dX4_askedByToken_33 rfl (lv_at hl 0 rfl) ?_
    refine gC_3_stand S hK hP wf_X4_9 dX4_askedByToken_34 ?_
    refine lv_iload_n S.1 S.2.1 dX4_askedByToken_37 rfl (lv_at hl 1 rfl) ?_
    refine lv_iconst (v := (0 : Int32)) S.1 S.2.1 dX4_askedByToken_38 (by decide) ?_
    obtain ⟨r12, u13, q11, h⟩ := bd_some h
    refine x_vi (Wf := WC ad cI) (q0 := 1) (ci := 3) (As := [.int x1, .int (0 : Int32)]) (rest := []) S hK hP hS (k_X3_of hap q11) rfl rfl wl_X4_85 wi_X3_of ws_X3_of wz_X3 wc_X3_of hy_X3_of ⟨Nat.le_of_ble_eq_true rfl, Nat.le_of_ble_eq_true rfl⟩ hl.1 rfl (Nat.le_of_ble_eq_true rfl) dX4_askedByToken_39 (fun H locs hP hS => ?_)
    refine lv_if_ne (tgt := 60) S.1 S.2.1 dX4_askedByToken_42 (by decide) (fun c14 => ?_) (fun c14 => ?_)
    · rw [if_neg c14] at h
      exact B_60 u13 h _ _ _ hP hS (lv_sub hl [] rfl)
    · rw [if_pos c14] at h
      refine lv_aload_n S.1 S.2.1 dX4_askedByToken_45 rfl (lv_at hl 0 rfl) ?_
      refine lv_iload_n S.1 S.2.1 dX4_askedByToken_46 rfl (lv_at hl 1 rfl) ?_
      refine lv_iload_n S.1 S.2.1 dX4_askedByToken_47 rfl (lv_at hl 2 rfl) ?_
      obtain ⟨r16, u17, q15, h⟩ := bd_some h
      refine x_vi (Wf := WC ad cI) (q0 := 3) (ci := 4) (As := [.int x1, .int x2]) (rest := []) S hK hP hS (k_X4_isDue hap q15) rfl rfl wl_X4_134 wi_X4_isDue ws_X4_isDue wz_X4 wc_X4_isDue hy_X4_isDue ⟨Nat.le_of_ble_eq_true rfl, Nat.le_of_ble_eq_true rfl⟩ hl.1 rfl (Nat.le_of_ble_eq_true rfl) dX4_askedByToken_48 (fun H locs hP hS => ?_)
      refine lv_if_eq (tgt := 60) S.1 S.2.1 dX4_askedByToken_51 (by decide) (fun c18 => ?_) (fun c18 => ?_)
      · rw [if_pos c18] at h
        exact B_60 u17 h _ _ _ hP hS (lv_sub hl [] rfl)
      · rw [if_neg c18] at h
        refine lv_aload_n S.1 S.2.1 dX4_askedByToken_54 rfl (lv_at hl 0 rfl) ?_
        refine lv_iload_n S.1 S.2.1 dX4_askedByToken_55 rfl (lv_at hl 1 rfl) ?_
        refine lv_iload_n S.1 S.2.1 dX4_askedByToken_56 rfl (lv_at hl 2 rfl) ?_
        obtain ⟨r20, u21, q19, h⟩ := bd_some h
        refine x_vv (Wf := WC ad cI) (q0 := 3) (ci := 4) (As := [.int x1, .int x2]) (rest := []) S hK hP hS (k_X4_passToken hap q19) rfl rfl wl_X4_138 wi_X4_passToken ws_X4_passToken wz_X4 wc_X4_passToken hy_X4_passToken ⟨Nat.le_of_ble_eq_true rfl, Nat.le_of_ble_eq_true rfl⟩ hl.1 rfl (Nat.le_of_ble_eq_true rfl) dX4_askedByToken_57 (fun H locs hP hS => ?_)
        exact B_60 u21 h _ _ _ hP hS (lv_sub hl [] rfl)
theorem hy_J6_bitCount_0f7a4 : yJ6_bitCount_0f7a4.cls ≠ "java/lang/invoke/MethodHandle" ∧ yJ6_bitCount_0f7a4.cls ≠ "java/lang/invoke/VarHandle" ∧ (parseMethodDescriptor yJ6_bitCount_0f7a4.desc).map (fun d => d.parameters.length) = some 1 := by decide +kernel
set_option maxHeartbeats 4000000 in
set_option maxRecDepth 100000 in
theorem k_J6_bitCount_0f7a4 {l : Launch} {dC : Nat → ClassId} {dI : Nat → Nat → Nat} {ad : Nat → Nat} {cI : ClassId} (hap : AP ad 14) {x0 : Int32} {u uf : Wo} {rf : Int32} (h : fJ6_bitCount_0f7a4 x0 u = some (rf, uf)) : CI l dC dI cI (WC ad cI) (AF ad 14) yJ6_bitCount_0f7a4 cJ6_bitCount_0f7a4 1 (some .int) 0 0 [.int x0] u rf uf := by
  refine ci_begin (by decide) (Nat.le_of_ble_eq_true rfl) ?_
  intro p e s m args below meth c S hr hlk hK
  intro H locs ls hP hS hl
  have hl : lv_has ls 1 [(0, .int x0)] := hl
  unfold fJ6_bitCount_0f7a4 at h
  refine lv_iload_n S.1 S.2.1 dJ6_bitCount_0f7a4_0 rfl (lv_at hl 0 rfl) ?_
  refine lv_iload_n S.1 S.2.1 dJ6_bitCount_0f7a4_1 rfl (lv_at hl 0 rfl) ?_
  refine lv_iconst (v := (1 : Int32)) S.1 S.2.1 dJ6_bitCount_0f7a4_2 (by decide) ?_
  refine lv_iushr (v := ((x0).toUInt32 >>> (((1 : Int32)).toUInt32 &&& Int32.toUInt32 31)).toInt32) S.1 S.2.1 dJ6_bitCount_0f7a4_3 rfl ?_
  refine x_ldcw S wk_J6_265 dJ6_bitCount_0f7a4_4 ?_
  refine lv_iand S.1 S.2.1 dJ6_bitCount_0f7a4_7 ?_
  refine lv_isub S.1 S.2.1 dJ6_bitCount_0f7a4_8 ?_
  obtain ⟨y1, hy1, h⟩ := bn_some h
  rw [hy1]
  refine lv_istore_n (lv' := [(0, .int y1)]) S.1 S.2.1 dJ6_bitCount_0f7a4_9 rfl hl (by decide) rfl (fun ls hl => ?_)
  refine lv_iload_n S.1 S.2.1 dJ6_bitCount_0f7a4_10 rfl (lv_at hl 0 rfl) ?_
  refine x_ldcw S wk_J6_266 dJ6_bitCount_0f7a4_11 ?_
  refine lv_iand S.1 S.2.1 dJ6_bitCount_0f7a4_14 ?_
  refine lv_iload_n S.1 S.2.1 dJ6_bitCount_0f7a4_15 rfl (lv_at hl 0 rfl) ?_
  refine lv_iconst (v := (2 : Int32)) S.1 S.2.1 dJ6_bitCount_0f7a4_16 (by decide) ?_
  refine lv_iushr (v := ((y1).toUInt32 >>> (((2 : Int32)).toUInt32 &&& Int32.toUInt32 31)).toInt32) S.1 S.2.1 dJ6_bitCount_0f7a4_17 rfl ?_
  refine x_ldcw S wk_J6_266 dJ6_bitCount_0f7a4_18 ?_
  refine lv_iand S.1 S.2.1 dJ6_bitCount_0f7a4_21 ?_
  refine lv_iadd S.1 S.2.1 dJ6_bitCount_0f7a4_22 ?_
  obtain ⟨y2, hy2, h⟩ := bn_some h
  rw [hy2]
  refine lv_istore_n (lv' := [(0, .int y2)]) S.1 S.2.1 dJ6_bitCount_0f7a4_23 rfl hl (by decide) rfl (fun ls hl => ?_)
  refine lv_iload_n S.1 S.2.1 dJ6_bitCount_0f7a4_24 rfl (lv_at hl 0 rfl) ?_
  refine lv_iload_n S.1 S.2.1 dJ6_bitCount_0f7a4_25 rfl (lv_at hl 0 rfl) ?_
  refine lv_iconst (v := (4 : Int32)) S.1 S.2.1 dJ6_bitCount_0f7a4_26 (by decide) ?_
  refine lv_iushr (v := ((y2).toUInt32 >>> (((4 : Int32)).toUInt32 &&& Int32.toUInt32 31)).toInt32) S.1 S.2.1 dJ6_bitCount_0f7a4_27 rfl ?_
  refine lv_iadd S.1 S.2.1 dJ6_bitCount_0f7a4_28 ?_
  refine x_ldcw S wk_J6_267 dJ6_bitCount_0f7a4_29 ?_
  refine lv_iand S.1 S.2.1 dJ6_bitCount_0f7a4_32 ?_
  obtain ⟨y3, hy3, h⟩ := bn_some h
  rw [hy3]
  refine lv_istore_n (lv' := [(0, .int y3)]) S.1 S.2.1 dJ6_bitCount_0f7a4_33 rfl hl (by decide) rfl (fun ls hl => ?_)
  refine lv_iload_n S.1 S.2.1 dJ6_bitCount_0f7a4_34 rfl (lv_at hl 0 rfl) ?_
  refine lv_iload_n S.1 S.2.1 dJ6_bitCount_0f7a4_35 rfl (lv_at hl 0 rfl) ?_
  refine lv_bipush (v := (8 : Int32)) S.1 S.2.1 dJ6_bitCount_0f7a4_36 (by decide) ?_
  refine lv_iushr (v := ((y3).toUInt32 >>> (((8 : Int32)).toUInt32 &&& Int32.toUInt32 31)).toInt32) S.1 S.2.1 dJ6_bitCount_0f7a4_38 rfl ?_
  refine lv_iadd S.1 S.2.1 dJ6_bitCount_0f7a4_39 ?_
  obtain ⟨y4, hy4, h⟩ := bn_some h
  rw [hy4]
  refine lv_istore_n (lv' := [(0, .int y4)]) S.1 S.2.1 dJ6_bitCount_0f7a4_40 rfl hl (by decide) rfl (fun ls hl => ?_)
  refine lv_iload_n S.1 S.2.1 dJ6_bitCount_0f7a4_41 rfl (lv_at hl 0 rfl) ?_
  refine lv_iload_n S.1 S.2.1 dJ6_bitCount_0f7a4_42 rfl (lv_at hl 0 rfl) ?_
  refine lv_bipush (v := (16 : Int32)) S.1 S.2.1 dJ6_bitCount_0f7a4_43 (by decide) ?_
  refine lv_iushr (v := ((y4).toUInt32 >>> (((16 : Int32)).toUInt32 &&& Int32.toUInt32 31)).toInt32) S.1 S.2.1 dJ6_bitCount_0f7a4_45 rfl ?_
  refine lv_iadd S.1 S.2.1 dJ6_bitCount_0f7a4_46 ?_
  obtain ⟨y5, hy5, h⟩ := bn_some h
  rw [hy5]
  refine lv_istore_n (lv' := [(0, .int y5)]) S.1 S.2.1 dJ6_bitCount_0f7a4_47 rfl hl (by decide) rfl (fun ls hl => ?_)
  refine lv_iload_n S.1 S.2.1 dJ6_bitCount_0f7a4_48 rfl (lv_at hl 0 rfl) ?_
  refine lv_bipush (v := (63 : Int32)) S.1 S.2.1 dJ6_bitCount_0f7a4_49 (by decide) ?_
  refine lv_iand S.1 S.2.1 dJ6_bitCount_0f7a4_51 ?_
  exact x_iret S hr hlk hK hP hS h dJ6_bitCount_0f7a4_52
theorem hy_X4_stillToCome : yX4_stillToCome.cls ≠ "java/lang/invoke/MethodHandle" ∧ yX4_stillToCome.cls ≠ "java/lang/invoke/VarHandle" ∧ (parseMethodDescriptor yX4_stillToCome.desc).map (fun d => d.parameters.length) = some 1 := by decide +kernel
set_option maxHeartbeats 4000000 in
set_option maxRecDepth 100000 in
theorem k_X4_stillToCome {l : Launch} {dC : Nat → ClassId} {dI : Nat → Nat → Nat} {ad : Nat → Nat} {cI : ClassId} (hap : AP ad 14) {x1 : Int32} {u uf : Wo} {rf : Int32} (h : fX4_stillToCome x1 u = some (rf, uf)) : CI l dC dI cI (WC ad cI) (AF ad 14) yX4_stillToCome cX4_stillToCome 3 (some .int) 2 43 [.ref (ad 3), .int x1] u rf uf := by
  refine ci_begin (by decide) (Nat.le_of_ble_eq_true rfl) ?_
  intro p e s m args below meth c S hr hlk hK
  have B_50 : ∀ (s0 : Int32) (u : Wo), fX4_stillToCome_50 s0 u = some (rf, uf) → J p l e (rmk 2 43) s m args below meth c dC dI (WC ad cI) (AF ad 14) (MQ below (QI dC dI cI (WC ad cI) (AF ad 14) rf uf) args s 0 0 (AF ad 14)) u 50 3 [] [.int s0] := by
    intro s0 u h H locs ls hP hS hl
    unfold fX4_stillToCome_50 at h
    exact x_iret S hr hlk hK hP hS h dX4_stillToCome_50
  have B_18 : ∀ (x1 : Int32) (s0 : Int32) (u : Wo), fX4_stillToCome_18 x1 s0 u = some (rf, uf) → J p l e (rmk 2 43) s m args below meth c dC dI (WC ad cI) (AF ad 14) (MQ below (QI dC dI cI (WC ad cI) (AF ad 14) rf uf) args s 0 0 (AF ad 14)) u 18 3 [(0, .ref (ad 3)), (1, .int x1)] [.int s0] := by
    intro x1 s0 u h H locs ls hP hS hl
    unfold fX4_stillToCome_18 at h
    refine lv_istore_n (lv' := [(2, .int s0), (0, .ref (ad 3)), (1, .int x1)]) S.1 S.2.1 dX4_stillToCome_18 rfl hl (by decide) rfl (fun ls hl => ?_)
    refine lv_iload_n S.1 S.2.1 dX4_stillToCome_19 rfl (lv_at hl 0 rfl) ?_
    refine lv_if_eq (tgt := 49) S.1 S.2.1 dX4_stillToCome_20 (by decide) (fun c5 => ?_) (fun c5 => ?_)
    · rw [if_pos c5] at h
      refine lv_iconst (v := (0 : Int32)) S.1 S.2.1 dX4_stillToCome_49 (by decide) ?_
      exact B_50 _ u h _ _ _ hP hS (lv_sub hl [] rfl)
    · rw [if_neg c5] at h
      refine lv_aload_n S.1 S.2.1 dX4_stillToCome_23 rfl (lv_at hl 1 rfl) ?_
      refine gC_3_stand S hK hP wf_X4_9 dX4_stillToCome_24 ?_
      refine gC_1_n S hK hP wf_X4_88 dX4_stillToCome_27 ?_
      refine lv_iconst (v := (1 : Int32)) S.1 S.2.1 dX4_stillToCome_30 (by decide) ?_
      refine lv_isub S.1 S.2.1 dX4_stillToCome_31 ?_
      refine lv_aload_n S.1 S.2.1 dX4_stillToCome_32 rfl (lv_at hl 1 rfl) ?_
      refine gC_3_stand S hK hP wf_X4_9 dX4_stillToCome_33 ?_
      refine lv_iload_n S.1 S.2.1 dX4_stillToCome_36 rfl (lv_at hl 2 rfl) ?_
      refine lv_bipush (v := (18 : Int32)) S.1 S.2.1 dX4_stillToCome_37 (by decide) ?_
      obtain ⟨r7, u8, q6, h⟩ := bd_some h
      refine x_vi (Wf := WC ad cI) (q0 := 1) (ci := 3) (As := [.int x1, .int (18 : Int32)]) (rest := [.int ((u 1 2) - (1 : Int32))]) S hK hP hS (k_X3_of hap q6) rfl rfl wl_X4_85 wi_X3_of ws_X3_of wz_X3 wc_X3_of hy_X3_of ⟨Nat.le_of_ble_eq_true rfl, Nat.le_of_ble_eq_true rfl⟩ hl.1 rfl (Nat.le_of_ble_eq_true rfl) dX4_stillToCome_39 (fun H locs hP hS => ?_)
      obtain ⟨r10, u11, q9, h⟩ := bd_some h
      refine x_si (Wf := WC ad cI) (As := [.int r7]) (rest := [.int ((u 1 2) - (1 : Int32))]) S hK hP hS (k_J6_bitCount_0f7a4 hap q9) wl_X4_91 wt_J6_bitCount_0f7a4 wz_J6 wc_J6_bitCount_0f7a4 hy_J6_bitCount_0f7a4 ⟨Nat.le_of_ble_eq_true rfl, Nat.le_of_ble_eq_true rfl⟩ hl.1 rfl (Nat.le_of_ble_eq_true rfl) dX4_stillToCome_42 (fun H locs hP hS => ?_)
      refine lv_isub S.1 S.2.1 dX4_stillToCome_45 ?_
      refine lv_goto (tgt := 50) S.1 S.2.1 dX4_stillToCome_46 (by decide) ?_
      exact B_50 _ u11 h _ _ _ hP hS (lv_sub hl [] rfl)
  intro H locs ls hP hS hl
  have hl : lv_has ls 3 [(0, .ref (ad 3)), (1, .int x1)] := hl
  unfold fX4_stillToCome at h
  refine lv_aload_n S.1 S.2.1 dX4_stillToCome_0 rfl (lv_at hl 0 rfl) ?_
  refine gC_3_stand S hK hP wf_X4_9 dX4_stillToCome_1 ?_
  refine lv_iload_n S.1 S.2.1 dX4_stillToCome_4 rfl (lv_at hl 1 rfl) ?_
  refine lv_iconst (v := (0 : Int32)) S.1 S.2.1 dX4_stillToCome_5 (by decide) ?_
  obtain ⟨r2, u3, q1, h⟩ := bd_some h
  refine x_vi (Wf := WC ad cI) (q0 := 1) (ci := 3) (As := [.int x1, .int (0 : Int32)]) (rest := []) S hK hP hS (k_X3_of hap q1) rfl rfl wl_X4_85 wi_X3_of ws_X3_of wz_X3 wc_X3_of hy_X3_of ⟨Nat.le_of_ble_eq_true rfl, Nat.le_of_ble_eq_true rfl⟩ hl.1 rfl (Nat.le_of_ble_eq_true rfl) dX4_stillToCome_6 (fun H locs hP hS => ?_)
  refine lv_iconst (v := (1 : Int32)) S.1 S.2.1 dX4_stillToCome_9 (by decide) ?_
  refine lv_icmp_ne (tgt := 17) S.1 S.2.1 dX4_stillToCome_10 (by decide) (fun c4 => ?_) (fun c4 => ?_)
  · rw [if_neg c4] at h
    refine lv_iconst (v := (0 : Int32)) S.1 S.2.1 dX4_stillToCome_17 (by decide) ?_
    exact B_18 _ _ u3 h _ _ _ hP hS (lv_sub hl [0, 1] rfl)
  · rw [if_pos c4] at h
    refine lv_iconst (v := (1 : Int32)) S.1 S.2.1 dX4_stillToCome_13 (by decide) ?_
    refine lv_goto (tgt := 18) S.1 S.2.1 dX4_stillToCome_14 (by decide) ?_
    exact B_18 _ _ u3 h _ _ _ hP hS (lv_sub hl [0, 1] rfl)
theorem hy_X4_given : yX4_given.cls ≠ "java/lang/invoke/MethodHandle" ∧ yX4_given.cls ≠ "java/lang/invoke/VarHandle" ∧ (parseMethodDescriptor yX4_given.desc).map (fun d => d.parameters.length) = some 2 := by decide +kernel
set_option maxHeartbeats 4000000 in
set_option maxRecDepth 100000 in
theorem k_X4_given {l : Launch} {dC : Nat → ClassId} {dI : Nat → Nat → Nat} {ad : Nat → Nat} {cI : ClassId} (hap : AP ad 14) {x1 x2 : Int32} {u uf : Wo} {rf : Int32} (h : fX4_given x1 x2 u = some (rf, uf)) : CV l dC dI cI (WC ad cI) (AF ad 14) yX4_given cX4_given 3 none 3 67 [.ref (ad 3), .int x1, .int x2] u uf := by
  refine cv_begin (by decide) (Nat.le_of_ble_eq_true rfl) ?_
  intro p e s m args below meth c S hr hlk hK
  have B_50 : ∀ (u : Wo), fX4_given_50 u = some (rf, uf) → J p l e (rmk 3 67) s m args below meth c dC dI (WC ad cI) (AF ad 14) (MQ below (QV dC dI cI (WC ad cI) (AF ad 14) uf) args s 0 0 (AF ad 14)) u 50 3 [] [] := by
    intro u h H locs ls hP hS hl
    unfold fX4_given_50 at h
    exact x_vret S hr hlk hK hP hS h dX4_given_50
  intro H locs ls hP hS hl
  have hl : lv_has ls 3 [(0, .ref (ad 3)), (1, .int x1), (2, .int x2)] := hl
  unfold fX4_given at h
  refine lv_aload_n S.1 S.2.1 dX4_given_0 rfl (lv_at hl 0 rfl) ?_
  refine gC_3_stand S hK hP wf_X4_9 dX4_given_1 ?_
  refine lv_iload_n S.1 S.2.1 dX4_given_4 rfl (lv_at hl 1 rfl) ?_
  refine lv_bipush (v := (18 : Int32)) S.1 S.2.1 dX4_given_5 (by decide) ?_
  refine lv_aload_n S.1 S.2.1 dX4_given_7 rfl (lv_at hl 0 rfl) ?_
  refine gC_3_stand S hK hP wf_X4_9 dX4_given_8 ?_
  refine lv_iload_n S.1 S.2.1 dX4_given_11 rfl (lv_at hl 1 rfl) ?_
  refine lv_bipush (v := (18 : Int32)) S.1 S.2.1 dX4_given_12 (by decide) ?_
  obtain ⟨r2, u3, q1, h⟩ := bd_some h
  refine x_vi (Wf := WC ad cI) (q0 := 1) (ci := 3) (As := [.int x1, .int (18 : Int32)]) (rest := [.int (18 : Int32), .int x1, .ref (ad 1)]) S hK hP hS (k_X3_of hap q1) rfl rfl wl_X4_85 wi_X3_of ws_X3_of wz_X3 wc_X3_of hy_X3_of ⟨Nat.le_of_ble_eq_true rfl, Nat.le_of_ble_eq_true rfl⟩ hl.1 rfl (Nat.le_of_ble_eq_true rfl) dX4_given_14 (fun H locs hP hS => ?_)
  refine lv_iconst (v := (1 : Int32)) S.1 S.2.1 dX4_given_17 (by decide) ?_
  refine lv_iload_n S.1 S.2.1 dX4_given_18 rfl (lv_at hl 2 rfl) ?_
  refine lv_ishl S.1 S.2.1 dX4_given_19 ?_
  refine lv_ior S.1 S.2.1 dX4_given_20 ?_
  obtain ⟨r5, u6, q4, h⟩ := bd_some h
  refine x_vv (Wf := WC ad cI) (q0 := 1) (ci := 3) (As := [.int x1, .int (18 : Int32), .int (r2 ||| ((1 : Int32) <<< (x2 &&& (31 : Int32))))]) (rest := []) S hK hP hS (k_X3_set hap q4) rfl rfl wl_X4_28 wi_X3_set ws_X3_set wz_X3 wc_X3_set hy_X3_set ⟨Nat.le_of_ble_eq_true rfl, Nat.le_of_ble_eq_true rfl⟩ hl.1 rfl (Nat.le_of_ble_eq_true rfl) dX4_given_21 (fun H locs hP hS => ?_)
  refine lv_aload_n S.1 S.2.1 dX4_given_24 rfl (lv_at hl 0 rfl) ?_
  refine gC_3_stand S hK hP wf_X4_9 dX4_given_25 ?_
  refine lv_iload_n S.1 S.2.1 dX4_given_28 rfl (lv_at hl 1 rfl) ?_
  refine lv_iconst (v := (0 : Int32)) S.1 S.2.1 dX4_given_29 (by decide) ?_
  obtain ⟨r8, u9, q7, h⟩ := bd_some h
  refine x_vi (Wf := WC ad cI) (q0 := 1) (ci := 3) (As := [.int x1, .int (0 : Int32)]) (rest := []) S hK hP hS (k_X3_of hap q7) rfl rfl wl_X4_85 wi_X3_of ws_X3_of wz_X3 wc_X3_of hy_X3_of ⟨Nat.le_of_ble_eq_true rfl, Nat.le_of_ble_eq_true rfl⟩ hl.1 rfl (Nat.le_of_ble_eq_true rfl) dX4_given_30 (fun H locs hP hS => ?_)
  refine lv_iconst (v := (1 : Int32)) S.1 S.2.1 dX4_given_33 (by decide) ?_
  refine lv_icmp_ne (tgt := 50) S.1 S.2.1 dX4_given_34 (by decide) (fun c10 => ?_) (fun c10 => ?_)
  · rw [if_neg c10] at h
    exact B_50 u9 h _ _ _ hP hS (lv_sub hl [] rfl)
  · rw [if_pos c10] at h
    refine lv_aload_n S.1 S.2.1 dX4_given_37 rfl (lv_at hl 0 rfl) ?_
    refine lv_iload_n S.1 S.2.1 dX4_given_38 rfl (lv_at hl 1 rfl) ?_
    obtain ⟨r12, u13, q11, h⟩ := bd_some h
    refine x_vi (Wf := WC ad cI) (q0 := 3) (ci := 4) (As := [.int x1]) (rest := []) S hK hP hS (k_X4_stillToCome hap q11) rfl rfl wl_X4_121 wi_X4_stillToCome ws_X4_stillToCome wz_X4 wc_X4_stillToCome hy_X4_stillToCome ⟨Nat.le_of_ble_eq_true rfl, Nat.le_of_ble_eq_true rfl⟩ hl.1 rfl (Nat.le_of_ble_eq_true rfl) dX4_given_39 (fun H locs hP hS => ?_)
    refine lv_if_ne (tgt := 50) S.1 S.2.1 dX4_given_42 (by decide) (fun c14 => ?_) (fun c14 => ?_)
    · rw [if_neg c14] at h
      exact B_50 u13 h _ _ _ hP hS (lv_sub hl [] rfl)
    · rw [if_pos c14] at h
      refine lv_aload_n S.1 S.2.1 dX4_given_45 rfl (lv_at hl 0 rfl) ?_
      refine lv_iload_n S.1 S.2.1 dX4_given_46 rfl (lv_at hl 1 rfl) ?_
      obtain ⟨r16, u17, q15, h⟩ := bd_some h
      refine x_vv (Wf := WC ad cI) (q0 := 3) (ci := 4) (As := [.int x1]) (rest := []) S hK hP hS (k_X4_enter hap q15) rfl rfl wl_X4_82 wi_X4_enter ws_X4_enter wz_X4 wc_X4_enter hy_X4_enter ⟨Nat.le_of_ble_eq_true rfl, Nat.le_of_ble_eq_true rfl⟩ hl.1 rfl (Nat.le_of_ble_eq_true rfl) dX4_given_47 (fun H locs hP hS => ?_)
      exact B_50 u17 h _ _ _ hP hS (lv_sub hl [] rfl)
theorem hy_X4_goesBefore : yX4_goesBefore.cls ≠ "java/lang/invoke/MethodHandle" ∧ yX4_goesBefore.cls ≠ "java/lang/invoke/VarHandle" ∧ (parseMethodDescriptor yX4_goesBefore.desc).map (fun d => d.parameters.length) = some 3 := by decide +kernel
set_option maxHeartbeats 4000000 in
set_option maxRecDepth 100000 in
theorem k_X4_goesBefore {l : Launch} {dC : Nat → ClassId} {dI : Nat → Nat → Nat} {ad : Nat → Nat} {cI : ClassId} (hap : AP ad 14) {x1 x2 x3 : Int32} {u uf : Wo} {rf : Int32} (h : fX4_goesBefore x1 x2 x3 u = some (rf, uf)) : CI l dC dI cI (WC ad cI) (AF ad 14) yX4_goesBefore cX4_goesBefore 6 (some .boolean) 2 43 [.ref (ad 3), .int x1, .int x2, .int x3] u rf uf := by
  refine ci_begin (by decide) (Nat.le_of_ble_eq_true rfl) ?_
  intro p e s m args below meth c S hr hlk hK
  have B_57 : ∀ (s0 : Int32) (u : Wo), fX4_goesBefore_57 s0 u = some (rf, uf) → J p l e (rmk 2 43) s m args below meth c dC dI (WC ad cI) (AF ad 14) (MQ below (QI dC dI cI (WC ad cI) (AF ad 14) rf uf) args s 0 0 (AF ad 14)) u 57 6 [] [.int s0] := by
    intro s0 u h H locs ls hP hS hl
    unfold fX4_goesBefore_57 at h
    obtain ⟨q8, h⟩ := gi_some h
    exact x_zret S hr hlk hK hP hS q8 h dX4_goesBefore_57
  have B_52 : ∀ (u : Wo), fX4_goesBefore_52 u = some (rf, uf) → J p l e (rmk 2 43) s m args below meth c dC dI (WC ad cI) (AF ad 14) (MQ below (QI dC dI cI (WC ad cI) (AF ad 14) rf uf) args s 0 0 (AF ad 14)) u 52 6 [] [] := by
    intro u h H locs ls hP hS hl
    unfold fX4_goesBefore_52 at h
    refine lv_iconst (v := (1 : Int32)) S.1 S.2.1 dX4_goesBefore_52 (by decide) ?_
    refine lv_goto (tgt := 57) S.1 S.2.1 dX4_goesBefore_53 (by decide) ?_
    exact B_57 _ u h _ _ _ hP hS (lv_sub hl [] rfl)
  have B_56 : ∀ (u : Wo), fX4_goesBefore_56 u = some (rf, uf) → J p l e (rmk 2 43) s m args below meth c dC dI (WC ad cI) (AF ad 14) (MQ below (QI dC dI cI (WC ad cI) (AF ad 14) rf uf) args s 0 0 (AF ad 14)) u 56 6 [] [] := by
    intro u h H locs ls hP hS hl
    unfold fX4_goesBefore_56 at h
    refine lv_iconst (v := (0 : Int32)) S.1 S.2.1 dX4_goesBefore_56 (by decide) ?_
    exact B_57 _ u h _ _ _ hP hS (lv_sub hl [] rfl)
  intro H locs ls hP hS hl
  have hl : lv_has ls 6 [(0, .ref (ad 3)), (1, .int x1), (2, .int x2), (3, .int x3)] := hl
  unfold fX4_goesBefore at h
  refine lv_aload_n S.1 S.2.1 dX4_goesBefore_0 rfl (lv_at hl 0 rfl) ?_
  refine gC_3_stand S hK hP wf_X4_9 dX4_goesBefore_1 ?_
  refine lv_iload_n S.1 S.2.1 dX4_goesBefore_4 rfl (lv_at hl 1 rfl) ?_
  refine lv_iconst (v := (0 : Int32)) S.1 S.2.1 dX4_goesBefore_5 (by decide) ?_
  obtain ⟨r2, u3, q1, h⟩ := bd_some h
  refine x_vi (Wf := WC ad cI) (q0 := 1) (ci := 3) (As := [.int x1, .int (0 : Int32)]) (rest := []) S hK hP hS (k_X3_of hap q1) rfl rfl wl_X4_85 wi_X3_of ws_X3_of wz_X3 wc_X3_of hy_X3_of ⟨Nat.le_of_ble_eq_true rfl, Nat.le_of_ble_eq_true rfl⟩ hl.1 rfl (Nat.le_of_ble_eq_true rfl) dX4_goesBefore_6 (fun H locs hP hS => ?_)
  refine lv_istore (lv' := [(4, .int r2), (0, .ref (ad 3)), (1, .int x1), (2, .int x2), (3, .int x3)]) S.1 S.2.1 dX4_goesBefore_9 hl (by decide) rfl (fun ls hl => ?_)
  refine lv_aload_n S.1 S.2.1 dX4_goesBefore_11 rfl (lv_at hl 1 rfl) ?_
  refine gC_3_stand S hK hP wf_X4_9 dX4_goesBefore_12 ?_
  refine lv_iload_n S.1 S.2.1 dX4_goesBefore_15 rfl (lv_at hl 2 rfl) ?_
  refine lv_bipush (v := (12 : Int32)) S.1 S.2.1 dX4_goesBefore_16 (by decide) ?_
  obtain ⟨r5, u6, q4, h⟩ := bd_some h
  refine x_vi (Wf := WC ad cI) (q0 := 1) (ci := 3) (As := [.int x1, .int (12 : Int32)]) (rest := []) S hK hP hS (k_X3_of hap q4) rfl rfl wl_X4_85 wi_X3_of ws_X3_of wz_X3 wc_X3_of hy_X3_of ⟨Nat.le_of_ble_eq_true rfl, Nat.le_of_ble_eq_true rfl⟩ hl.1 rfl (Nat.le_of_ble_eq_true rfl) dX4_goesBefore_18 (fun H locs hP hS => ?_)
  refine lv_istore (lv' := [(5, .int r5), (4, .int r2), (0, .ref (ad 3)), (1, .int x1), (2, .int x2), (3, .int x3)]) S.1 S.2.1 dX4_goesBefore_21 hl (by decide) rfl (fun ls hl => ?_)
  refine lv_iload S.1 S.2.1 dX4_goesBefore_23 (lv_at hl 1 rfl) ?_
  refine lv_iconst (v := (2 : Int32)) S.1 S.2.1 dX4_goesBefore_25 (by decide) ?_
  refine lv_icmp_eq (tgt := 52) S.1 S.2.1 dX4_goesBefore_26 (by decide) (fun c7 => ?_) (fun c7 => ?_)
  · rw [if_pos c7] at h
    exact B_52 u6 h _ _ _ hP hS (lv_sub hl [] rfl)
  · rw [if_neg c7] at h
    refine lv_iload S.1 S.2.1 dX4_goesBefore_29 (lv_at hl 1 rfl) ?_
    refine lv_iconst (v := (1 : Int32)) S.1 S.2.1 dX4_goesBefore_31 (by decide) ?_
    refine lv_icmp_ne (tgt := 56) S.1 S.2.1 dX4_goesBefore_32 (by decide) (fun c9 => ?_) (fun c9 => ?_)
    · rw [if_neg c9] at h
      exact B_56 u6 h _ _ _ hP hS (lv_sub hl [] rfl)
    · rw [if_pos c9] at h
      refine lv_iload S.1 S.2.1 dX4_goesBefore_35 (lv_at hl 0 rfl) ?_
      refine lv_iload_n S.1 S.2.1 dX4_goesBefore_37 rfl (lv_at hl 5 rfl) ?_
      refine lv_icmp_lt (tgt := 52) S.1 S.2.1 dX4_goesBefore_38 (by decide) (fun c10 => ?_) (fun c10 => ?_)
      · rw [if_pos c10] at h
        exact B_52 u6 h _ _ _ hP hS (lv_sub hl [] rfl)
      · rw [if_neg c10] at h
        refine lv_iload S.1 S.2.1 dX4_goesBefore_41 (lv_at hl 0 rfl) ?_
        refine lv_iload_n S.1 S.2.1 dX4_goesBefore_43 rfl (lv_at hl 5 rfl) ?_
        refine lv_icmp_ne (tgt := 56) S.1 S.2.1 dX4_goesBefore_44 (by decide) (fun c11 => ?_) (fun c11 => ?_)
        · rw [if_neg c11] at h
          exact B_56 u6 h _ _ _ hP hS (lv_sub hl [] rfl)
        · rw [if_pos c11] at h
          refine lv_iload_n S.1 S.2.1 dX4_goesBefore_47 rfl (lv_at hl 3 rfl) ?_
          refine lv_iload_n S.1 S.2.1 dX4_goesBefore_48 rfl (lv_at hl 4 rfl) ?_
          refine lv_icmp_ge (tgt := 56) S.1 S.2.1 dX4_goesBefore_49 (by decide) (fun c12 => ?_) (fun c12 => ?_)
          · rw [if_pos c12] at h
            exact B_56 u6 h _ _ _ hP hS (lv_sub hl [] rfl)
          · rw [if_neg c12] at h
            exact B_52 u6 h _ _ _ hP hS (lv_sub hl [] rfl)
theorem hy_X4_askedByAsking : yX4_askedByAsking.cls ≠ "java/lang/invoke/MethodHandle" ∧ yX4_askedByAsking.cls ≠ "java/lang/invoke/VarHandle" ∧ (parseMethodDescriptor yX4_askedByAsking.desc).map (fun d => d.parameters.length) = some 3 := by decide +kernel
set_option maxHeartbeats 4000000 in
set_option maxRecDepth 100000 in
theorem k_X4_askedByAsking {l : Launch} {dC : Nat → ClassId} {dI : Nat → Nat → Nat} {ad : Nat → Nat} {cI : ClassId} (hap : AP ad 14) {x1 x2 x3 : Int32} {u uf : Wo} {rf : Int32} (h : fX4_askedByAsking x1 x2 x3 u = some (rf, uf)) : CV l dC dI cI (WC ad cI) (AF ad 14) yX4_askedByAsking cX4_askedByAsking 4 none 3 68 [.ref (ad 3), .int x1, .int x2, .int x3] u uf := by
  refine cv_begin (by decide) (Nat.le_of_ble_eq_true rfl) ?_
  intro p e s m args below meth c S hr hlk hK
  have B_74 : ∀ (u : Wo), fX4_askedByAsking_74 u = some (rf, uf) → J p l e (rmk 3 68) s m args below meth c dC dI (WC ad cI) (AF ad 14) (MQ below (QV dC dI cI (WC ad cI) (AF ad 14) uf) args s 0 0 (AF ad 14)) u 74 4 [] [] := by
    intro u h H locs ls hP hS hl
    unfold fX4_askedByAsking_74 at h
    exact x_vret S hr hlk hK hP hS h dX4_askedByAsking_74
  intro H locs ls hP hS hl
  have hl : lv_has ls 4 [(0, .ref (ad 3)), (1, .int x1), (2, .int x2), (3, .int x3)] := hl
  unfold fX4_askedByAsking at h
  refine lv_aload_n S.1 S.2.1 dX4_askedByAsking_0 rfl (lv_at hl 0 rfl) ?_
  refine gC_3_stand S hK hP wf_X4_9 dX4_askedByAsking_1 ?_
  refine lv_iload_n S.1 S.2.1 dX4_askedByAsking_4 rfl (lv_at hl 1 rfl) ?_
  refine lv_bipush (v := (6 : Int32)) S.1 S.2.1 dX4_askedByAsking_5 (by decide) ?_
  refine lv_aload_n S.1 S.2.1 dX4_askedByAsking_7 rfl (lv_at hl 0 rfl) ?_
  refine gC_3_stand S hK hP wf_X4_9 dX4_askedByAsking_8 ?_
  refine lv_iload_n S.1 S.2.1 dX4_askedByAsking_11 rfl (lv_at hl 1 rfl) ?_
  refine lv_bipush (v := (6 : Int32)) S.1 S.2.1 dX4_askedByAsking_12 (by decide) ?_
  obtain ⟨r2, u3, q1, h⟩ := bd_some h
  refine x_vi (Wf := WC ad cI) (q0 := 1) (ci := 3) (As := [.int x1, .int (6 : Int32)]) (rest := [.int (6 : Int32), .int x1, .ref (ad 1)]) S hK hP hS (k_X3_of hap q1) rfl rfl wl_X4_85 wi_X3_of ws_X3_of wz_X3 wc_X3_of hy_X3_of ⟨Nat.le_of_ble_eq_true rfl, Nat.le_of_ble_eq_true rfl⟩ hl.1 rfl (Nat.le_of_ble_eq_true rfl) dX4_askedByAsking_14 (fun H locs hP hS => ?_)
  refine lv_iload_n S.1 S.2.1 dX4_askedByAsking_17 rfl (lv_at hl 3 rfl) ?_
  refine x_max S wl_X4_109 hl.1 ⟨Nat.le_of_ble_eq_true rfl, Nat.le_of_ble_eq_true rfl⟩ dX4_askedByAsking_18 ?_
  refine lv_iconst (v := (1 : Int32)) S.1 S.2.1 dX4_askedByAsking_21 (by decide) ?_
  refine lv_iadd S.1 S.2.1 dX4_askedByAsking_22 ?_
  obtain ⟨r5, u6, q4, h⟩ := bd_some h
  refine x_vv (Wf := WC ad cI) (q0 := 1) (ci := 3) (As := [.int x1, .int (6 : Int32), .int ((if r2 < x3 then x3 else r2) + (1 : Int32))]) (rest := []) S hK hP hS (k_X3_set hap q4) rfl rfl wl_X4_28 wi_X3_set ws_X3_set wz_X3 wc_X3_set hy_X3_set ⟨Nat.le_of_ble_eq_true rfl, Nat.le_of_ble_eq_true rfl⟩ hl.1 rfl (Nat.le_of_ble_eq_true rfl) dX4_askedByAsking_23 (fun H locs hP hS => ?_)
  refine lv_aload_n S.1 S.2.1 dX4_askedByAsking_26 rfl (lv_at hl 0 rfl) ?_
  refine lv_iload_n S.1 S.2.1 dX4_askedByAsking_27 rfl (lv_at hl 1 rfl) ?_
  refine lv_iload_n S.1 S.2.1 dX4_askedByAsking_28 rfl (lv_at hl 2 rfl) ?_
  refine lv_iload_n S.1 S.2.1 dX4_askedByAsking_29 rfl (lv_at hl 3 rfl) ?_
  obtain ⟨r8, u9, q7, h⟩ := bd_some h
  refine x_vi (Wf := WC ad cI) (q0 := 3) (ci := 4) (As := [.int x1, .int x2, .int x3]) (rest := []) S hK hP hS (k_X4_goesBefore hap q7) rfl rfl wl_X4_114 wi_X4_goesBefore ws_X4_goesBefore wz_X4 wc_X4_goesBefore hy_X4_goesBefore ⟨Nat.le_of_ble_eq_true rfl, Nat.le_of_ble_eq_true rfl⟩ hl.1 rfl (Nat.le_of_ble_eq_true rfl) dX4_askedByAsking_30 (fun H locs hP hS => ?_)
  refine lv_if_eq (tgt := 63) S.1 S.2.1 dX4_askedByAsking_33 (by decide) (fun c10 => ?_) (fun c10 => ?_)
  · rw [if_pos c10] at h
    refine lv_aload_n S.1 S.2.1 dX4_askedByAsking_63 rfl (lv_at hl 0 rfl) ?_
    refine gC_3_stand S hK hP wf_X4_9 dX4_askedByAsking_64 ?_
    refine lv_iload_n S.1 S.2.1 dX4_askedByAsking_67 rfl (lv_at hl 1 rfl) ?_
    refine lv_iload_n S.1 S.2.1 dX4_askedByAsking_68 rfl (lv_at hl 2 rfl) ?_
    refine lv_iconst (v := (1 : Int32)) S.1 S.2.1 dX4_askedByAsking_69 (by decide) ?_
    refine lv_iconst (v := (0 : Int32)) S.1 S.2.1 dX4_askedByAsking_70 (by decide) ?_
    obtain ⟨r12, u13, q11, h⟩ := bd_some h
    refine x_vv (Wf := WC ad cI) (q0 := 1) (ci := 3) (As := [.int x1, .int x2, .int (1 : Int32), .int (0 : Int32)]) (rest := []) S hK hP hS (k_X3_send hap q11) rfl rfl wl_X4_118 wi_X3_send ws_X3_send wz_X3 wc_X3_send hy_X3_send ⟨Nat.le_of_ble_eq_true rfl, Nat.le_of_ble_eq_true rfl⟩ hl.1 rfl (Nat.le_of_ble_eq_true rfl) dX4_askedByAsking_71 (fun H locs hP hS => ?_)
    exact B_74 u13 h _ _ _ hP hS (lv_sub hl [] rfl)
  · rw [if_neg c10] at h
    refine lv_aload_n S.1 S.2.1 dX4_askedByAsking_36 rfl (lv_at hl 0 rfl) ?_
    refine gC_3_stand S hK hP wf_X4_9 dX4_askedByAsking_37 ?_
    refine lv_iload_n S.1 S.2.1 dX4_askedByAsking_40 rfl (lv_at hl 1 rfl) ?_
    refine lv_bipush (v := (24 : Int32)) S.1 S.2.1 dX4_askedByAsking_41 (by decide) ?_
    refine lv_aload_n S.1 S.2.1 dX4_askedByAsking_43 rfl (lv_at hl 0 rfl) ?_
    refine gC_3_stand S hK hP wf_X4_9 dX4_askedByAsking_44 ?_
    refine lv_iload_n S.1 S.2.1 dX4_askedByAsking_47 rfl (lv_at hl 1 rfl) ?_
    refine lv_bipush (v := (24 : Int32)) S.1 S.2.1 dX4_askedByAsking_48 (by decide) ?_
    obtain ⟨r15, u16, q14, h⟩ := bd_some h
    refine x_vi (Wf := WC ad cI) (q0 := 1) (ci := 3) (As := [.int x1, .int (24 : Int32)]) (rest := [.int (24 : Int32), .int x1, .ref (ad 1)]) S hK hP hS (k_X3_of hap q14) rfl rfl wl_X4_85 wi_X3_of ws_X3_of wz_X3 wc_X3_of hy_X3_of ⟨Nat.le_of_ble_eq_true rfl, Nat.le_of_ble_eq_true rfl⟩ hl.1 rfl (Nat.le_of_ble_eq_true rfl) dX4_askedByAsking_50 (fun H locs hP hS => ?_)
    refine lv_iconst (v := (1 : Int32)) S.1 S.2.1 dX4_askedByAsking_53 (by decide) ?_
    refine lv_iload_n S.1 S.2.1 dX4_askedByAsking_54 rfl (lv_at hl 2 rfl) ?_
    refine lv_ishl S.1 S.2.1 dX4_askedByAsking_55 ?_
    refine lv_ior S.1 S.2.1 dX4_askedByAsking_56 ?_
    obtain ⟨r18, u19, q17, h⟩ := bd_some h
    refine x_vv (Wf := WC ad cI) (q0 := 1) (ci := 3) (As := [.int x1, .int (24 : Int32), .int (r15 ||| ((1 : Int32) <<< (x2 &&& (31 : Int32))))]) (rest := []) S hK hP hS (k_X3_set hap q17) rfl rfl wl_X4_28 wi_X3_set ws_X3_set wz_X3 wc_X3_set hy_X3_set ⟨Nat.le_of_ble_eq_true rfl, Nat.le_of_ble_eq_true rfl⟩ hl.1 rfl (Nat.le_of_ble_eq_true rfl) dX4_askedByAsking_57 (fun H locs hP hS => ?_)
    refine lv_goto (tgt := 74) S.1 S.2.1 dX4_askedByAsking_60 (by decide) ?_
    exact B_74 u19 h _ _ _ hP hS (lv_sub hl [] rfl)
theorem hy_X4_coming : yX4_coming.cls ≠ "java/lang/invoke/MethodHandle" ∧ yX4_coming.cls ≠ "java/lang/invoke/VarHandle" ∧ (parseMethodDescriptor yX4_coming.desc).map (fun d => d.parameters.length) = some 2 := by decide +kernel
set_option maxHeartbeats 4000000 in
set_option maxRecDepth 100000 in
theorem k_X4_coming {l : Launch} {dC : Nat → ClassId} {dI : Nat → Nat → Nat} {ad : Nat → Nat} {cI : ClassId} (hap : AP ad 14) {x1 x2 : Int32} {u uf : Wo} {rf : Int32} (h : fX4_coming x1 x2 u = some (rf, uf)) : CV l dC dI cI (WC ad cI) (AF ad 14) yX4_coming cX4_coming 5 none 4 93 [.ref (ad 3), .int x1, .int x2] u uf := by
  refine cv_begin (by decide) (Nat.le_of_ble_eq_true rfl) ?_
  intro p e s m args below meth c S hr hlk hK
  have B_146 : ∀ (u : Wo), fX4_coming_146 u = some (rf, uf) → J p l e (rmk 4 93) s m args below meth c dC dI (WC ad cI) (AF ad 14) (MQ below (QV dC dI cI (WC ad cI) (AF ad 14) uf) args s 0 0 (AF ad 14)) u 146 5 [] [] := by
    intro u h H locs ls hP hS hl
    unfold fX4_coming_146 at h
    exact x_vret S hr hlk hK hP hS h dX4_coming_146
  have B_141 : ∀ (x2 : Int32) (u : Wo), fX4_coming_141 x2 u = some (rf, uf) → J p l e (rmk 4 93) s m args below meth c dC dI (WC ad cI) (AF ad 14) (MQ below (QV dC dI cI (WC ad cI) (AF ad 14) uf) args s 0 0 (AF ad 14)) u 141 5 [(0, .ref (ad 3)), (2, .int x2)] [] := by
    intro x2 u h H locs ls hP hS hl
    unfold fX4_coming_141 at h
    refine lv_aload_n S.1 S.2.1 dX4_coming_141 rfl (lv_at hl 0 rfl) ?_
    refine lv_iload_n S.1 S.2.1 dX4_coming_142 rfl (lv_at hl 1 rfl) ?_
    obtain ⟨r16, u17, q15, h⟩ := bd_some h
    refine x_vv (Wf := WC ad cI) (q0 := 3) (ci := 4) (As := [.int x2]) (rest := []) S hK hP hS (k_X4_followRules hap q15) rfl rfl wl_X4_54 wi_X4_followRules ws_X4_followRules wz_X4 wc_X4_followRules hy_X4_followRules ⟨Nat.le_of_ble_eq_true rfl, Nat.le_of_ble_eq_true rfl⟩ hl.1 rfl (Nat.le_of_ble_eq_true rfl) dX4_coming_143 (fun H locs hP hS => ?_)
    exact B_146 u17 h _ _ _ hP hS (lv_sub hl [] rfl)
  have B_30 : ∀ (x1 : Int32) (x2 : Int32) (x3 : Int32) (s0 : Int32) (u : Wo), fX4_coming_30 x1 x2 x3 s0 u = some (rf, uf) → J p l e (rmk 4 93) s m args below meth c dC dI (WC ad cI) (AF ad 14) (MQ below (QV dC dI cI (WC ad cI) (AF ad 14) uf) args s 0 0 (AF ad 14)) u 30 5 [(0, .ref (ad 3)), (1, .int x1), (2, .int x2), (3, .int x3)] [.int s0] := by
    intro x1 x2 x3 s0 u h H locs ls hP hS hl
    unfold fX4_coming_30 at h
    refine lv_istore (lv' := [(4, .int s0), (0, .ref (ad 3)), (1, .int x1), (2, .int x2), (3, .int x3)]) S.1 S.2.1 dX4_coming_30 hl (by decide) rfl (fun ls hl => ?_)
    refine lv_aload_n S.1 S.2.1 dX4_coming_32 rfl (lv_at hl 1 rfl) ?_
    refine gC_3_stand S hK hP wf_X4_9 dX4_coming_33 ?_
    refine gC_1_way S hK hP wf_X4_40 dX4_coming_36 ?_
    refine lv_if_ne (tgt := 69) S.1 S.2.1 dX4_coming_39 (by decide) (fun c9 => ?_) (fun c9 => ?_)
    · rw [if_neg c9] at h
      refine lv_aload_n S.1 S.2.1 dX4_coming_69 rfl (lv_at hl 1 rfl) ?_
      refine gC_3_stand S hK hP wf_X4_9 dX4_coming_70 ?_
      refine gC_1_way S hK hP wf_X4_40 dX4_coming_73 ?_
      refine lv_iconst (v := (1 : Int32)) S.1 S.2.1 dX4_coming_76 (by decide) ?_
      refine lv_icmp_ne (tgt := 116) S.1 S.2.1 dX4_coming_77 (by decide) (fun c10 => ?_) (fun c10 => ?_)
      · rw [if_neg c10] at h
        refine lv_iload S.1 S.2.1 dX4_coming_116 (lv_at hl 0 rfl) ?_
        refine lv_if_eq (tgt := 130) S.1 S.2.1 dX4_coming_118 (by decide) (fun c11 => ?_) (fun c11 => ?_)
        · rw [if_pos c11] at h
          refine lv_aload_n S.1 S.2.1 dX4_coming_130 rfl (lv_at hl 1 rfl) ?_
          refine gC_3_stand S hK hP wf_X4_9 dX4_coming_131 ?_
          refine lv_iload_n S.1 S.2.1 dX4_coming_134 rfl (lv_at hl 3 rfl) ?_
          refine lv_bipush (v := (86 : Int32)) S.1 S.2.1 dX4_coming_135 (by decide) ?_
          refine lv_iload_n S.1 S.2.1 dX4_coming_137 rfl (lv_at hl 3 rfl) ?_
          obtain ⟨r13, u14, q12, h⟩ := bd_some h
          refine x_vv (Wf := WC ad cI) (q0 := 1) (ci := 3) (As := [.int x2, .int (86 : Int32), .int x2]) (rest := []) S hK hP hS (k_X3_set hap q12) rfl rfl wl_X4_28 wi_X3_set ws_X3_set wz_X3 wc_X3_set hy_X3_set ⟨Nat.le_of_ble_eq_true rfl, Nat.le_of_ble_eq_true rfl⟩ hl.1 rfl (Nat.le_of_ble_eq_true rfl) dX4_coming_138 (fun H locs hP hS => ?_)
          exact B_141 _ u14 h _ _ _ hP hS (lv_sub hl [1, 3] rfl)
        · rw [if_neg c11] at h
          refine lv_aload_n S.1 S.2.1 dX4_coming_121 rfl (lv_at hl 1 rfl) ?_
          refine lv_iload_n S.1 S.2.1 dX4_coming_122 rfl (lv_at hl 3 rfl) ?_
          refine lv_iload_n S.1 S.2.1 dX4_coming_123 rfl (lv_at hl 2 rfl) ?_
          obtain ⟨r19, u20, q18, h⟩ := bd_some h
          refine x_vv (Wf := WC ad cI) (q0 := 3) (ci := 4) (As := [.int x2, .int x1]) (rest := []) S hK hP hS (k_X4_queue hap q18) rfl rfl wl_X4_51 wi_X4_queue ws_X4_queue wz_X4 wc_X4_queue hy_X4_queue ⟨Nat.le_of_ble_eq_true rfl, Nat.le_of_ble_eq_true rfl⟩ hl.1 rfl (Nat.le_of_ble_eq_true rfl) dX4_coming_124 (fun H locs hP hS => ?_)
          refine lv_goto (tgt := 141) S.1 S.2.1 dX4_coming_127 (by decide) ?_
          exact B_141 _ u20 h _ _ _ hP hS (lv_sub hl [1, 3] rfl)
      · rw [if_pos c10] at h
        refine lv_iload S.1 S.2.1 dX4_coming_80 (lv_at hl 0 rfl) ?_
        refine lv_if_eq (tgt := 98) S.1 S.2.1 dX4_coming_82 (by decide) (fun c21 => ?_) (fun c21 => ?_)
        · rw [if_pos c21] at h
          refine lv_aload_n S.1 S.2.1 dX4_coming_98 rfl (lv_at hl 1 rfl) ?_
          refine gC_3_stand S hK hP wf_X4_9 dX4_coming_99 ?_
          refine lv_bipush (v := (30 : Int32)) S.1 S.2.1 dX4_coming_102 (by decide) ?_
          refine lv_iload_n S.1 S.2.1 dX4_coming_104 rfl (lv_at hl 3 rfl) ?_
          obtain ⟨r23, u24, q22, h⟩ := bd_some h
          refine x_vv (Wf := WC ad cI) (q0 := 1) (ci := 3) (As := [.int (30 : Int32), .int x2]) (rest := []) S hK hP hS (k_X3_put hap q22) rfl rfl wl_X4_36 wi_X3_put ws_X3_put wz_X3 wc_X3_put hy_X3_put ⟨Nat.le_of_ble_eq_true rfl, Nat.le_of_ble_eq_true rfl⟩ hl.1 rfl (Nat.le_of_ble_eq_true rfl) dX4_coming_105 (fun H locs hP hS => ?_)
          refine lv_aload_n S.1 S.2.1 dX4_coming_108 rfl (lv_at hl 1 rfl) ?_
          refine lv_iload_n S.1 S.2.1 dX4_coming_109 rfl (lv_at hl 3 rfl) ?_
          obtain ⟨r26, u27, q25, h⟩ := bd_some h
          refine x_vv (Wf := WC ad cI) (q0 := 3) (ci := 4) (As := [.int x2]) (rest := []) S hK hP hS (k_X4_enter hap q25) rfl rfl wl_X4_82 wi_X4_enter ws_X4_enter wz_X4 wc_X4_enter hy_X4_enter ⟨Nat.le_of_ble_eq_true rfl, Nat.le_of_ble_eq_true rfl⟩ hl.1 rfl (Nat.le_of_ble_eq_true rfl) dX4_coming_110 (fun H locs hP hS => ?_)
          refine lv_goto (tgt := 146) S.1 S.2.1 dX4_coming_113 (by decide) ?_
          exact B_146 u27 h _ _ _ hP hS (lv_sub hl [] rfl)
        · rw [if_neg c21] at h
          refine lv_aload_n S.1 S.2.1 dX4_coming_85 rfl (lv_at hl 1 rfl) ?_
          refine lv_iload_n S.1 S.2.1 dX4_coming_86 rfl (lv_at hl 3 rfl) ?_
          refine lv_iload_n S.1 S.2.1 dX4_coming_87 rfl (lv_at hl 2 rfl) ?_
          refine lv_iload_n S.1 S.2.1 dX4_coming_88 rfl (lv_at hl 4 rfl) ?_
          obtain ⟨r29, u30, q28, h⟩ := bd_some h
          refine x_si (Wf := WC ad cI) (As := [.int x3]) (rest := [.int x1, .int x2, .ref (ad 3)]) S hK hP hS (k_X3_numberOf hap q28) wl_X4_70 wt_X3_numberOf wz_X3 wc_X3_numberOf hy_X3_numberOf ⟨Nat.le_of_ble_eq_true rfl, Nat.le_of_ble_eq_true rfl⟩ hl.1 rfl (Nat.le_of_ble_eq_true rfl) dX4_coming_89 (fun H locs hP hS => ?_)
          obtain ⟨r32, u33, q31, h⟩ := bd_some h
          refine x_vv (Wf := WC ad cI) (q0 := 3) (ci := 4) (As := [.int x2, .int x1, .int r29]) (rest := []) S hK hP hS (k_X4_askedByToken hap q31) rfl rfl wl_X4_79 wi_X4_askedByToken ws_X4_askedByToken wz_X4 wc_X4_askedByToken hy_X4_askedByToken ⟨Nat.le_of_ble_eq_true rfl, Nat.le_of_ble_eq_true rfl⟩ hl.1 rfl (Nat.le_of_ble_eq_true rfl) dX4_coming_92 (fun H locs hP hS => ?_)
          refine lv_goto (tgt := 146) S.1 S.2.1 dX4_coming_95 (by decide) ?_
          exact B_146 u33 h _ _ _ hP hS (lv_sub hl [] rfl)
    · rw [if_pos c9] at h
      refine lv_iload S.1 S.2.1 dX4_coming_42 (lv_at hl 0 rfl) ?_
      refine lv_if_eq (tgt := 60) S.1 S.2.1 dX4_coming_44 (by decide) (fun c34 => ?_) (fun c34 => ?_)
      · rw [if_pos c34] at h
        refine lv_aload_n S.1 S.2.1 dX4_coming_60 rfl (lv_at hl 1 rfl) ?_
        refine lv_iload_n S.1 S.2.1 dX4_coming_61 rfl (lv_at hl 3 rfl) ?_
        refine lv_iload_n S.1 S.2.1 dX4_coming_62 rfl (lv_at hl 2 rfl) ?_
        obtain ⟨r36, u37, q35, h⟩ := bd_some h
        refine x_vv (Wf := WC ad cI) (q0 := 3) (ci := 4) (As := [.int x2, .int x1]) (rest := []) S hK hP hS (k_X4_given hap q35) rfl rfl wl_X4_76 wi_X4_given ws_X4_given wz_X4 wc_X4_given hy_X4_given ⟨Nat.le_of_ble_eq_true rfl, Nat.le_of_ble_eq_true rfl⟩ hl.1 rfl (Nat.le_of_ble_eq_true rfl) dX4_coming_63 (fun H locs hP hS => ?_)
        refine lv_goto (tgt := 146) S.1 S.2.1 dX4_coming_66 (by decide) ?_
        exact B_146 u37 h _ _ _ hP hS (lv_sub hl [] rfl)
      · rw [if_neg c34] at h
        refine lv_aload_n S.1 S.2.1 dX4_coming_47 rfl (lv_at hl 1 rfl) ?_
        refine lv_iload_n S.1 S.2.1 dX4_coming_48 rfl (lv_at hl 3 rfl) ?_
        refine lv_iload_n S.1 S.2.1 dX4_coming_49 rfl (lv_at hl 2 rfl) ?_
        refine lv_iload_n S.1 S.2.1 dX4_coming_50 rfl (lv_at hl 4 rfl) ?_
        obtain ⟨r39, u40, q38, h⟩ := bd_some h
        refine x_si (Wf := WC ad cI) (As := [.int x3]) (rest := [.int x1, .int x2, .ref (ad 3)]) S hK hP hS (k_X3_numberOf hap q38) wl_X4_70 wt_X3_numberOf wz_X3 wc_X3_numberOf hy_X3_numberOf ⟨Nat.le_of_ble_eq_true rfl, Nat.le_of_ble_eq_true rfl⟩ hl.1 rfl (Nat.le_of_ble_eq_true rfl) dX4_coming_51 (fun H locs hP hS => ?_)
        obtain ⟨r42, u43, q41, h⟩ := bd_some h
        refine x_vv (Wf := WC ad cI) (q0 := 3) (ci := 4) (As := [.int x2, .int x1, .int r39]) (rest := []) S hK hP hS (k_X4_askedByAsking hap q41) rfl rfl wl_X4_73 wi_X4_askedByAsking ws_X4_askedByAsking wz_X4 wc_X4_askedByAsking hy_X4_askedByAsking ⟨Nat.le_of_ble_eq_true rfl, Nat.le_of_ble_eq_true rfl⟩ hl.1 rfl (Nat.le_of_ble_eq_true rfl) dX4_coming_54 (fun H locs hP hS => ?_)
        refine lv_goto (tgt := 146) S.1 S.2.1 dX4_coming_57 (by decide) ?_
        exact B_146 u43 h _ _ _ hP hS (lv_sub hl [] rfl)
  intro H locs ls hP hS hl
  have hl : lv_has ls 5 [(0, .ref (ad 3)), (1, .int x1), (2, .int x2)] := hl
  unfold fX4_coming at h
  refine lv_aload_n S.1 S.2.1 dX4_coming_0 rfl (lv_at hl 0 rfl) ?_
  refine gC_3_stand S hK hP wf_X4_9 dX4_coming_1 ?_
  refine lv_iconst (v := (0 : Int32)) S.1 S.2.1 dX4_coming_4 (by decide) ?_
  obtain ⟨u1, hu1, h⟩ := bw_some h
  refine pC_1_tooMany S hK hap hP hS wf_X4_23 dX4_coming_5 (by decide) hu1 (fun H locs hP hS => ?_)
  refine lv_aload_n S.1 S.2.1 dX4_coming_8 rfl (lv_at hl 0 rfl) ?_
  refine gC_3_stand S hK hP wf_X4_9 dX4_coming_9 ?_
  refine lv_iload_n S.1 S.2.1 dX4_coming_12 rfl (lv_at hl 1 rfl) ?_
  refine lv_iload_n S.1 S.2.1 dX4_coming_13 rfl (lv_at hl 2 rfl) ?_
  obtain ⟨r3, u4, q2, h⟩ := bd_some h
  refine x_vi (Wf := WC ad cI) (q0 := 1) (ci := 3) (As := [.int x1, .int x2]) (rest := []) S hK hP hS (k_X3_takeLetter hap q2) rfl rfl wl_X4_63 wi_X3_takeLetter ws_X3_takeLetter wz_X3 wc_X3_takeLetter hy_X3_takeLetter ⟨Nat.le_of_ble_eq_true rfl, Nat.le_of_ble_eq_true rfl⟩ hl.1 rfl (Nat.le_of_ble_eq_true rfl) dX4_coming_14 (fun H locs hP hS => ?_)
  refine lv_istore_n (lv' := [(3, .int r3), (0, .ref (ad 3)), (1, .int x1), (2, .int x2)]) S.1 S.2.1 dX4_coming_17 rfl hl (by decide) rfl (fun ls hl => ?_)
  refine lv_iload_n S.1 S.2.1 dX4_coming_18 rfl (lv_at hl 0 rfl) ?_
  obtain ⟨r6, u7, q5, h⟩ := bd_some h
  refine x_si (Wf := WC ad cI) (As := [.int r3]) (rest := []) S hK hP hS (k_X3_kindOf hap q5) wl_X4_67 wt_X3_kindOf wz_X3 wc_X3_kindOf hy_X3_kindOf ⟨Nat.le_of_ble_eq_true rfl, Nat.le_of_ble_eq_true rfl⟩ hl.1 rfl (Nat.le_of_ble_eq_true rfl) dX4_coming_19 (fun H locs hP hS => ?_)
  refine lv_if_ne (tgt := 29) S.1 S.2.1 dX4_coming_22 (by decide) (fun c8 => ?_) (fun c8 => ?_)
  · rw [if_neg c8] at h
    refine lv_iconst (v := (0 : Int32)) S.1 S.2.1 dX4_coming_29 (by decide) ?_
    exact B_30 _ _ _ _ u7 h _ _ _ hP hS (lv_sub hl [1, 2, 3, 0] rfl)
  · rw [if_pos c8] at h
    refine lv_iconst (v := (1 : Int32)) S.1 S.2.1 dX4_coming_25 (by decide) ?_
    refine lv_goto (tgt := 30) S.1 S.2.1 dX4_coming_26 (by decide) ?_
    exact B_30 _ _ _ _ u7 h _ _ _ hP hS (lv_sub hl [1, 2, 3, 0] rfl)
theorem hy_X5_bring : yX5_bring.cls ≠ "java/lang/invoke/MethodHandle" ∧ yX5_bring.cls ≠ "java/lang/invoke/VarHandle" ∧ (parseMethodDescriptor yX5_bring.desc).map (fun d => d.parameters.length) = some 2 := by decide +kernel
set_option maxHeartbeats 4000000 in
set_option maxRecDepth 100000 in
theorem k_X5_bring {l : Launch} {dC : Nat → ClassId} {dI : Nat → Nat → Nat} {ad : Nat → Nat} {cI : ClassId} (hap : AP ad 14) {x1 x2 : Int32} {u uf : Wo} {rf : Int32} (h : fX5_bring x1 x2 u = some (rf, uf)) : CI l dC dI cI (WC ad cI) (AF ad 14) yX5_bring cX5_bring 4 (some .int) 5 117 [.ref (ad 0), .int x1, .int x2] u rf uf := by
  refine ci_begin (by decide) (Nat.le_of_ble_eq_true rfl) ?_
  intro p e s m args below meth c S hr hlk hK
  have B_43 : ∀ (s0 : Int32) (u : Wo), fX5_bring_43 s0 u = some (rf, uf) → J p l e (rmk 5 117) s m args below meth c dC dI (WC ad cI) (AF ad 14) (MQ below (QI dC dI cI (WC ad cI) (AF ad 14) rf uf) args s 0 0 (AF ad 14)) u 43 4 [] [.int s0] := by
    intro s0 u h H locs ls hP hS hl
    unfold fX5_bring_43 at h
    exact x_iret S hr hlk hK hP hS h dX5_bring_43
  intro H locs ls hP hS hl
  have hl : lv_has ls 4 [(0, .ref (ad 0)), (1, .int x1), (2, .int x2)] := hl
  unfold fX5_bring at h
  refine lv_aload_n S.1 S.2.1 dX5_bring_0 rfl (lv_at hl 0 rfl) ?_
  refine gC_0_stand S hK hP wf_X5_10 dX5_bring_1 ?_
  refine lv_iload_n S.1 S.2.1 dX5_bring_4 rfl (lv_at hl 1 rfl) ?_
  refine lv_iload_n S.1 S.2.1 dX5_bring_5 rfl (lv_at hl 2 rfl) ?_
  refine lv_iconst (v := (0 : Int32)) S.1 S.2.1 dX5_bring_6 (by decide) ?_
  obtain ⟨r2, u3, q1, h⟩ := bd_some h
  refine x_vi (Wf := WC ad cI) (q0 := 1) (ci := 3) (As := [.int x1, .int x2, .int (0 : Int32)]) (rest := []) S hK hP hS (k_X3_letterAt hap q1) rfl rfl wl_X5_147 wi_X3_letterAt ws_X3_letterAt wz_X3 wc_X3_letterAt hy_X3_letterAt ⟨Nat.le_of_ble_eq_true rfl, Nat.le_of_ble_eq_true rfl⟩ hl.1 rfl (Nat.le_of_ble_eq_true rfl) dX5_bring_7 (fun H locs hP hS => ?_)
  obtain ⟨r5, u6, q4, h⟩ := bd_some h
  refine x_si (Wf := WC ad cI) (As := [.int r2]) (rest := []) S hK hP hS (k_X3_kindOf hap q4) wl_X5_151 wt_X3_kindOf wz_X3 wc_X3_kindOf hy_X3_kindOf ⟨Nat.le_of_ble_eq_true rfl, Nat.le_of_ble_eq_true rfl⟩ hl.1 rfl (Nat.le_of_ble_eq_true rfl) dX5_bring_10 (fun H locs hP hS => ?_)
  refine lv_istore_n (lv' := [(3, .int r5), (0, .ref (ad 0)), (1, .int x1), (2, .int x2)]) S.1 S.2.1 dX5_bring_13 rfl hl (by decide) rfl (fun ls hl => ?_)
  refine lv_aload_n S.1 S.2.1 dX5_bring_14 rfl (lv_at hl 1 rfl) ?_
  refine gC_0_past S hK hP wf_X5_37 dX5_bring_15 ?_
  obtain ⟨r8, u9, q7, h⟩ := bd_some h
  refine x_vv (Wf := WC ad cI) (q0 := 4) (ci := 1) (As := []) (rest := []) S hK hP hS (k_X1_mark hap q7) rfl rfl wl_X5_86 wi_X1_mark ws_X1_mark wz_X1 wc_X1_mark hy_X1_mark ⟨Nat.le_of_ble_eq_true rfl, Nat.le_of_ble_eq_true rfl⟩ hl.1 rfl (Nat.le_of_ble_eq_true rfl) dX5_bring_18 (fun H locs hP hS => ?_)
  refine lv_aload_n S.1 S.2.1 dX5_bring_21 rfl (lv_at hl 1 rfl) ?_
  refine gC_0_ways S hK hP wf_X5_28 dX5_bring_22 ?_
  refine lv_iload_n S.1 S.2.1 dX5_bring_25 rfl (lv_at hl 2 rfl) ?_
  refine lv_iload_n S.1 S.2.1 dX5_bring_26 rfl (lv_at hl 3 rfl) ?_
  obtain ⟨r11, u12, q10, h⟩ := bd_some h
  refine x_vv (Wf := WC ad cI) (q0 := 3) (ci := 4) (As := [.int x1, .int x2]) (rest := []) S hK hP hS (k_X4_coming hap q10) rfl rfl wl_X5_179 wi_X4_coming ws_X4_coming wz_X4 wc_X4_coming hy_X4_coming ⟨Nat.le_of_ble_eq_true rfl, Nat.le_of_ble_eq_true rfl⟩ hl.1 rfl (Nat.le_of_ble_eq_true rfl) dX5_bring_27 (fun H locs hP hS => ?_)
  refine lv_aload_n S.1 S.2.1 dX5_bring_30 rfl (lv_at hl 1 rfl) ?_
  obtain ⟨r14, u15, q13, h⟩ := bd_some h
  refine x_vi (Wf := WC ad cI) (q0 := 0) (ci := 5) (As := []) (rest := []) S hK hP hS (k_X5_settled hap q13) rfl rfl wl_X5_93 wi_X5_settled ws_X5_settled wz_X5 wc_X5_settled hy_X5_settled ⟨Nat.le_of_ble_eq_true rfl, Nat.le_of_ble_eq_true rfl⟩ hl.1 rfl (Nat.le_of_ble_eq_true rfl) dX5_bring_31 (fun H locs hP hS => ?_)
  refine lv_if_eq (tgt := 41) S.1 S.2.1 dX5_bring_34 (by decide) (fun c16 => ?_) (fun c16 => ?_)
  · rw [if_pos c16] at h
    refine lv_bipush (v := (-3 : Int32)) S.1 S.2.1 dX5_bring_41 (by decide) ?_
    exact B_43 _ u15 h _ _ _ hP hS (lv_sub hl [] rfl)
  · rw [if_neg c16] at h
    refine lv_iload_n S.1 S.2.1 dX5_bring_37 rfl (lv_at hl 0 rfl) ?_
    refine lv_goto (tgt := 43) S.1 S.2.1 dX5_bring_38 (by decide) ?_
    exact B_43 _ u15 h _ _ _ hP hS (lv_sub hl [] rfl)
theorem hy_X5_come : yX5_come.cls ≠ "java/lang/invoke/MethodHandle" ∧ yX5_come.cls ≠ "java/lang/invoke/VarHandle" ∧ (parseMethodDescriptor yX5_come.desc).map (fun d => d.parameters.length) = some 2 := by decide +kernel
set_option maxHeartbeats 4000000 in
set_option maxRecDepth 100000 in
theorem k_X5_come {l : Launch} {dC : Nat → ClassId} {dI : Nat → Nat → Nat} {ad : Nat → Nat} {cI : ClassId} (hap : AP ad 14) {x1 x2 : Int32} {u uf : Wo} {rf : Int32} (h : fX5_come x1 x2 u = some (rf, uf)) : CI l dC dI cI (WC ad cI) (AF ad 14) yX5_come cX5_come 3 (some .int) 6 140 [.ref (ad 0), .int x1, .int x2] u rf uf := by
  refine ci_begin (by decide) (Nat.le_of_ble_eq_true rfl) ?_
  intro p e s m args below meth c S hr hlk hK
  intro H locs ls hP hS hl
  have hl : lv_has ls 3 [(0, .ref (ad 0)), (1, .int x1), (2, .int x2)] := hl
  unfold fX5_come at h
  refine lv_aload_n S.1 S.2.1 dX5_come_0 rfl (lv_at hl 0 rfl) ?_
  refine gC_0_stand S hK hP wf_X5_10 dX5_come_1 ?_
  refine lv_iload_n S.1 S.2.1 dX5_come_4 rfl (lv_at hl 1 rfl) ?_
  refine lv_iload_n S.1 S.2.1 dX5_come_5 rfl (lv_at hl 2 rfl) ?_
  obtain ⟨r2, u3, q1, h⟩ := bd_some h
  refine x_vi (Wf := WC ad cI) (q0 := 1) (ci := 3) (As := [.int x1, .int x2]) (rest := []) S hK hP hS (k_X3_isPair hap q1) rfl rfl wl_X5_104 wi_X3_isPair ws_X3_isPair wz_X3 wc_X3_isPair hy_X3_isPair ⟨Nat.le_of_ble_eq_true rfl, Nat.le_of_ble_eq_true rfl⟩ hl.1 rfl (Nat.le_of_ble_eq_true rfl) dX5_come_6 (fun H locs hP hS => ?_)
  refine lv_if_ne (tgt := 14) S.1 S.2.1 dX5_come_9 (by decide) (fun c4 => ?_) (fun c4 => ?_)
  · rw [if_neg c4] at h
    refine lv_aload_n S.1 S.2.1 dX5_come_14 rfl (lv_at hl 0 rfl) ?_
    refine gC_0_stand S hK hP wf_X5_10 dX5_come_15 ?_
    refine lv_iload_n S.1 S.2.1 dX5_come_18 rfl (lv_at hl 1 rfl) ?_
    refine lv_iload_n S.1 S.2.1 dX5_come_19 rfl (lv_at hl 2 rfl) ?_
    obtain ⟨r6, u7, q5, h⟩ := bd_some h
    refine x_vi (Wf := WC ad cI) (q0 := 1) (ci := 3) (As := [.int x1, .int x2]) (rest := []) S hK hP hS (k_X3_underWay hap q5) rfl rfl wl_X5_108 wi_X3_underWay ws_X3_underWay wz_X3 wc_X3_underWay hy_X3_underWay ⟨Nat.le_of_ble_eq_true rfl, Nat.le_of_ble_eq_true rfl⟩ hl.1 rfl (Nat.le_of_ble_eq_true rfl) dX5_come_20 (fun H locs hP hS => ?_)
    refine lv_if_ne (tgt := 29) S.1 S.2.1 dX5_come_23 (by decide) (fun c8 => ?_) (fun c8 => ?_)
    · rw [if_neg c8] at h
      refine lv_aload_n S.1 S.2.1 dX5_come_29 rfl (lv_at hl 0 rfl) ?_
      refine lv_iload_n S.1 S.2.1 dX5_come_30 rfl (lv_at hl 1 rfl) ?_
      refine lv_iload_n S.1 S.2.1 dX5_come_31 rfl (lv_at hl 2 rfl) ?_
      obtain ⟨r10, u11, q9, h⟩ := bd_some h
      refine x_vi (Wf := WC ad cI) (q0 := 0) (ci := 5) (As := [.int x1, .int x2]) (rest := []) S hK hP hS (k_X5_bring hap q9) rfl rfl wl_X5_111 wi_X5_bring ws_X5_bring wz_X5 wc_X5_bring hy_X5_bring ⟨Nat.le_of_ble_eq_true rfl, Nat.le_of_ble_eq_true rfl⟩ hl.1 rfl (Nat.le_of_ble_eq_true rfl) dX5_come_32 (fun H locs hP hS => ?_)
      exact x_iret S hr hlk hK hP hS h dX5_come_35
    · rw [if_pos c8] at h
      refine lv_bipush (v := (-2 : Int32)) S.1 S.2.1 dX5_come_26 (by decide) ?_
      exact x_iret S hr hlk hK hP hS h dX5_come_28
  · rw [if_pos c4] at h
    refine lv_iconst (v := (-1 : Int32)) S.1 S.2.1 dX5_come_12 (by decide) ?_
    exact x_iret S hr hlk hK hP hS h dX5_come_13
theorem hy_X3_busyPairs : yX3_busyPairs.cls ≠ "java/lang/invoke/MethodHandle" ∧ yX3_busyPairs.cls ≠ "java/lang/invoke/VarHandle" ∧ (parseMethodDescriptor yX3_busyPairs.desc).map (fun d => d.parameters.length) = some 0 := by decide +kernel
set_option maxHeartbeats 4000000 in
set_option maxRecDepth 100000 in
theorem k_X3_busyPairs {l : Launch} {dC : Nat → ClassId} {dI : Nat → Nat → Nat} {ad : Nat → Nat} {cI : ClassId} (hap : AP ad 14) {u uf : Wo} {rf : Int32} (h : fX3_busyPairs u = some (rf, uf)) : CI l dC dI cI (WC ad cI) (AF ad 14) yX3_busyPairs cX3_busyPairs 4 (some .int) 2 43 [.ref (ad 1)] u rf uf := by
  refine ci_begin (by decide) (Nat.le_of_ble_eq_true rfl) ?_
  intro p e s m args below meth c S hr hlk hK
  have B_37 : ∀ (k14 : Int32 → Int32 → Int32 → Wo → Re) (hk14 : ∀ (x1 : Int32) (x2 : Int32) (x3 : Int32) (u : Wo), k14 x1 x2 x3 u = some (rf, uf) → J p l e (rmk 2 43) s m args below meth c dC dI (WC ad cI) (AF ad 14) (MQ below (QI dC dI cI (WC ad cI) (AF ad 14) rf uf) args s 0 0 (AF ad 14)) u 14 4 [(0, .ref (ad 1)), (1, .int x1), (2, .int x2), (3, .int x3)] []) (x2 : Int32) (x3 : Int32) (s0 : Int32) (s1 : Int32) (u : Wo), fX3_busyPairs_37 k14 x2 x3 s0 s1 u = some (rf, uf) → J p l e (rmk 2 43) s m args below meth c dC dI (WC ad cI) (AF ad 14) (MQ below (QI dC dI cI (WC ad cI) (AF ad 14) rf uf) args s 0 0 (AF ad 14)) u 37 4 [(0, .ref (ad 1)), (2, .int x2), (3, .int x3)] [.int s1, .int s0] := by
    intro k14 hk14 x2 x3 s0 s1 u h H locs ls hP hS hl
    unfold fX3_busyPairs_37 at h
    refine lv_iadd S.1 S.2.1 dX3_busyPairs_37 ?_
    refine lv_istore_n (lv' := [(1, .int (s0 + s1)), (0, .ref (ad 1)), (2, .int x2), (3, .int x3)]) S.1 S.2.1 dX3_busyPairs_38 rfl hl (by decide) rfl (fun ls hl => ?_)
    refine lv_iinc (v := (x3 + (1 : Int32))) (lv' := [(3, .int (x3 + (1 : Int32))), (1, .int (s0 + s1)), (0, .ref (ad 1)), (2, .int x2)]) S.1 S.2.1 dX3_busyPairs_39 hl (k := 3) rfl rfl (by decide) rfl (fun ls hl => ?_)
    refine lv_goto (tgt := 14) S.1 S.2.1 dX3_busyPairs_42 (by decide) ?_
    exact hk14 _ _ _ u h _ _ _ hP hS (lv_sub hl [2, 1, 3, 0] rfl)
  have B_14 : ∀ (k45 : Int32 → Int32 → Wo → Re) (hk45 : ∀ (x1 : Int32) (x2 : Int32) (u : Wo), k45 x1 x2 u = some (rf, uf) → J p l e (rmk 2 43) s m args below meth c dC dI (WC ad cI) (AF ad 14) (MQ below (QI dC dI cI (WC ad cI) (AF ad 14) rf uf) args s 0 0 (AF ad 14)) u 45 4 [(0, .ref (ad 1)), (1, .int x1), (2, .int x2)] []) (n : Nat) (x1 : Int32) (x2 : Int32) (x3 : Int32) (u : Wo), fX3_busyPairs_14 k45 n x1 x2 x3 u = some (rf, uf) → J p l e (rmk 2 43) s m args below meth c dC dI (WC ad cI) (AF ad 14) (MQ below (QI dC dI cI (WC ad cI) (AF ad 14) rf uf) args s 0 0 (AF ad 14)) u 14 4 [(0, .ref (ad 1)), (1, .int x1), (2, .int x2), (3, .int x3)] [] := by
    intro k45 hk45
    intro n
    induction n with
    | zero => intro x1 x2 x3 u h; cases h
    | succ n ih =>
      intro x1 x2 x3 u h H locs ls hP hS hl
      rw [fX3_busyPairs_14.eq_2] at h
      refine lv_iload_n S.1 S.2.1 dX3_busyPairs_14 rfl (lv_at hl 3 rfl) ?_
      refine lv_aload_n S.1 S.2.1 dX3_busyPairs_15 rfl (lv_at hl 0 rfl) ?_
      refine gC_1_n S hK hP wf_X3_19 dX3_busyPairs_16 ?_
      refine lv_icmp_ge (tgt := 45) S.1 S.2.1 dX3_busyPairs_19 (by decide) (fun c2 => ?_) (fun c2 => ?_)
      · rw [if_pos c2] at h
        exact hk45 _ _ u h _ _ _ hP hS (lv_sub hl [0, 1, 2] rfl)
      · rw [if_neg c2] at h
        refine lv_iload_n S.1 S.2.1 dX3_busyPairs_22 rfl (lv_at hl 1 rfl) ?_
        refine lv_aload_n S.1 S.2.1 dX3_busyPairs_23 rfl (lv_at hl 0 rfl) ?_
        refine lv_iload_n S.1 S.2.1 dX3_busyPairs_24 rfl (lv_at hl 2 rfl) ?_
        refine lv_iload_n S.1 S.2.1 dX3_busyPairs_25 rfl (lv_at hl 3 rfl) ?_
        obtain ⟨r4, u5, q3, h⟩ := bd_some h
        refine x_vi (Wf := WC ad cI) (q0 := 1) (ci := 3) (As := [.int x2, .int x3]) (rest := [.int x1]) S hK hP hS (k_X3_underWay hap q3) rfl rfl wl_X3_63 wi_X3_underWay ws_X3_underWay wz_X3 wc_X3_underWay hy_X3_underWay ⟨Nat.le_of_ble_eq_true rfl, Nat.le_of_ble_eq_true rfl⟩ hl.1 rfl (Nat.le_of_ble_eq_true rfl) dX3_busyPairs_26 (fun H locs hP hS => ?_)
        refine lv_if_le (tgt := 36) S.1 S.2.1 dX3_busyPairs_29 (by decide) (fun c6 => ?_) (fun c6 => ?_)
        · rw [if_pos c6] at h
          refine lv_iconst (v := (0 : Int32)) S.1 S.2.1 dX3_busyPairs_36 (by decide) ?_
          exact B_37 _ ih _ _ _ _ u5 h _ _ _ hP hS (lv_sub hl [0, 2, 3] rfl)
        · rw [if_neg c6] at h
          refine lv_iconst (v := (1 : Int32)) S.1 S.2.1 dX3_busyPairs_32 (by decide) ?_
          refine lv_goto (tgt := 37) S.1 S.2.1 dX3_busyPairs_33 (by decide) ?_
          exact B_37 _ ih _ _ _ _ u5 h _ _ _ hP hS (lv_sub hl [0, 2, 3] rfl)
  have B_45 : ∀ (k4 : Int32 → Int32 → Wo → Re) (hk4 : ∀ (x1 : Int32) (x2 : Int32) (u : Wo), k4 x1 x2 u = some (rf, uf) → J p l e (rmk 2 43) s m args below meth c dC dI (WC ad cI) (AF ad 14) (MQ below (QI dC dI cI (WC ad cI) (AF ad 14) rf uf) args s 0 0 (AF ad 14)) u 4 4 [(0, .ref (ad 1)), (1, .int x1), (2, .int x2)] []) (x1 : Int32) (x2 : Int32) (u : Wo), fX3_busyPairs_45 k4 x1 x2 u = some (rf, uf) → J p l e (rmk 2 43) s m args below meth c dC dI (WC ad cI) (AF ad 14) (MQ below (QI dC dI cI (WC ad cI) (AF ad 14) rf uf) args s 0 0 (AF ad 14)) u 45 4 [(0, .ref (ad 1)), (1, .int x1), (2, .int x2)] [] := by
    intro k4 hk4 x1 x2 u h H locs ls hP hS hl
    unfold fX3_busyPairs_45 at h
    refine lv_iinc (v := (x2 + (1 : Int32))) (lv' := [(2, .int (x2 + (1 : Int32))), (0, .ref (ad 1)), (1, .int x1)]) S.1 S.2.1 dX3_busyPairs_45 hl (k := 2) rfl rfl (by decide) rfl (fun ls hl => ?_)
    refine lv_goto (tgt := 4) S.1 S.2.1 dX3_busyPairs_48 (by decide) ?_
    exact hk4 _ _ u h _ _ _ hP hS (lv_sub hl [1, 2, 0] rfl)
  have B_4 : ∀ (k51 : Int32 → Wo → Re) (hk51 : ∀ (x1 : Int32) (u : Wo), k51 x1 u = some (rf, uf) → J p l e (rmk 2 43) s m args below meth c dC dI (WC ad cI) (AF ad 14) (MQ below (QI dC dI cI (WC ad cI) (AF ad 14) rf uf) args s 0 0 (AF ad 14)) u 51 4 [(1, .int x1)] []) (n : Nat) (x1 : Int32) (x2 : Int32) (u : Wo), fX3_busyPairs_4 k51 n x1 x2 u = some (rf, uf) → J p l e (rmk 2 43) s m args below meth c dC dI (WC ad cI) (AF ad 14) (MQ below (QI dC dI cI (WC ad cI) (AF ad 14) rf uf) args s 0 0 (AF ad 14)) u 4 4 [(0, .ref (ad 1)), (1, .int x1), (2, .int x2)] [] := by
    intro k51 hk51
    intro n
    induction n with
    | zero => intro x1 x2 u h; cases h
    | succ n ih =>
      intro x1 x2 u h H locs ls hP hS hl
      rw [fX3_busyPairs_4.eq_2] at h
      refine lv_iload_n S.1 S.2.1 dX3_busyPairs_4 rfl (lv_at hl 2 rfl) ?_
      refine lv_aload_n S.1 S.2.1 dX3_busyPairs_5 rfl (lv_at hl 0 rfl) ?_
      refine gC_1_n S hK hP wf_X3_19 dX3_busyPairs_6 ?_
      refine lv_icmp_ge (tgt := 51) S.1 S.2.1 dX3_busyPairs_9 (by decide) (fun c1 => ?_) (fun c1 => ?_)
      · rw [if_pos c1] at h
        exact hk51 _ u h _ _ _ hP hS (lv_sub hl [1] rfl)
      · rw [if_neg c1] at h
        refine lv_iconst (v := (0 : Int32)) S.1 S.2.1 dX3_busyPairs_12 (by decide) ?_
        refine lv_istore_n (lv' := [(3, .int (0 : Int32)), (0, .ref (ad 1)), (1, .int x1), (2, .int x2)]) S.1 S.2.1 dX3_busyPairs_13 rfl hl (by decide) rfl (fun ls hl => ?_)
        exact B_14 _ (B_45 _ ih) FU _ _ _ u h _ _ _ hP hS (lv_sub hl [1, 2, 3, 0] rfl)
  have B_51 : ∀ (x1 : Int32) (u : Wo), fX3_busyPairs_51 x1 u = some (rf, uf) → J p l e (rmk 2 43) s m args below meth c dC dI (WC ad cI) (AF ad 14) (MQ below (QI dC dI cI (WC ad cI) (AF ad 14) rf uf) args s 0 0 (AF ad 14)) u 51 4 [(1, .int x1)] [] := by
    intro x1 u h H locs ls hP hS hl
    unfold fX3_busyPairs_51 at h
    refine lv_iload_n S.1 S.2.1 dX3_busyPairs_51 rfl (lv_at hl 0 rfl) ?_
    exact x_iret S hr hlk hK hP hS h dX3_busyPairs_52
  intro H locs ls hP hS hl
  have hl : lv_has ls 4 [(0, .ref (ad 1))] := hl
  unfold fX3_busyPairs at h
  refine lv_iconst (v := (0 : Int32)) S.1 S.2.1 dX3_busyPairs_0 (by decide) ?_
  refine lv_istore_n (lv' := [(1, .int (0 : Int32)), (0, .ref (ad 1))]) S.1 S.2.1 dX3_busyPairs_1 rfl hl (by decide) rfl (fun ls hl => ?_)
  refine lv_iconst (v := (0 : Int32)) S.1 S.2.1 dX3_busyPairs_2 (by decide) ?_
  refine lv_istore_n (lv' := [(2, .int (0 : Int32)), (1, .int (0 : Int32)), (0, .ref (ad 1))]) S.1 S.2.1 dX3_busyPairs_3 rfl hl (by decide) rfl (fun ls hl => ?_)
  exact B_4 _ B_51 FU _ _ u h _ _ _ hP hS (lv_sub hl [2, 1, 0] rfl)
theorem hy_X3_busyPair : yX3_busyPair.cls ≠ "java/lang/invoke/MethodHandle" ∧ yX3_busyPair.cls ≠ "java/lang/invoke/VarHandle" ∧ (parseMethodDescriptor yX3_busyPair.desc).map (fun d => d.parameters.length) = some 1 := by decide +kernel
set_option maxHeartbeats 4000000 in
set_option maxRecDepth 100000 in
theorem k_X3_busyPair {l : Launch} {dC : Nat → ClassId} {dI : Nat → Nat → Nat} {ad : Nat → Nat} {cI : ClassId} (hap : AP ad 14) {x1 : Int32} {u uf : Wo} {rf : Int32} (h : fX3_busyPair x1 u = some (rf, uf)) : CI l dC dI cI (WC ad cI) (AF ad 14) yX3_busyPair cX3_busyPair 5 (some .int) 2 43 [.ref (ad 1), .int x1] u rf uf := by
  refine ci_begin (by decide) (Nat.le_of_ble_eq_true rfl) ?_
  intro p e s m args below meth c S hr hlk hK
  have B_50 : ∀ (k15 : Int32 → Int32 → Int32 → Int32 → Wo → Re) (hk15 : ∀ (x1 : Int32) (x2 : Int32) (x3 : Int32) (x4 : Int32) (u : Wo), k15 x1 x2 x3 x4 u = some (rf, uf) → J p l e (rmk 2 43) s m args below meth c dC dI (WC ad cI) (AF ad 14) (MQ below (QI dC dI cI (WC ad cI) (AF ad 14) rf uf) args s 0 0 (AF ad 14)) u 15 5 [(0, .ref (ad 1)), (1, .int x1), (2, .int x2), (3, .int x3), (4, .int x4)] []) (x1 : Int32) (x2 : Int32) (x3 : Int32) (x4 : Int32) (u : Wo), fX3_busyPair_50 k15 x1 x2 x3 x4 u = some (rf, uf) → J p l e (rmk 2 43) s m args below meth c dC dI (WC ad cI) (AF ad 14) (MQ below (QI dC dI cI (WC ad cI) (AF ad 14) rf uf) args s 0 0 (AF ad 14)) u 50 5 [(0, .ref (ad 1)), (1, .int x1), (2, .int x2), (3, .int x3), (4, .int x4)] [] := by
    intro k15 hk15 x1 x2 x3 x4 u h H locs ls hP hS hl
    unfold fX3_busyPair_50 at h
    refine lv_iinc (v := (x4 + (1 : Int32))) (lv' := [(4, .int (x4 + (1 : Int32))), (0, .ref (ad 1)), (1, .int x1), (2, .int x2), (3, .int x3)]) S.1 S.2.1 dX3_busyPair_50 hl (k := 4) rfl rfl (by decide) rfl (fun ls hl => ?_)
    refine lv_goto (tgt := 15) S.1 S.2.1 dX3_busyPair_53 (by decide) ?_
    exact hk15 _ _ _ _ u h _ _ _ hP hS (lv_sub hl [1, 2, 3, 4, 0] rfl)
  have B_15 : ∀ (k42 : Int32 → Int32 → Wo → Re) (hk42 : ∀ (x3 : Int32) (x4 : Int32) (u : Wo), k42 x3 x4 u = some (rf, uf) → J p l e (rmk 2 43) s m args below meth c dC dI (WC ad cI) (AF ad 14) (MQ below (QI dC dI cI (WC ad cI) (AF ad 14) rf uf) args s 0 0 (AF ad 14)) u 42 5 [(3, .int x3), (4, .int x4)] []) (k56 : Int32 → Int32 → Int32 → Wo → Re) (hk56 : ∀ (x1 : Int32) (x2 : Int32) (x3 : Int32) (u : Wo), k56 x1 x2 x3 u = some (rf, uf) → J p l e (rmk 2 43) s m args below meth c dC dI (WC ad cI) (AF ad 14) (MQ below (QI dC dI cI (WC ad cI) (AF ad 14) rf uf) args s 0 0 (AF ad 14)) u 56 5 [(0, .ref (ad 1)), (1, .int x1), (2, .int x2), (3, .int x3)] []) (n : Nat) (x1 : Int32) (x2 : Int32) (x3 : Int32) (x4 : Int32) (u : Wo), fX3_busyPair_15 k42 k56 n x1 x2 x3 x4 u = some (rf, uf) → J p l e (rmk 2 43) s m args below meth c dC dI (WC ad cI) (AF ad 14) (MQ below (QI dC dI cI (WC ad cI) (AF ad 14) rf uf) args s 0 0 (AF ad 14)) u 15 5 [(0, .ref (ad 1)), (1, .int x1), (2, .int x2), (3, .int x3), (4, .int x4)] [] := by
    intro k42 hk42 k56 hk56
    intro n
    induction n with
    | zero => intro x1 x2 x3 x4 u h; cases h
    | succ n ih =>
      intro x1 x2 x3 x4 u h H locs ls hP hS hl
      rw [fX3_busyPair_15.eq_2] at h
      refine lv_iload S.1 S.2.1 dX3_busyPair_15 (lv_at hl 4 rfl) ?_
      refine lv_aload_n S.1 S.2.1 dX3_busyPair_17 rfl (lv_at hl 0 rfl) ?_
      refine gC_1_n S hK hP wf_X3_19 dX3_busyPair_18 ?_
      refine lv_icmp_ge (tgt := 56) S.1 S.2.1 dX3_busyPair_21 (by decide) (fun c2 => ?_) (fun c2 => ?_)
      · rw [if_pos c2] at h
        exact hk56 _ _ _ u h _ _ _ hP hS (lv_sub hl [0, 1, 2, 3] rfl)
      · rw [if_neg c2] at h
        refine lv_aload_n S.1 S.2.1 dX3_busyPair_24 rfl (lv_at hl 0 rfl) ?_
        refine lv_iload_n S.1 S.2.1 dX3_busyPair_25 rfl (lv_at hl 3 rfl) ?_
        refine lv_iload S.1 S.2.1 dX3_busyPair_26 (lv_at hl 4 rfl) ?_
        obtain ⟨r4, u5, q3, h⟩ := bd_some h
        refine x_vi (Wf := WC ad cI) (q0 := 1) (ci := 3) (As := [.int x3, .int x4]) (rest := []) S hK hP hS (k_X3_underWay hap q3) rfl rfl wl_X3_63 wi_X3_underWay ws_X3_underWay wz_X3 wc_X3_underWay hy_X3_underWay ⟨Nat.le_of_ble_eq_true rfl, Nat.le_of_ble_eq_true rfl⟩ hl.1 rfl (Nat.le_of_ble_eq_true rfl) dX3_busyPair_28 (fun H locs hP hS => ?_)
        refine lv_if_le (tgt := 50) S.1 S.2.1 dX3_busyPair_31 (by decide) (fun c6 => ?_) (fun c6 => ?_)
        · rw [if_pos c6] at h
          exact B_50 _ ih _ _ _ _ u5 h _ _ _ hP hS (lv_sub hl [0, 1, 2, 3, 4] rfl)
        · rw [if_neg c6] at h
          refine lv_iload_n S.1 S.2.1 dX3_busyPair_34 rfl (lv_at hl 2 rfl) ?_
          refine lv_iinc (v := (x2 + (1 : Int32))) (lv' := [(2, .int (x2 + (1 : Int32))), (0, .ref (ad 1)), (1, .int x1), (3, .int x3), (4, .int x4)]) S.1 S.2.1 dX3_busyPair_35 hl (k := 2) rfl rfl (by decide) rfl (fun ls hl => ?_)
          refine lv_iload_n S.1 S.2.1 dX3_busyPair_38 rfl (lv_at hl 2 rfl) ?_
          refine lv_icmp_ne (tgt := 50) S.1 S.2.1 dX3_busyPair_39 (by decide) (fun c7 => ?_) (fun c7 => ?_)
          · rw [if_neg c7] at h
            exact B_50 _ ih _ _ _ _ u5 h _ _ _ hP hS (lv_sub hl [1, 2, 0, 3, 4] rfl)
          · rw [if_pos c7] at h
            exact hk42 _ _ u5 h _ _ _ hP hS (lv_sub hl [3, 4] rfl)
  have B_56 : ∀ (k4 : Int32 → Int32 → Int32 → Wo → Re) (hk4 : ∀ (x1 : Int32) (x2 : Int32) (x3 : Int32) (u : Wo), k4 x1 x2 x3 u = some (rf, uf) → J p l e (rmk 2 43) s m args below meth c dC dI (WC ad cI) (AF ad 14) (MQ below (QI dC dI cI (WC ad cI) (AF ad 14) rf uf) args s 0 0 (AF ad 14)) u 4 5 [(0, .ref (ad 1)), (1, .int x1), (2, .int x2), (3, .int x3)] []) (x1 : Int32) (x2 : Int32) (x3 : Int32) (u : Wo), fX3_busyPair_56 k4 x1 x2 x3 u = some (rf, uf) → J p l e (rmk 2 43) s m args below meth c dC dI (WC ad cI) (AF ad 14) (MQ below (QI dC dI cI (WC ad cI) (AF ad 14) rf uf) args s 0 0 (AF ad 14)) u 56 5 [(0, .ref (ad 1)), (1, .int x1), (2, .int x2), (3, .int x3)] [] := by
    intro k4 hk4 x1 x2 x3 u h H locs ls hP hS hl
    unfold fX3_busyPair_56 at h
    refine lv_iinc (v := (x3 + (1 : Int32))) (lv' := [(3, .int (x3 + (1 : Int32))), (0, .ref (ad 1)), (1, .int x1), (2, .int x2)]) S.1 S.2.1 dX3_busyPair_56 hl (k := 3) rfl rfl (by decide) rfl (fun ls hl => ?_)
    refine lv_goto (tgt := 4) S.1 S.2.1 dX3_busyPair_59 (by decide) ?_
    exact hk4 _ _ _ u h _ _ _ hP hS (lv_sub hl [1, 2, 3, 0] rfl)
  have B_4 : ∀ (k42 : Int32 → Int32 → Wo → Re) (hk42 : ∀ (x3 : Int32) (x4 : Int32) (u : Wo), k42 x3 x4 u = some (rf, uf) → J p l e (rmk 2 43) s m args below meth c dC dI (WC ad cI) (AF ad 14) (MQ below (QI dC dI cI (WC ad cI) (AF ad 14) rf uf) args s 0 0 (AF ad 14)) u 42 5 [(3, .int x3), (4, .int x4)] []) (k62 : Wo → Re) (hk62 : ∀ (u : Wo), k62  u = some (rf, uf) → J p l e (rmk 2 43) s m args below meth c dC dI (WC ad cI) (AF ad 14) (MQ below (QI dC dI cI (WC ad cI) (AF ad 14) rf uf) args s 0 0 (AF ad 14)) u 62 5 [] []) (n : Nat) (x1 : Int32) (x2 : Int32) (x3 : Int32) (u : Wo), fX3_busyPair_4 k42 k62 n x1 x2 x3 u = some (rf, uf) → J p l e (rmk 2 43) s m args below meth c dC dI (WC ad cI) (AF ad 14) (MQ below (QI dC dI cI (WC ad cI) (AF ad 14) rf uf) args s 0 0 (AF ad 14)) u 4 5 [(0, .ref (ad 1)), (1, .int x1), (2, .int x2), (3, .int x3)] [] := by
    intro k42 hk42 k62 hk62
    intro n
    induction n with
    | zero => intro x1 x2 x3 u h; cases h
    | succ n ih =>
      intro x1 x2 x3 u h H locs ls hP hS hl
      rw [fX3_busyPair_4.eq_2] at h
      refine lv_iload_n S.1 S.2.1 dX3_busyPair_4 rfl (lv_at hl 3 rfl) ?_
      refine lv_aload_n S.1 S.2.1 dX3_busyPair_5 rfl (lv_at hl 0 rfl) ?_
      refine gC_1_n S hK hP wf_X3_19 dX3_busyPair_6 ?_
      refine lv_icmp_ge (tgt := 62) S.1 S.2.1 dX3_busyPair_9 (by decide) (fun c1 => ?_) (fun c1 => ?_)
      · rw [if_pos c1] at h
        exact hk62 u h _ _ _ hP hS (lv_sub hl [] rfl)
      · rw [if_neg c1] at h
        refine lv_iconst (v := (0 : Int32)) S.1 S.2.1 dX3_busyPair_12 (by decide) ?_
        refine lv_istore (lv' := [(4, .int (0 : Int32)), (0, .ref (ad 1)), (1, .int x1), (2, .int x2), (3, .int x3)]) S.1 S.2.1 dX3_busyPair_13 hl (by decide) rfl (fun ls hl => ?_)
        exact B_15 _ hk42 _ (B_56 _ ih) FU _ _ _ _ u h _ _ _ hP hS (lv_sub hl [1, 2, 3, 4, 0] rfl)
  have B_42 : ∀ (x3 : Int32) (x4 : Int32) (u : Wo), fX3_busyPair_42 x3 x4 u = some (rf, uf) → J p l e (rmk 2 43) s m args below meth c dC dI (WC ad cI) (AF ad 14) (MQ below (QI dC dI cI (WC ad cI) (AF ad 14) rf uf) args s 0 0 (AF ad 14)) u 42 5 [(3, .int x3), (4, .int x4)] [] := by
    intro x3 x4 u h H locs ls hP hS hl
    unfold fX3_busyPair_42 at h
    refine lv_iload_n S.1 S.2.1 dX3_busyPair_42 rfl (lv_at hl 0 rfl) ?_
    refine lv_bipush (v := (6 : Int32)) S.1 S.2.1 dX3_busyPair_43 (by decide) ?_
    refine lv_imul S.1 S.2.1 dX3_busyPair_45 ?_
    refine lv_iload S.1 S.2.1 dX3_busyPair_46 (lv_at hl 1 rfl) ?_
    refine lv_iadd S.1 S.2.1 dX3_busyPair_48 ?_
    exact x_iret S hr hlk hK hP hS h dX3_busyPair_49
  have B_62 : ∀ (u : Wo), fX3_busyPair_62 u = some (rf, uf) → J p l e (rmk 2 43) s m args below meth c dC dI (WC ad cI) (AF ad 14) (MQ below (QI dC dI cI (WC ad cI) (AF ad 14) rf uf) args s 0 0 (AF ad 14)) u 62 5 [] [] := by
    intro u h H locs ls hP hS hl
    unfold fX3_busyPair_62 at h
    refine lv_iconst (v := (0 : Int32)) S.1 S.2.1 dX3_busyPair_62 (by decide) ?_
    exact x_iret S hr hlk hK hP hS h dX3_busyPair_63
  intro H locs ls hP hS hl
  have hl : lv_has ls 5 [(0, .ref (ad 1)), (1, .int x1)] := hl
  unfold fX3_busyPair at h
  refine lv_iconst (v := (0 : Int32)) S.1 S.2.1 dX3_busyPair_0 (by decide) ?_
  refine lv_istore_n (lv' := [(2, .int (0 : Int32)), (0, .ref (ad 1)), (1, .int x1)]) S.1 S.2.1 dX3_busyPair_1 rfl hl (by decide) rfl (fun ls hl => ?_)
  refine lv_iconst (v := (0 : Int32)) S.1 S.2.1 dX3_busyPair_2 (by decide) ?_
  refine lv_istore_n (lv' := [(3, .int (0 : Int32)), (2, .int (0 : Int32)), (0, .ref (ad 1)), (1, .int x1)]) S.1 S.2.1 dX3_busyPair_3 rfl hl (by decide) rfl (fun ls hl => ?_)
  exact B_4 _ B_42 _ B_62 FU _ _ _ u h _ _ _ hP hS (lv_sub hl [2, 3, 1, 0] rfl)
theorem hy_X5_run : yX5_run.cls ≠ "java/lang/invoke/MethodHandle" ∧ yX5_run.cls ≠ "java/lang/invoke/VarHandle" ∧ (parseMethodDescriptor yX5_run.desc).map (fun d => d.parameters.length) = some 2 := by decide +kernel
set_option maxHeartbeats 4000000 in
set_option maxRecDepth 100000 in
theorem k_X5_run {l : Launch} {dC : Nat → ClassId} {dI : Nat → Nat → Nat} {ad : Nat → Nat} {cI : ClassId} (hap : AP ad 14) {x1 x2 : Int32} {u uf : Wo} {rf : Int32} (h : fX5_run x1 x2 u = some (rf, uf)) : CI l dC dI cI (WC ad cI) (AF ad 14) yX5_run cX5_run 8 (some .int) 6 140 [.ref (ad 0), .int x1, .int x2] u rf uf := by
  refine ci_begin (by decide) (Nat.le_of_ble_eq_true rfl) ?_
  intro p e s m args below meth c S hr hlk hK
  have B_15 : ∀ (u : Wo), fX5_run_15 u = some (rf, uf) → J p l e (rmk 6 140) s m args below meth c dC dI (WC ad cI) (AF ad 14) (MQ below (QI dC dI cI (WC ad cI) (AF ad 14) rf uf) args s 0 0 (AF ad 14)) u 15 8 [] [] := by
    intro u h H locs ls hP hS hl
    unfold fX5_run_15 at h
    refine lv_iconst (v := (-1 : Int32)) S.1 S.2.1 dX5_run_15 (by decide) ?_
    exact x_iret S hr hlk hK hP hS h dX5_run_16
  have B_23 : ∀ (k107 : Int32 → Wo → Re) (hk107 : ∀ (x1 : Int32) (u : Wo), k107 x1 u = some (rf, uf) → J p l e (rmk 6 140) s m args below meth c dC dI (WC ad cI) (AF ad 14) (MQ below (QI dC dI cI (WC ad cI) (AF ad 14) rf uf) args s 0 0 (AF ad 14)) u 107 8 [(1, .int x1)] []) (n : Nat) (x1 : Int32) (x3 : Int64) (x5 : Int32) (u : Wo), fX5_run_23 k107 n x1 x3 x5 u = some (rf, uf) → J p l e (rmk 6 140) s m args below meth c dC dI (WC ad cI) (AF ad 14) (MQ below (QI dC dI cI (WC ad cI) (AF ad 14) rf uf) args s 0 0 (AF ad 14)) u 23 8 [(0, .ref (ad 0)), (1, .int x1), (3, .long x3), (5, .int x5)] [] := by
    intro k107 hk107
    intro n
    induction n with
    | zero => intro x1 x3 x5 u h; cases h
    | succ n ih =>
      intro x1 x3 x5 u h H locs ls hP hS hl
      rw [fX5_run_23.eq_2] at h
      refine lv_iload S.1 S.2.1 dX5_run_23 (lv_at hl 3 rfl) ?_
      refine lv_iload_n S.1 S.2.1 dX5_run_25 rfl (lv_at hl 1 rfl) ?_
      refine lv_icmp_ge (tgt := 107) S.1 S.2.1 dX5_run_26 (by decide) (fun c4 => ?_) (fun c4 => ?_)
      · rw [if_pos c4] at h
        exact hk107 _ u h _ _ _ hP hS (lv_sub hl [1] rfl)
      · rw [if_neg c4] at h
        refine lv_aload_n S.1 S.2.1 dX5_run_29 rfl (lv_at hl 0 rfl) ?_
        refine gC_0_stand S hK hP wf_X5_10 dX5_run_30 ?_
        obtain ⟨r6, u7, q5, h⟩ := bd_some h
        refine x_vi (Wf := WC ad cI) (q0 := 1) (ci := 3) (As := []) (rest := []) S hK hP hS (k_X3_busyPairs hap q5) rfl rfl wl_X5_114 wi_X3_busyPairs ws_X3_busyPairs wz_X3 wc_X3_busyPairs hy_X3_busyPairs ⟨Nat.le_of_ble_eq_true rfl, Nat.le_of_ble_eq_true rfl⟩ hl.1 rfl (Nat.le_of_ble_eq_true rfl) dX5_run_33 (fun H locs hP hS => ?_)
        refine lv_istore (lv' := [(6, .int r6), (0, .ref (ad 0)), (1, .int x1), (3, .long x3), (5, .int x5)]) S.1 S.2.1 dX5_run_36 hl (by decide) rfl (fun ls hl => ?_)
        refine lv_iload S.1 S.2.1 dX5_run_38 (lv_at hl 0 rfl) ?_
        refine lv_if_gt (tgt := 46) S.1 S.2.1 dX5_run_40 (by decide) (fun c8 => ?_) (fun c8 => ?_)
        · rw [if_pos c8] at h
          refine lv_aload_n S.1 S.2.1 dX5_run_46 rfl (lv_at hl 1 rfl) ?_
          refine gC_0_stand S hK hP wf_X5_10 dX5_run_47 ?_
          refine lv_lload_n S.1 S.2.1 dX5_run_50 rfl (lv_at hl 3 rfl) ?_
          refine lv_iload S.1 S.2.1 dX5_run_51 (lv_at hl 0 rfl) ?_
          refine lv_i2l (v := (r6).toInt64) S.1 S.2.1 dX5_run_53 rfl ?_
          obtain ⟨q9, h⟩ := gi_some h
          refine lv_lrem S.1 S.2.1 dX5_run_54 (of_decide_eq_true q9) ?_
          refine lv_l2i (v := ((x3 - x3 / (r6).toInt64 * (r6).toInt64)).toInt32) S.1 S.2.1 dX5_run_55 rfl ?_
          obtain ⟨r11, u12, q10, h⟩ := bd_some h
          refine x_vi (Wf := WC ad cI) (q0 := 1) (ci := 3) (As := [.int ((x3 - x3 / (r6).toInt64 * (r6).toInt64)).toInt32]) (rest := []) S hK hP hS (k_X3_busyPair hap q10) rfl rfl wl_X5_117 wi_X3_busyPair ws_X3_busyPair wz_X3 wc_X3_busyPair hy_X3_busyPair ⟨Nat.le_of_ble_eq_true rfl, Nat.le_of_ble_eq_true rfl⟩ hl.1 rfl (Nat.le_of_ble_eq_true rfl) dX5_run_56 (fun H locs hP hS => ?_)
          refine lv_istore (lv' := [(7, .int r11), (6, .int r6), (0, .ref (ad 0)), (1, .int x1), (3, .long x3), (5, .int x5)]) S.1 S.2.1 dX5_run_59 hl (by decide) rfl (fun ls hl => ?_)
          refine lv_aload_n S.1 S.2.1 dX5_run_61 rfl (lv_at hl 2 rfl) ?_
          refine lv_iload S.1 S.2.1 dX5_run_62 (lv_at hl 0 rfl) ?_
          refine lv_bipush (v := (6 : Int32)) S.1 S.2.1 dX5_run_64 (by decide) ?_
          refine lv_idiv S.1 S.2.1 dX5_run_66 (by decide) ?_
          refine lv_iload S.1 S.2.1 dX5_run_67 (lv_at hl 0 rfl) ?_
          refine lv_bipush (v := (6 : Int32)) S.1 S.2.1 dX5_run_69 (by decide) ?_
          refine lv_irem S.1 S.2.1 dX5_run_71 (by decide) ?_
          obtain ⟨r14, u15, q13, h⟩ := bd_some h
          refine x_vi (Wf := WC ad cI) (q0 := 0) (ci := 5) (As := [.int (r11 / (6 : Int32)), .int (r11 - r11 / (6 : Int32) * (6 : Int32))]) (rest := []) S hK hP hS (k_X5_bring hap q13) rfl rfl wl_X5_111 wi_X5_bring ws_X5_bring wz_X5 wc_X5_bring hy_X5_bring ⟨Nat.le_of_ble_eq_true rfl, Nat.le_of_ble_eq_true rfl⟩ hl.1 rfl (Nat.le_of_ble_eq_true rfl) dX5_run_72 (fun H locs hP hS => ?_)
          refine lv_bipush (v := (-3 : Int32)) S.1 S.2.1 dX5_run_75 (by decide) ?_
          refine lv_icmp_ne (tgt := 83) S.1 S.2.1 dX5_run_77 (by decide) (fun c16 => ?_) (fun c16 => ?_)
          · rw [if_neg c16] at h
            refine lv_lload_n S.1 S.2.1 dX5_run_83 rfl (lv_at hl 4 rfl) ?_
            refine x_ldc2 S wk_X5_121 dX5_run_84 ?_
            refine lv_lmul S.1 S.2.1 dX5_run_87 ?_
            refine x_ldc2 S wk_X5_123 dX5_run_88 ?_
            refine lv_ladd S.1 S.2.1 dX5_run_91 ?_
            refine x_ldc2 S wk_X5_125 dX5_run_92 ?_
            refine lv_lrem S.1 S.2.1 dX5_run_95 (by decide) ?_
            refine x_ldc2 S wk_X5_127 dX5_run_96 ?_
            refine lv_ldiv S.1 S.2.1 dX5_run_99 (by decide) ?_
            refine lv_lstore_n (lv' := [(3, .long ((((x3 * (1103515245 : Int64)) + (12345 : Int64)) - ((x3 * (1103515245 : Int64)) + (12345 : Int64)) / (2147483648 : Int64) * (2147483648 : Int64)) / (8 : Int64))), (7, .int r11), (6, .int r6), (0, .ref (ad 0)), (1, .int x1), (5, .int x5)]) S.1 S.2.1 dX5_run_100 rfl hl (by decide) rfl (fun ls hl => ?_)
            refine lv_iinc (v := (x5 + (1 : Int32))) (lv' := [(5, .int (x5 + (1 : Int32))), (3, .long ((((x3 * (1103515245 : Int64)) + (12345 : Int64)) - ((x3 * (1103515245 : Int64)) + (12345 : Int64)) / (2147483648 : Int64) * (2147483648 : Int64)) / (8 : Int64))), (7, .int r11), (6, .int r6), (0, .ref (ad 0)), (1, .int x1)]) S.1 S.2.1 dX5_run_101 hl (k := 5) rfl rfl (by decide) rfl (fun ls hl => ?_)
            refine lv_goto (tgt := 23) S.1 S.2.1 dX5_run_104 (by decide) ?_
            exact ih _ _ _ u15 h _ _ _ hP hS (lv_sub hl [4, 5, 1, 0] rfl)
          · rw [if_pos c16] at h
            refine lv_iload S.1 S.2.1 dX5_run_80 (lv_at hl 5 rfl) ?_
            exact x_iret S hr hlk hK hP hS h dX5_run_82
        · rw [if_neg c8] at h
          refine lv_iload S.1 S.2.1 dX5_run_43 (lv_at hl 4 rfl) ?_
          exact x_iret S hr hlk hK hP hS h dX5_run_45
  have B_107 : ∀ (x1 : Int32) (u : Wo), fX5_run_107 x1 u = some (rf, uf) → J p l e (rmk 6 140) s m args below meth c dC dI (WC ad cI) (AF ad 14) (MQ below (QI dC dI cI (WC ad cI) (AF ad 14) rf uf) args s 0 0 (AF ad 14)) u 107 8 [(1, .int x1)] [] := by
    intro x1 u h H locs ls hP hS hl
    unfold fX5_run_107 at h
    refine lv_iload_n S.1 S.2.1 dX5_run_107 rfl (lv_at hl 0 rfl) ?_
    exact x_iret S hr hlk hK hP hS h dX5_run_108
  intro H locs ls hP hS hl
  have hl : lv_has ls 8 [(0, .ref (ad 0)), (1, .int x1), (2, .int x2)] := hl
  unfold fX5_run at h
  refine lv_iload_n S.1 S.2.1 dX5_run_0 rfl (lv_at hl 1 rfl) ?_
  refine lv_iconst (v := (1 : Int32)) S.1 S.2.1 dX5_run_1 (by decide) ?_
  refine lv_icmp_lt (tgt := 15) S.1 S.2.1 dX5_run_2 (by decide) (fun c1 => ?_) (fun c1 => ?_)
  · rw [if_pos c1] at h
    exact B_15 u h _ _ _ hP hS (lv_sub hl [] rfl)
  · rw [if_neg c1] at h
    refine lv_iload_n S.1 S.2.1 dX5_run_5 rfl (lv_at hl 1 rfl) ?_
    refine lv_bipush (v := (100 : Int32)) S.1 S.2.1 dX5_run_6 (by decide) ?_
    refine lv_icmp_gt (tgt := 15) S.1 S.2.1 dX5_run_8 (by decide) (fun c2 => ?_) (fun c2 => ?_)
    · rw [if_pos c2] at h
      exact B_15 u h _ _ _ hP hS (lv_sub hl [] rfl)
    · rw [if_neg c2] at h
      refine lv_iload_n S.1 S.2.1 dX5_run_11 rfl (lv_at hl 2 rfl) ?_
      refine lv_if_ge (tgt := 17) S.1 S.2.1 dX5_run_12 (by decide) (fun c3 => ?_) (fun c3 => ?_)
      · rw [if_pos c3] at h
        refine lv_iload_n S.1 S.2.1 dX5_run_17 rfl (lv_at hl 2 rfl) ?_
        refine lv_i2l (v := (x2).toInt64) S.1 S.2.1 dX5_run_18 rfl ?_
        refine lv_lstore_n (lv' := [(3, .long (x2).toInt64), (0, .ref (ad 0)), (1, .int x1), (2, .int x2)]) S.1 S.2.1 dX5_run_19 rfl hl (by decide) rfl (fun ls hl => ?_)
        refine lv_iconst (v := (0 : Int32)) S.1 S.2.1 dX5_run_20 (by decide) ?_
        refine lv_istore (lv' := [(5, .int (0 : Int32)), (3, .long (x2).toInt64), (0, .ref (ad 0)), (1, .int x1), (2, .int x2)]) S.1 S.2.1 dX5_run_21 hl (by decide) rfl (fun ls hl => ?_)
        exact B_23 _ B_107 FU _ _ _ u h _ _ _ hP hS (lv_sub hl [2, 3, 1, 0] rfl)
      · rw [if_neg c3] at h
        exact B_15 u h _ _ _ hP hS (lv_sub hl [] rfl)
theorem hy_X5_timeOf : yX5_timeOf.cls ≠ "java/lang/invoke/MethodHandle" ∧ yX5_timeOf.cls ≠ "java/lang/invoke/VarHandle" ∧ (parseMethodDescriptor yX5_timeOf.desc).map (fun d => d.parameters.length) = some 1 := by decide +kernel
set_option maxHeartbeats 4000000 in
set_option maxRecDepth 100000 in
theorem k_X5_timeOf {l : Launch} {dC : Nat → ClassId} {dI : Nat → Nat → Nat} {ad : Nat → Nat} {cI : ClassId} (hap : AP ad 14) {x1 : Int32} {u uf : Wo} {rf : Int32} (h : fX5_timeOf x1 u = some (rf, uf)) : CI l dC dI cI (WC ad cI) (AF ad 14) yX5_timeOf cX5_timeOf 2 (some .int) 2 43 [.ref (ad 0), .int x1] u rf uf := by
  refine ci_begin (by decide) (Nat.le_of_ble_eq_true rfl) ?_
  intro p e s m args below meth c S hr hlk hK
  have B_45 : ∀ (s0 : Int32) (u : Wo), fX5_timeOf_45 s0 u = some (rf, uf) → J p l e (rmk 2 43) s m args below meth c dC dI (WC ad cI) (AF ad 14) (MQ below (QI dC dI cI (WC ad cI) (AF ad 14) rf uf) args s 0 0 (AF ad 14)) u 45 2 [] [.int s0] := by
    intro s0 u h H locs ls hP hS hl
    unfold fX5_timeOf_45 at h
    exact x_iret S hr hlk hK hP hS h dX5_timeOf_45
  intro H locs ls hP hS hl
  have hl : lv_has ls 2 [(0, .ref (ad 0)), (1, .int x1)] := hl
  unfold fX5_timeOf at h
  refine lv_aload_n S.1 S.2.1 dX5_timeOf_0 rfl (lv_at hl 0 rfl) ?_
  refine gC_0_stand S hK hP wf_X5_10 dX5_timeOf_1 ?_
  refine gC_1_way S hK hP wf_X5_71 dX5_timeOf_4 ?_
  refine lv_if_ne (tgt := 21) S.1 S.2.1 dX5_timeOf_7 (by decide) (fun c1 => ?_) (fun c1 => ?_)
  · rw [if_neg c1] at h
    refine lv_aload_n S.1 S.2.1 dX5_timeOf_21 rfl (lv_at hl 0 rfl) ?_
    refine gC_0_stand S hK hP wf_X5_10 dX5_timeOf_22 ?_
    refine gC_1_way S hK hP wf_X5_71 dX5_timeOf_25 ?_
    refine lv_iconst (v := (1 : Int32)) S.1 S.2.1 dX5_timeOf_28 (by decide) ?_
    refine lv_icmp_ne (tgt := 44) S.1 S.2.1 dX5_timeOf_29 (by decide) (fun c2 => ?_) (fun c2 => ?_)
    · rw [if_neg c2] at h
      refine lv_iconst (v := (0 : Int32)) S.1 S.2.1 dX5_timeOf_44 (by decide) ?_
      exact B_45 _ u h _ _ _ hP hS (lv_sub hl [] rfl)
    · rw [if_pos c2] at h
      refine lv_aload_n S.1 S.2.1 dX5_timeOf_32 rfl (lv_at hl 0 rfl) ?_
      refine gC_0_stand S hK hP wf_X5_10 dX5_timeOf_33 ?_
      refine lv_iload_n S.1 S.2.1 dX5_timeOf_36 rfl (lv_at hl 1 rfl) ?_
      refine lv_iload_n S.1 S.2.1 dX5_timeOf_37 rfl (lv_at hl 1 rfl) ?_
      obtain ⟨r4, u5, q3, h⟩ := bd_some h
      refine x_vi (Wf := WC ad cI) (q0 := 1) (ci := 3) (As := [.int x1, .int x1]) (rest := []) S hK hP hS (k_X3_known hap q3) rfl rfl wl_X5_144 wi_X3_known ws_X3_known wz_X3 wc_X3_known hy_X3_known ⟨Nat.le_of_ble_eq_true rfl, Nat.le_of_ble_eq_true rfl⟩ hl.1 rfl (Nat.le_of_ble_eq_true rfl) dX5_timeOf_38 (fun H locs hP hS => ?_)
      refine lv_goto (tgt := 45) S.1 S.2.1 dX5_timeOf_41 (by decide) ?_
      exact B_45 _ u5 h _ _ _ hP hS (lv_sub hl [] rfl)
  · rw [if_pos c1] at h
    refine lv_aload_n S.1 S.2.1 dX5_timeOf_10 rfl (lv_at hl 0 rfl) ?_
    refine gC_0_stand S hK hP wf_X5_10 dX5_timeOf_11 ?_
    refine lv_iload_n S.1 S.2.1 dX5_timeOf_14 rfl (lv_at hl 1 rfl) ?_
    refine lv_bipush (v := (12 : Int32)) S.1 S.2.1 dX5_timeOf_15 (by decide) ?_
    obtain ⟨r7, u8, q6, h⟩ := bd_some h
    refine x_vi (Wf := WC ad cI) (q0 := 1) (ci := 3) (As := [.int x1, .int (12 : Int32)]) (rest := []) S hK hP hS (k_X3_of hap q6) rfl rfl wl_X5_74 wi_X3_of ws_X3_of wz_X3 wc_X3_of hy_X3_of ⟨Nat.le_of_ble_eq_true rfl, Nat.le_of_ble_eq_true rfl⟩ hl.1 rfl (Nat.le_of_ble_eq_true rfl) dX5_timeOf_17 (fun H locs hP hS => ?_)
    exact x_iret S hr hlk hK hP hS h dX5_timeOf_20
theorem hy_X5_keeper : yX5_keeper.cls ≠ "java/lang/invoke/MethodHandle" ∧ yX5_keeper.cls ≠ "java/lang/invoke/VarHandle" ∧ (parseMethodDescriptor yX5_keeper.desc).map (fun d => d.parameters.length) = some 2 := by decide +kernel
set_option maxHeartbeats 4000000 in
set_option maxRecDepth 100000 in
theorem k_X5_keeper {l : Launch} {dC : Nat → ClassId} {dI : Nat → Nat → Nat} {ad : Nat → Nat} {cI : ClassId} (hap : AP ad 14) {x1 x2 : Int32} {u uf : Wo} {rf : Int32} (h : fX5_keeper x1 x2 u = some (rf, uf)) : CI l dC dI cI (WC ad cI) (AF ad 14) yX5_keeper cX5_keeper 5 (some .int) 3 65 [.ref (ad 0), .int x1, .int x2] u rf uf := by
  refine ci_begin (by decide) (Nat.le_of_ble_eq_true rfl) ?_
  intro p e s m args below meth c S hr hlk hK
  have B_132 : ∀ (s0 : Int32) (u : Wo), fX5_keeper_132 s0 u = some (rf, uf) → J p l e (rmk 3 65) s m args below meth c dC dI (WC ad cI) (AF ad 14) (MQ below (QI dC dI cI (WC ad cI) (AF ad 14) rf uf) args s 0 0 (AF ad 14)) u 132 5 [] [.int s0] := by
    intro s0 u h H locs ls hP hS hl
    unfold fX5_keeper_132 at h
    exact x_iret S hr hlk hK hP hS h dX5_keeper_132
  have B_155 : ∀ (s0 : Int32) (u : Wo), fX5_keeper_155 s0 u = some (rf, uf) → J p l e (rmk 3 65) s m args below meth c dC dI (WC ad cI) (AF ad 14) (MQ below (QI dC dI cI (WC ad cI) (AF ad 14) rf uf) args s 0 0 (AF ad 14)) u 155 5 [] [.int s0] := by
    intro s0 u h H locs ls hP hS hl
    unfold fX5_keeper_155 at h
    exact x_iret S hr hlk hK hP hS h dX5_keeper_155
  have B_174 : ∀ (s0 : Int32) (u : Wo), fX5_keeper_174 s0 u = some (rf, uf) → J p l e (rmk 3 65) s m args below meth c dC dI (WC ad cI) (AF ad 14) (MQ below (QI dC dI cI (WC ad cI) (AF ad 14) rf uf) args s 0 0 (AF ad 14)) u 174 5 [] [.int s0] := by
    intro s0 u h H locs ls hP hS hl
    unfold fX5_keeper_174 at h
    exact x_iret S hr hlk hK hP hS h dX5_keeper_174
  have B_191 : ∀ (s0 : Int32) (u : Wo), fX5_keeper_191 s0 u = some (rf, uf) → J p l e (rmk 3 65) s m args below meth c dC dI (WC ad cI) (AF ad 14) (MQ below (QI dC dI cI (WC ad cI) (AF ad 14) rf uf) args s 0 0 (AF ad 14)) u 191 5 [] [.int s0] := by
    intro s0 u h H locs ls hP hS hl
    unfold fX5_keeper_191 at h
    exact x_iret S hr hlk hK hP hS h dX5_keeper_191
  have B_212 : ∀ (s0 : Int32) (u : Wo), fX5_keeper_212 s0 u = some (rf, uf) → J p l e (rmk 3 65) s m args below meth c dC dI (WC ad cI) (AF ad 14) (MQ below (QI dC dI cI (WC ad cI) (AF ad 14) rf uf) args s 0 0 (AF ad 14)) u 212 5 [] [.int s0] := by
    intro s0 u h H locs ls hP hS hl
    unfold fX5_keeper_212 at h
    exact x_iret S hr hlk hK hP hS h dX5_keeper_212
  have B_232 : ∀ (s0 : Int32) (u : Wo), fX5_keeper_232 s0 u = some (rf, uf) → J p l e (rmk 3 65) s m args below meth c dC dI (WC ad cI) (AF ad 14) (MQ below (QI dC dI cI (WC ad cI) (AF ad 14) rf uf) args s 0 0 (AF ad 14)) u 232 5 [] [.int s0] := by
    intro s0 u h H locs ls hP hS hl
    unfold fX5_keeper_232 at h
    exact x_iret S hr hlk hK hP hS h dX5_keeper_232
  have B_253 : ∀ (s0 : Int32) (u : Wo), fX5_keeper_253 s0 u = some (rf, uf) → J p l e (rmk 3 65) s m args below meth c dC dI (WC ad cI) (AF ad 14) (MQ below (QI dC dI cI (WC ad cI) (AF ad 14) rf uf) args s 0 0 (AF ad 14)) u 253 5 [] [.int s0] := by
    intro s0 u h H locs ls hP hS hl
    unfold fX5_keeper_253 at h
    exact x_iret S hr hlk hK hP hS h dX5_keeper_253
  have B_278 : ∀ (s0 : Int32) (u : Wo), fX5_keeper_278 s0 u = some (rf, uf) → J p l e (rmk 3 65) s m args below meth c dC dI (WC ad cI) (AF ad 14) (MQ below (QI dC dI cI (WC ad cI) (AF ad 14) rf uf) args s 0 0 (AF ad 14)) u 278 5 [] [.int s0] := by
    intro s0 u h H locs ls hP hS hl
    unfold fX5_keeper_278 at h
    exact x_iret S hr hlk hK hP hS h dX5_keeper_278
  have B_276 : ∀ (u : Wo), fX5_keeper_276 u = some (rf, uf) → J p l e (rmk 3 65) s m args below meth c dC dI (WC ad cI) (AF ad 14) (MQ below (QI dC dI cI (WC ad cI) (AF ad 14) rf uf) args s 0 0 (AF ad 14)) u 276 5 [] [] := by
    intro u h H locs ls hP hS hl
    unfold fX5_keeper_276 at h
    refine lv_bipush (v := (-4 : Int32)) S.1 S.2.1 dX5_keeper_276 (by decide) ?_
    exact B_278 _ u h _ _ _ hP hS (lv_sub hl [] rfl)
  have B_45 : ∀ (x1 : Int32) (x2 : Int32) (x3 : Int32) (s0 : Int32) (u : Wo), fX5_keeper_45 x1 x2 x3 s0 u = some (rf, uf) → J p l e (rmk 3 65) s m args below meth c dC dI (WC ad cI) (AF ad 14) (MQ below (QI dC dI cI (WC ad cI) (AF ad 14) rf uf) args s 0 0 (AF ad 14)) u 45 5 [(0, .ref (ad 0)), (1, .int x1), (2, .int x2), (3, .int x3)] [.int s0] := by
    intro x1 x2 x3 s0 u h H locs ls hP hS hl
    unfold fX5_keeper_45 at h
    refine lv_istore (lv' := [(4, .int s0), (0, .ref (ad 0)), (1, .int x1), (2, .int x2), (3, .int x3)]) S.1 S.2.1 dX5_keeper_45 hl (by decide) rfl (fun ls hl => ?_)
    refine lv_iload_n S.1 S.2.1 dX5_keeper_47 rfl (lv_at hl 3 rfl) ?_
    by_cases c7_0 : x2 = (0 : Int32)
    · rw [if_pos c7_0] at h
      refine lv_tableIn (tgt := 104) (off := 56) S.1 S.2.1 dX5_keeper_48 (by rw [c7_0]; decide) (by rw [c7_0]; decide) (by rw [c7_0]; decide) (by decide) ?_
      refine lv_aload_n S.1 S.2.1 dX5_keeper_104 rfl (lv_at hl 1 rfl) ?_
      refine gC_0_stand S hK hP wf_X5_10 dX5_keeper_105 ?_
      refine lv_iload_n S.1 S.2.1 dX5_keeper_108 rfl (lv_at hl 2 rfl) ?_
      refine lv_iconst (v := (0 : Int32)) S.1 S.2.1 dX5_keeper_109 (by decide) ?_
      obtain ⟨r9, u10, q8, h⟩ := bd_some h
      refine x_vi (Wf := WC ad cI) (q0 := 1) (ci := 3) (As := [.int x1, .int (0 : Int32)]) (rest := []) S hK hP hS (k_X3_of hap q8) rfl rfl wl_X5_74 wi_X3_of ws_X3_of wz_X3 wc_X3_of hy_X3_of ⟨Nat.le_of_ble_eq_true rfl, Nat.le_of_ble_eq_true rfl⟩ hl.1 rfl (Nat.le_of_ble_eq_true rfl) dX5_keeper_110 (fun H locs hP hS => ?_)
      exact x_iret S hr hlk hK hP hS h dX5_keeper_113
    rw [if_neg c7_0] at h
    by_cases c7_1 : x2 = (1 : Int32)
    · rw [if_pos c7_1] at h
      refine lv_tableIn (tgt := 114) (off := 66) S.1 S.2.1 dX5_keeper_48 (by rw [c7_1]; decide) (by rw [c7_1]; decide) (by rw [c7_1]; decide) (by decide) ?_
      refine lv_iload_n S.1 S.2.1 dX5_keeper_114 rfl (lv_at hl 4 rfl) ?_
      refine lv_if_eq (tgt := 131) S.1 S.2.1 dX5_keeper_115 (by decide) (fun c11 => ?_) (fun c11 => ?_)
      · rw [if_pos c11] at h
        refine lv_iconst (v := (0 : Int32)) S.1 S.2.1 dX5_keeper_131 (by decide) ?_
        exact B_132 _ u h _ _ _ hP hS (lv_sub hl [] rfl)
      · rw [if_neg c11] at h
        refine lv_aload_n S.1 S.2.1 dX5_keeper_118 rfl (lv_at hl 1 rfl) ?_
        refine gC_0_stand S hK hP wf_X5_10 dX5_keeper_119 ?_
        refine lv_iload_n S.1 S.2.1 dX5_keeper_122 rfl (lv_at hl 2 rfl) ?_
        refine lv_bipush (v := (6 : Int32)) S.1 S.2.1 dX5_keeper_123 (by decide) ?_
        obtain ⟨r13, u14, q12, h⟩ := bd_some h
        refine x_vi (Wf := WC ad cI) (q0 := 1) (ci := 3) (As := [.int x1, .int (6 : Int32)]) (rest := []) S hK hP hS (k_X3_of hap q12) rfl rfl wl_X5_74 wi_X3_of ws_X3_of wz_X3 wc_X3_of hy_X3_of ⟨Nat.le_of_ble_eq_true rfl, Nat.le_of_ble_eq_true rfl⟩ hl.1 rfl (Nat.le_of_ble_eq_true rfl) dX5_keeper_125 (fun H locs hP hS => ?_)
        refine lv_goto (tgt := 132) S.1 S.2.1 dX5_keeper_128 (by decide) ?_
        exact B_132 _ u14 h _ _ _ hP hS (lv_sub hl [] rfl)
    rw [if_neg c7_1] at h
    by_cases c7_2 : x2 = (2 : Int32)
    · rw [if_pos c7_2] at h
      refine lv_tableIn (tgt := 133) (off := 85) S.1 S.2.1 dX5_keeper_48 (by rw [c7_2]; decide) (by rw [c7_2]; decide) (by rw [c7_2]; decide) (by decide) ?_
      refine lv_aload_n S.1 S.2.1 dX5_keeper_133 rfl (lv_at hl 1 rfl) ?_
      refine lv_iload_n S.1 S.2.1 dX5_keeper_134 rfl (lv_at hl 2 rfl) ?_
      obtain ⟨r16, u17, q15, h⟩ := bd_some h
      refine x_vi (Wf := WC ad cI) (q0 := 0) (ci := 5) (As := [.int x1]) (rest := []) S hK hP hS (k_X5_timeOf hap q15) rfl rfl wl_X5_129 wi_X5_timeOf ws_X5_timeOf wz_X5 wc_X5_timeOf hy_X5_timeOf ⟨Nat.le_of_ble_eq_true rfl, Nat.le_of_ble_eq_true rfl⟩ hl.1 rfl (Nat.le_of_ble_eq_true rfl) dX5_keeper_135 (fun H locs hP hS => ?_)
      exact x_iret S hr hlk hK hP hS h dX5_keeper_138
    rw [if_neg c7_2] at h
    by_cases c7_3 : x2 = (3 : Int32)
    · rw [if_pos c7_3] at h
      refine lv_tableIn (tgt := 139) (off := 91) S.1 S.2.1 dX5_keeper_48 (by rw [c7_3]; decide) (by rw [c7_3]; decide) (by rw [c7_3]; decide) (by decide) ?_
      refine lv_iload_n S.1 S.2.1 dX5_keeper_139 rfl (lv_at hl 4 rfl) ?_
      refine lv_if_eq (tgt := 154) S.1 S.2.1 dX5_keeper_140 (by decide) (fun c18 => ?_) (fun c18 => ?_)
      · rw [if_pos c18] at h
        refine lv_iconst (v := (0 : Int32)) S.1 S.2.1 dX5_keeper_154 (by decide) ?_
        exact B_155 _ u h _ _ _ hP hS (lv_sub hl [] rfl)
      · rw [if_neg c18] at h
        refine lv_aload_n S.1 S.2.1 dX5_keeper_143 rfl (lv_at hl 1 rfl) ?_
        refine gC_0_ways S hK hP wf_X5_28 dX5_keeper_144 ?_
        refine lv_iload_n S.1 S.2.1 dX5_keeper_147 rfl (lv_at hl 2 rfl) ?_
        obtain ⟨r20, u21, q19, h⟩ := bd_some h
        refine x_vi (Wf := WC ad cI) (q0 := 3) (ci := 4) (As := [.int x1]) (rest := []) S hK hP hS (k_X4_stillToCome hap q19) rfl rfl wl_X5_132 wi_X4_stillToCome ws_X4_stillToCome wz_X4 wc_X4_stillToCome hy_X4_stillToCome ⟨Nat.le_of_ble_eq_true rfl, Nat.le_of_ble_eq_true rfl⟩ hl.1 rfl (Nat.le_of_ble_eq_true rfl) dX5_keeper_148 (fun H locs hP hS => ?_)
        refine lv_goto (tgt := 155) S.1 S.2.1 dX5_keeper_151 (by decide) ?_
        exact B_155 _ u21 h _ _ _ hP hS (lv_sub hl [] rfl)
    rw [if_neg c7_3] at h
    by_cases c7_4 : x2 = (4 : Int32)
    · rw [if_pos c7_4] at h
      refine lv_tableIn (tgt := 156) (off := 108) S.1 S.2.1 dX5_keeper_48 (by rw [c7_4]; decide) (by rw [c7_4]; decide) (by rw [c7_4]; decide) (by decide) ?_
      refine lv_iload_n S.1 S.2.1 dX5_keeper_156 rfl (lv_at hl 4 rfl) ?_
      refine lv_if_eq (tgt := 173) S.1 S.2.1 dX5_keeper_157 (by decide) (fun c22 => ?_) (fun c22 => ?_)
      · rw [if_pos c22] at h
        refine lv_iconst (v := (0 : Int32)) S.1 S.2.1 dX5_keeper_173 (by decide) ?_
        exact B_174 _ u h _ _ _ hP hS (lv_sub hl [] rfl)
      · rw [if_neg c22] at h
        refine lv_aload_n S.1 S.2.1 dX5_keeper_160 rfl (lv_at hl 1 rfl) ?_
        refine gC_0_stand S hK hP wf_X5_10 dX5_keeper_161 ?_
        refine lv_iload_n S.1 S.2.1 dX5_keeper_164 rfl (lv_at hl 2 rfl) ?_
        refine lv_bipush (v := (24 : Int32)) S.1 S.2.1 dX5_keeper_165 (by decide) ?_
        obtain ⟨r24, u25, q23, h⟩ := bd_some h
        refine x_vi (Wf := WC ad cI) (q0 := 1) (ci := 3) (As := [.int x1, .int (24 : Int32)]) (rest := []) S hK hP hS (k_X3_of hap q23) rfl rfl wl_X5_74 wi_X3_of ws_X3_of wz_X3 wc_X3_of hy_X3_of ⟨Nat.le_of_ble_eq_true rfl, Nat.le_of_ble_eq_true rfl⟩ hl.1 rfl (Nat.le_of_ble_eq_true rfl) dX5_keeper_167 (fun H locs hP hS => ?_)
        refine lv_goto (tgt := 174) S.1 S.2.1 dX5_keeper_170 (by decide) ?_
        exact B_174 _ u25 h _ _ _ hP hS (lv_sub hl [] rfl)
    rw [if_neg c7_4] at h
    by_cases c7_5 : x2 = (5 : Int32)
    · rw [if_pos c7_5] at h
      refine lv_tableIn (tgt := 175) (off := 127) S.1 S.2.1 dX5_keeper_48 (by rw [c7_5]; decide) (by rw [c7_5]; decide) (by rw [c7_5]; decide) (by decide) ?_
      refine lv_aload_n S.1 S.2.1 dX5_keeper_175 rfl (lv_at hl 1 rfl) ?_
      refine gC_0_stand S hK hP wf_X5_10 dX5_keeper_176 ?_
      refine lv_iload_n S.1 S.2.1 dX5_keeper_179 rfl (lv_at hl 2 rfl) ?_
      obtain ⟨r27, u28, q26, h⟩ := bd_some h
      refine x_vi (Wf := WC ad cI) (q0 := 1) (ci := 3) (As := [.int x1]) (rest := []) S hK hP hS (k_X3_hasToken hap q26) rfl rfl wl_X5_135 wi_X3_hasToken ws_X3_hasToken wz_X3 wc_X3_hasToken hy_X3_hasToken ⟨Nat.le_of_ble_eq_true rfl, Nat.le_of_ble_eq_true rfl⟩ hl.1 rfl (Nat.le_of_ble_eq_true rfl) dX5_keeper_180 (fun H locs hP hS => ?_)
      refine lv_if_eq (tgt := 190) S.1 S.2.1 dX5_keeper_183 (by decide) (fun c29 => ?_) (fun c29 => ?_)
      · rw [if_pos c29] at h
        refine lv_iconst (v := (0 : Int32)) S.1 S.2.1 dX5_keeper_190 (by decide) ?_
        exact B_191 _ u28 h _ _ _ hP hS (lv_sub hl [] rfl)
      · rw [if_neg c29] at h
        refine lv_iconst (v := (1 : Int32)) S.1 S.2.1 dX5_keeper_186 (by decide) ?_
        refine lv_goto (tgt := 191) S.1 S.2.1 dX5_keeper_187 (by decide) ?_
        exact B_191 _ u28 h _ _ _ hP hS (lv_sub hl [] rfl)
    rw [if_neg c7_5] at h
    by_cases c7_6 : x2 = (6 : Int32)
    · rw [if_pos c7_6] at h
      refine lv_tableIn (tgt := 192) (off := 144) S.1 S.2.1 dX5_keeper_48 (by rw [c7_6]; decide) (by rw [c7_6]; decide) (by rw [c7_6]; decide) (by decide) ?_
      refine lv_iload S.1 S.2.1 dX5_keeper_192 (lv_at hl 0 rfl) ?_
      refine lv_if_eq (tgt := 210) S.1 S.2.1 dX5_keeper_194 (by decide) (fun c30 => ?_) (fun c30 => ?_)
      · rw [if_pos c30] at h
        refine lv_bipush (v := (-4 : Int32)) S.1 S.2.1 dX5_keeper_210 (by decide) ?_
        exact B_212 _ u h _ _ _ hP hS (lv_sub hl [] rfl)
      · rw [if_neg c30] at h
        refine lv_aload_n S.1 S.2.1 dX5_keeper_197 rfl (lv_at hl 1 rfl) ?_
        refine gC_0_stand S hK hP wf_X5_10 dX5_keeper_198 ?_
        refine lv_iload_n S.1 S.2.1 dX5_keeper_201 rfl (lv_at hl 2 rfl) ?_
        refine lv_bipush (v := (86 : Int32)) S.1 S.2.1 dX5_keeper_202 (by decide) ?_
        obtain ⟨r32, u33, q31, h⟩ := bd_some h
        refine x_vi (Wf := WC ad cI) (q0 := 1) (ci := 3) (As := [.int x1, .int (86 : Int32)]) (rest := []) S hK hP hS (k_X3_of hap q31) rfl rfl wl_X5_74 wi_X3_of ws_X3_of wz_X3 wc_X3_of hy_X3_of ⟨Nat.le_of_ble_eq_true rfl, Nat.le_of_ble_eq_true rfl⟩ hl.1 rfl (Nat.le_of_ble_eq_true rfl) dX5_keeper_204 (fun H locs hP hS => ?_)
        refine lv_goto (tgt := 212) S.1 S.2.1 dX5_keeper_207 (by decide) ?_
        exact B_212 _ u33 h _ _ _ hP hS (lv_sub hl [] rfl)
    rw [if_neg c7_6] at h
    by_cases c7_7 : x2 = (7 : Int32)
    · rw [if_pos c7_7] at h
      refine lv_tableIn (tgt := 213) (off := 165) S.1 S.2.1 dX5_keeper_48 (by rw [c7_7]; decide) (by rw [c7_7]; decide) (by rw [c7_7]; decide) (by decide) ?_
      refine lv_iload S.1 S.2.1 dX5_keeper_213 (lv_at hl 0 rfl) ?_
      refine lv_if_eq (tgt := 231) S.1 S.2.1 dX5_keeper_215 (by decide) (fun c34 => ?_) (fun c34 => ?_)
      · rw [if_pos c34] at h
        refine lv_iconst (v := (0 : Int32)) S.1 S.2.1 dX5_keeper_231 (by decide) ?_
        exact B_232 _ u h _ _ _ hP hS (lv_sub hl [] rfl)
      · rw [if_neg c34] at h
        refine lv_aload_n S.1 S.2.1 dX5_keeper_218 rfl (lv_at hl 1 rfl) ?_
        refine gC_0_stand S hK hP wf_X5_10 dX5_keeper_219 ?_
        refine lv_iload_n S.1 S.2.1 dX5_keeper_222 rfl (lv_at hl 2 rfl) ?_
        refine lv_bipush (v := (92 : Int32)) S.1 S.2.1 dX5_keeper_223 (by decide) ?_
        obtain ⟨r36, u37, q35, h⟩ := bd_some h
        refine x_vi (Wf := WC ad cI) (q0 := 1) (ci := 3) (As := [.int x1, .int (92 : Int32)]) (rest := []) S hK hP hS (k_X3_of hap q35) rfl rfl wl_X5_74 wi_X3_of ws_X3_of wz_X3 wc_X3_of hy_X3_of ⟨Nat.le_of_ble_eq_true rfl, Nat.le_of_ble_eq_true rfl⟩ hl.1 rfl (Nat.le_of_ble_eq_true rfl) dX5_keeper_225 (fun H locs hP hS => ?_)
        refine lv_goto (tgt := 232) S.1 S.2.1 dX5_keeper_228 (by decide) ?_
        exact B_232 _ u37 h _ _ _ hP hS (lv_sub hl [] rfl)
    rw [if_neg c7_7] at h
    by_cases c7_8 : x2 = (8 : Int32)
    · rw [if_pos c7_8] at h
      refine lv_tableIn (tgt := 233) (off := 185) S.1 S.2.1 dX5_keeper_48 (by rw [c7_8]; decide) (by rw [c7_8]; decide) (by rw [c7_8]; decide) (by decide) ?_
      refine lv_iload S.1 S.2.1 dX5_keeper_233 (lv_at hl 0 rfl) ?_
      refine lv_if_eq (tgt := 252) S.1 S.2.1 dX5_keeper_235 (by decide) (fun c38 => ?_) (fun c38 => ?_)
      · rw [if_pos c38] at h
        refine lv_iconst (v := (0 : Int32)) S.1 S.2.1 dX5_keeper_252 (by decide) ?_
        exact B_253 _ u h _ _ _ hP hS (lv_sub hl [] rfl)
      · rw [if_neg c38] at h
        refine lv_aload_n S.1 S.2.1 dX5_keeper_238 rfl (lv_at hl 1 rfl) ?_
        refine gC_0_stand S hK hP wf_X5_10 dX5_keeper_239 ?_
        refine lv_iload_n S.1 S.2.1 dX5_keeper_242 rfl (lv_at hl 2 rfl) ?_
        obtain ⟨r40, u41, q39, h⟩ := bd_some h
        refine x_si (Wf := WC ad cI) (As := [.int x1]) (rest := [.ref (ad 1)]) S hK hP hS (k_X3_queueOf hap q39) wl_X5_138 wt_X3_queueOf wz_X3 wc_X3_queueOf hy_X3_queueOf ⟨Nat.le_of_ble_eq_true rfl, Nat.le_of_ble_eq_true rfl⟩ hl.1 rfl (Nat.le_of_ble_eq_true rfl) dX5_keeper_243 (fun H locs hP hS => ?_)
        obtain ⟨r43, u44, q42, h⟩ := bd_some h
        refine x_vi (Wf := WC ad cI) (q0 := 1) (ci := 3) (As := [.int r40]) (rest := []) S hK hP hS (k_X3_get hap q42) rfl rfl wl_X5_141 wi_X3_get ws_X3_get wz_X3 wc_X3_get hy_X3_get ⟨Nat.le_of_ble_eq_true rfl, Nat.le_of_ble_eq_true rfl⟩ hl.1 rfl (Nat.le_of_ble_eq_true rfl) dX5_keeper_246 (fun H locs hP hS => ?_)
        refine lv_goto (tgt := 253) S.1 S.2.1 dX5_keeper_249 (by decide) ?_
        exact B_253 _ u44 h _ _ _ hP hS (lv_sub hl [] rfl)
    rw [if_neg c7_8] at h
    by_cases c7_9 : x2 = (9 : Int32)
    · rw [if_pos c7_9] at h
      refine lv_tableIn (tgt := 254) (off := 206) S.1 S.2.1 dX5_keeper_48 (by rw [c7_9]; decide) (by rw [c7_9]; decide) (by rw [c7_9]; decide) (by decide) ?_
      refine lv_iload S.1 S.2.1 dX5_keeper_254 (lv_at hl 0 rfl) ?_
      refine lv_if_eq (tgt := 276) S.1 S.2.1 dX5_keeper_256 (by decide) (fun c45 => ?_) (fun c45 => ?_)
      · rw [if_pos c45] at h
        exact B_276 u h _ _ _ hP hS (lv_sub hl [] rfl)
      · rw [if_neg c45] at h
        refine lv_iload_n S.1 S.2.1 dX5_keeper_259 rfl (lv_at hl 2 rfl) ?_
        refine lv_if_le (tgt := 276) S.1 S.2.1 dX5_keeper_260 (by decide) (fun c46 => ?_) (fun c46 => ?_)
        · rw [if_pos c46] at h
          exact B_276 u h _ _ _ hP hS (lv_sub hl [] rfl)
        · rw [if_neg c46] at h
          refine lv_aload_n S.1 S.2.1 dX5_keeper_263 rfl (lv_at hl 1 rfl) ?_
          refine gC_0_stand S hK hP wf_X5_10 dX5_keeper_264 ?_
          refine lv_iload_n S.1 S.2.1 dX5_keeper_267 rfl (lv_at hl 2 rfl) ?_
          refine lv_bipush (v := (80 : Int32)) S.1 S.2.1 dX5_keeper_268 (by decide) ?_
          obtain ⟨r48, u49, q47, h⟩ := bd_some h
          refine x_vi (Wf := WC ad cI) (q0 := 1) (ci := 3) (As := [.int x1, .int (80 : Int32)]) (rest := []) S hK hP hS (k_X3_of hap q47) rfl rfl wl_X5_74 wi_X3_of ws_X3_of wz_X3 wc_X3_of hy_X3_of ⟨Nat.le_of_ble_eq_true rfl, Nat.le_of_ble_eq_true rfl⟩ hl.1 rfl (Nat.le_of_ble_eq_true rfl) dX5_keeper_270 (fun H locs hP hS => ?_)
          refine lv_goto (tgt := 278) S.1 S.2.1 dX5_keeper_273 (by decide) ?_
          exact B_278 _ u49 h _ _ _ hP hS (lv_sub hl [] rfl)
    rw [if_neg c7_9] at h
    have ec7_0 : (x2).toInt ≠ 0 := fun q => c7_0 (Int32.toInt_inj.mp (q.trans (by decide)))
    have ec7_1 : (x2).toInt ≠ 1 := fun q => c7_1 (Int32.toInt_inj.mp (q.trans (by decide)))
    have ec7_2 : (x2).toInt ≠ 2 := fun q => c7_2 (Int32.toInt_inj.mp (q.trans (by decide)))
    have ec7_3 : (x2).toInt ≠ 3 := fun q => c7_3 (Int32.toInt_inj.mp (q.trans (by decide)))
    have ec7_4 : (x2).toInt ≠ 4 := fun q => c7_4 (Int32.toInt_inj.mp (q.trans (by decide)))
    have ec7_5 : (x2).toInt ≠ 5 := fun q => c7_5 (Int32.toInt_inj.mp (q.trans (by decide)))
    have ec7_6 : (x2).toInt ≠ 6 := fun q => c7_6 (Int32.toInt_inj.mp (q.trans (by decide)))
    have ec7_7 : (x2).toInt ≠ 7 := fun q => c7_7 (Int32.toInt_inj.mp (q.trans (by decide)))
    have ec7_8 : (x2).toInt ≠ 8 := fun q => c7_8 (Int32.toInt_inj.mp (q.trans (by decide)))
    have ec7_9 : (x2).toInt ≠ 9 := fun q => c7_9 (Int32.toInt_inj.mp (q.trans (by decide)))
    refine lv_tableOut (tgt := 279) S.1 S.2.1 dX5_keeper_48 (by omega) (by decide) ?_
    refine lv_iconst (v := (-1 : Int32)) S.1 S.2.1 dX5_keeper_279 (by decide) ?_
    exact x_iret S hr hlk hK hP hS h dX5_keeper_280
  have B_28 : ∀ (x1 : Int32) (x2 : Int32) (s0 : Int32) (u : Wo), fX5_keeper_28 x1 x2 s0 u = some (rf, uf) → J p l e (rmk 3 65) s m args below meth c dC dI (WC ad cI) (AF ad 14) (MQ below (QI dC dI cI (WC ad cI) (AF ad 14) rf uf) args s 0 0 (AF ad 14)) u 28 5 [(0, .ref (ad 0)), (1, .int x1), (2, .int x2)] [.int s0] := by
    intro x1 x2 s0 u h H locs ls hP hS hl
    unfold fX5_keeper_28 at h
    refine lv_istore_n (lv' := [(3, .int s0), (0, .ref (ad 0)), (1, .int x1), (2, .int x2)]) S.1 S.2.1 dX5_keeper_28 rfl hl (by decide) rfl (fun ls hl => ?_)
    refine lv_aload_n S.1 S.2.1 dX5_keeper_29 rfl (lv_at hl 1 rfl) ?_
    refine gC_0_stand S hK hP wf_X5_10 dX5_keeper_30 ?_
    refine gC_1_way S hK hP wf_X5_71 dX5_keeper_33 ?_
    refine lv_iconst (v := (2 : Int32)) S.1 S.2.1 dX5_keeper_36 (by decide) ?_
    refine lv_icmp_ne (tgt := 44) S.1 S.2.1 dX5_keeper_37 (by decide) (fun c6 => ?_) (fun c6 => ?_)
    · rw [if_neg c6] at h
      refine lv_iconst (v := (0 : Int32)) S.1 S.2.1 dX5_keeper_44 (by decide) ?_
      exact B_45 _ _ _ _ u h _ _ _ hP hS (lv_sub hl [1, 2, 3, 0] rfl)
    · rw [if_pos c6] at h
      refine lv_iconst (v := (1 : Int32)) S.1 S.2.1 dX5_keeper_40 (by decide) ?_
      refine lv_goto (tgt := 45) S.1 S.2.1 dX5_keeper_41 (by decide) ?_
      exact B_45 _ _ _ _ u h _ _ _ hP hS (lv_sub hl [1, 2, 3, 0] rfl)
  intro H locs ls hP hS hl
  have hl : lv_has ls 5 [(0, .ref (ad 0)), (1, .int x1), (2, .int x2)] := hl
  unfold fX5_keeper at h
  refine lv_aload_n S.1 S.2.1 dX5_keeper_0 rfl (lv_at hl 0 rfl) ?_
  refine gC_0_stand S hK hP wf_X5_10 dX5_keeper_1 ?_
  refine lv_iload_n S.1 S.2.1 dX5_keeper_4 rfl (lv_at hl 1 rfl) ?_
  obtain ⟨r2, u3, q1, h⟩ := bd_some h
  refine x_vi (Wf := WC ad cI) (q0 := 1) (ci := 3) (As := [.int x1]) (rest := []) S hK hP hS (k_X3_isKeeper hap q1) rfl rfl wl_X5_82 wi_X3_isKeeper ws_X3_isKeeper wz_X3 wc_X3_isKeeper hy_X3_isKeeper ⟨Nat.le_of_ble_eq_true rfl, Nat.le_of_ble_eq_true rfl⟩ hl.1 rfl (Nat.le_of_ble_eq_true rfl) dX5_keeper_5 (fun H locs hP hS => ?_)
  refine lv_if_ne (tgt := 13) S.1 S.2.1 dX5_keeper_8 (by decide) (fun c4 => ?_) (fun c4 => ?_)
  · rw [if_neg c4] at h
    refine lv_aload_n S.1 S.2.1 dX5_keeper_13 rfl (lv_at hl 0 rfl) ?_
    refine gC_0_stand S hK hP wf_X5_10 dX5_keeper_14 ?_
    refine gC_1_way S hK hP wf_X5_71 dX5_keeper_17 ?_
    refine lv_if_ne (tgt := 27) S.1 S.2.1 dX5_keeper_20 (by decide) (fun c5 => ?_) (fun c5 => ?_)
    · rw [if_neg c5] at h
      refine lv_iconst (v := (0 : Int32)) S.1 S.2.1 dX5_keeper_27 (by decide) ?_
      exact B_28 _ _ _ u3 h _ _ _ hP hS (lv_sub hl [0, 1, 2] rfl)
    · rw [if_pos c5] at h
      refine lv_iconst (v := (1 : Int32)) S.1 S.2.1 dX5_keeper_23 (by decide) ?_
      refine lv_goto (tgt := 28) S.1 S.2.1 dX5_keeper_24 (by decide) ?_
      exact B_28 _ _ _ u3 h _ _ _ hP hS (lv_sub hl [0, 1, 2] rfl)
  · rw [if_pos c4] at h
    refine lv_iconst (v := (-1 : Int32)) S.1 S.2.1 dX5_keeper_11 (by decide) ?_
    exact x_iret S hr hlk hK hP hS h dX5_keeper_12
theorem hy_X5_knows : yX5_knows.cls ≠ "java/lang/invoke/MethodHandle" ∧ yX5_knows.cls ≠ "java/lang/invoke/VarHandle" ∧ (parseMethodDescriptor yX5_knows.desc).map (fun d => d.parameters.length) = some 2 := by decide +kernel
set_option maxHeartbeats 4000000 in
set_option maxRecDepth 100000 in
theorem k_X5_knows {l : Launch} {dC : Nat → ClassId} {dI : Nat → Nat → Nat} {ad : Nat → Nat} {cI : ClassId} (hap : AP ad 14) {x1 x2 : Int32} {u uf : Wo} {rf : Int32} (h : fX5_knows x1 x2 u = some (rf, uf)) : CI l dC dI cI (WC ad cI) (AF ad 14) yX5_knows cX5_knows 4 (some .int) 2 43 [.ref (ad 0), .int x1, .int x2] u rf uf := by
  refine ci_begin (by decide) (Nat.le_of_ble_eq_true rfl) ?_
  intro p e s m args below meth c S hr hlk hK
  have B_21 : ∀ (u : Wo), fX5_knows_21 u = some (rf, uf) → J p l e (rmk 2 43) s m args below meth c dC dI (WC ad cI) (AF ad 14) (MQ below (QI dC dI cI (WC ad cI) (AF ad 14) rf uf) args s 0 0 (AF ad 14)) u 21 4 [] [] := by
    intro u h H locs ls hP hS hl
    unfold fX5_knows_21 at h
    refine lv_bipush (v := (-4 : Int32)) S.1 S.2.1 dX5_knows_21 (by decide) ?_
    exact x_iret S hr hlk hK hP hS h dX5_knows_23
  have B_99 : ∀ (s0 : Int32) (u : Wo), fX5_knows_99 s0 u = some (rf, uf) → J p l e (rmk 2 43) s m args below meth c dC dI (WC ad cI) (AF ad 14) (MQ below (QI dC dI cI (WC ad cI) (AF ad 14) rf uf) args s 0 0 (AF ad 14)) u 99 4 [] [.int s0] := by
    intro s0 u h H locs ls hP hS hl
    unfold fX5_knows_99 at h
    exact x_iret S hr hlk hK hP hS h dX5_knows_99
  have B_97 : ∀ (u : Wo), fX5_knows_97 u = some (rf, uf) → J p l e (rmk 2 43) s m args below meth c dC dI (WC ad cI) (AF ad 14) (MQ below (QI dC dI cI (WC ad cI) (AF ad 14) rf uf) args s 0 0 (AF ad 14)) u 97 4 [] [] := by
    intro u h H locs ls hP hS hl
    unfold fX5_knows_97 at h
    refine lv_bipush (v := (-4 : Int32)) S.1 S.2.1 dX5_knows_97 (by decide) ?_
    exact B_99 _ u h _ _ _ hP hS (lv_sub hl [] rfl)
  have B_60 : ∀ (s0 : Int32) (u : Wo), fX5_knows_60 s0 u = some (rf, uf) → J p l e (rmk 2 43) s m args below meth c dC dI (WC ad cI) (AF ad 14) (MQ below (QI dC dI cI (WC ad cI) (AF ad 14) rf uf) args s 0 0 (AF ad 14)) u 60 4 [] [.int s0] := by
    intro s0 u h H locs ls hP hS hl
    unfold fX5_knows_60 at h
    exact x_iret S hr hlk hK hP hS h dX5_knows_60
  intro H locs ls hP hS hl
  have hl : lv_has ls 4 [(0, .ref (ad 0)), (1, .int x1), (2, .int x2)] := hl
  unfold fX5_knows at h
  refine lv_aload_n S.1 S.2.1 dX5_knows_0 rfl (lv_at hl 0 rfl) ?_
  refine gC_0_stand S hK hP wf_X5_10 dX5_knows_1 ?_
  refine gC_1_way S hK hP wf_X5_71 dX5_knows_4 ?_
  refine lv_if_eq (tgt := 21) S.1 S.2.1 dX5_knows_7 (by decide) (fun c1 => ?_) (fun c1 => ?_)
  · rw [if_pos c1] at h
    exact B_21 u h _ _ _ hP hS (lv_sub hl [] rfl)
  · rw [if_neg c1] at h
    refine lv_aload_n S.1 S.2.1 dX5_knows_10 rfl (lv_at hl 0 rfl) ?_
    refine gC_0_stand S hK hP wf_X5_10 dX5_knows_11 ?_
    refine lv_iload_n S.1 S.2.1 dX5_knows_14 rfl (lv_at hl 1 rfl) ?_
    obtain ⟨r3, u4, q2, h⟩ := bd_some h
    refine x_vi (Wf := WC ad cI) (q0 := 1) (ci := 3) (As := [.int x1]) (rest := []) S hK hP hS (k_X3_isKeeper hap q2) rfl rfl wl_X5_82 wi_X3_isKeeper ws_X3_isKeeper wz_X3 wc_X3_isKeeper hy_X3_isKeeper ⟨Nat.le_of_ble_eq_true rfl, Nat.le_of_ble_eq_true rfl⟩ hl.1 rfl (Nat.le_of_ble_eq_true rfl) dX5_knows_15 (fun H locs hP hS => ?_)
    refine lv_if_ne (tgt := 24) S.1 S.2.1 dX5_knows_18 (by decide) (fun c5 => ?_) (fun c5 => ?_)
    · rw [if_neg c5] at h
      refine lv_aload_n S.1 S.2.1 dX5_knows_24 rfl (lv_at hl 0 rfl) ?_
      refine gC_0_stand S hK hP wf_X5_10 dX5_knows_25 ?_
      refine gC_1_way S hK hP wf_X5_71 dX5_knows_28 ?_
      refine lv_iconst (v := (1 : Int32)) S.1 S.2.1 dX5_knows_31 (by decide) ?_
      refine lv_icmp_ne (tgt := 61) S.1 S.2.1 dX5_knows_32 (by decide) (fun c6 => ?_) (fun c6 => ?_)
      · rw [if_neg c6] at h
        refine lv_iload_n S.1 S.2.1 dX5_knows_61 rfl (lv_at hl 1 rfl) ?_
        obtain ⟨r8, u9, q7, h⟩ := bd_some h
        refine x_si (Wf := WC ad cI) (As := [.int x1]) (rest := []) S hK hP hS (k_X3_queueOf hap q7) wl_X5_138 wt_X3_queueOf wz_X3 wc_X3_queueOf hy_X3_queueOf ⟨Nat.le_of_ble_eq_true rfl, Nat.le_of_ble_eq_true rfl⟩ hl.1 rfl (Nat.le_of_ble_eq_true rfl) dX5_knows_62 (fun H locs hP hS => ?_)
        refine lv_istore_n (lv' := [(3, .int r8), (0, .ref (ad 0)), (1, .int x1), (2, .int x2)]) S.1 S.2.1 dX5_knows_65 rfl hl (by decide) rfl (fun ls hl => ?_)
        refine lv_iload_n S.1 S.2.1 dX5_knows_66 rfl (lv_at hl 3 rfl) ?_
        refine lv_if_lt (tgt := 97) S.1 S.2.1 dX5_knows_67 (by decide) (fun c10 => ?_) (fun c10 => ?_)
        · rw [if_pos c10] at h
          exact B_97 u9 h _ _ _ hP hS (lv_sub hl [] rfl)
        · rw [if_neg c10] at h
          refine lv_iload_n S.1 S.2.1 dX5_knows_70 rfl (lv_at hl 3 rfl) ?_
          refine lv_aload_n S.1 S.2.1 dX5_knows_71 rfl (lv_at hl 1 rfl) ?_
          refine gC_0_stand S hK hP wf_X5_10 dX5_knows_72 ?_
          refine lv_iload_n S.1 S.2.1 dX5_knows_75 rfl (lv_at hl 0 rfl) ?_
          obtain ⟨r12, u13, q11, h⟩ := bd_some h
          refine x_vi (Wf := WC ad cI) (q0 := 1) (ci := 3) (As := [.int r8]) (rest := [.int x2]) S hK hP hS (k_X3_get hap q11) rfl rfl wl_X5_141 wi_X3_get ws_X3_get wz_X3 wc_X3_get hy_X3_get ⟨Nat.le_of_ble_eq_true rfl, Nat.le_of_ble_eq_true rfl⟩ hl.1 rfl (Nat.le_of_ble_eq_true rfl) dX5_knows_76 (fun H locs hP hS => ?_)
          refine lv_icmp_ge (tgt := 97) S.1 S.2.1 dX5_knows_79 (by decide) (fun c14 => ?_) (fun c14 => ?_)
          · rw [if_pos c14] at h
            exact B_97 u13 h _ _ _ hP hS (lv_sub hl [] rfl)
          · rw [if_neg c14] at h
            refine lv_aload_n S.1 S.2.1 dX5_knows_82 rfl (lv_at hl 1 rfl) ?_
            refine gC_0_stand S hK hP wf_X5_10 dX5_knows_83 ?_
            refine lv_iload_n S.1 S.2.1 dX5_knows_86 rfl (lv_at hl 0 rfl) ?_
            refine lv_iconst (v := (1 : Int32)) S.1 S.2.1 dX5_knows_87 (by decide) ?_
            refine lv_iadd S.1 S.2.1 dX5_knows_88 ?_
            refine lv_iload_n S.1 S.2.1 dX5_knows_89 rfl (lv_at hl 3 rfl) ?_
            refine lv_iadd S.1 S.2.1 dX5_knows_90 ?_
            obtain ⟨r16, u17, q15, h⟩ := bd_some h
            refine x_vi (Wf := WC ad cI) (q0 := 1) (ci := 3) (As := [.int ((r8 + (1 : Int32)) + x2)]) (rest := []) S hK hP hS (k_X3_get hap q15) rfl rfl wl_X5_141 wi_X3_get ws_X3_get wz_X3 wc_X3_get hy_X3_get ⟨Nat.le_of_ble_eq_true rfl, Nat.le_of_ble_eq_true rfl⟩ hl.1 rfl (Nat.le_of_ble_eq_true rfl) dX5_knows_91 (fun H locs hP hS => ?_)
            refine lv_goto (tgt := 99) S.1 S.2.1 dX5_knows_94 (by decide) ?_
            exact B_99 _ u17 h _ _ _ hP hS (lv_sub hl [] rfl)
      · rw [if_pos c6] at h
        refine lv_aload_n S.1 S.2.1 dX5_knows_35 rfl (lv_at hl 0 rfl) ?_
        refine gC_0_stand S hK hP wf_X5_10 dX5_knows_36 ?_
        refine lv_iload_n S.1 S.2.1 dX5_knows_39 rfl (lv_at hl 2 rfl) ?_
        obtain ⟨r19, u20, q18, h⟩ := bd_some h
        refine x_vi (Wf := WC ad cI) (q0 := 1) (ci := 3) (As := [.int x2]) (rest := []) S hK hP hS (k_X3_isKeeper hap q18) rfl rfl wl_X5_82 wi_X3_isKeeper ws_X3_isKeeper wz_X3 wc_X3_isKeeper hy_X3_isKeeper ⟨Nat.le_of_ble_eq_true rfl, Nat.le_of_ble_eq_true rfl⟩ hl.1 rfl (Nat.le_of_ble_eq_true rfl) dX5_knows_40 (fun H locs hP hS => ?_)
        refine lv_if_eq (tgt := 58) S.1 S.2.1 dX5_knows_43 (by decide) (fun c21 => ?_) (fun c21 => ?_)
        · rw [if_pos c21] at h
          refine lv_bipush (v := (-4 : Int32)) S.1 S.2.1 dX5_knows_58 (by decide) ?_
          exact B_60 _ u20 h _ _ _ hP hS (lv_sub hl [] rfl)
        · rw [if_neg c21] at h
          refine lv_aload_n S.1 S.2.1 dX5_knows_46 rfl (lv_at hl 0 rfl) ?_
          refine gC_0_stand S hK hP wf_X5_10 dX5_knows_47 ?_
          refine lv_iload_n S.1 S.2.1 dX5_knows_50 rfl (lv_at hl 1 rfl) ?_
          refine lv_iload_n S.1 S.2.1 dX5_knows_51 rfl (lv_at hl 2 rfl) ?_
          obtain ⟨r23, u24, q22, h⟩ := bd_some h
          refine x_vi (Wf := WC ad cI) (q0 := 1) (ci := 3) (As := [.int x1, .int x2]) (rest := []) S hK hP hS (k_X3_known hap q22) rfl rfl wl_X5_144 wi_X3_known ws_X3_known wz_X3 wc_X3_known hy_X3_known ⟨Nat.le_of_ble_eq_true rfl, Nat.le_of_ble_eq_true rfl⟩ hl.1 rfl (Nat.le_of_ble_eq_true rfl) dX5_knows_52 (fun H locs hP hS => ?_)
          refine lv_goto (tgt := 60) S.1 S.2.1 dX5_knows_55 (by decide) ?_
          exact B_60 _ u24 h _ _ _ hP hS (lv_sub hl [] rfl)
    · rw [if_pos c5] at h
      exact B_21 u4 h _ _ _ hP hS (lv_sub hl [] rfl)
