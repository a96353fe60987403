theorem hy_J7_fill_53178 : yJ7_fill_53178.cls ≠ "java/lang/invoke/MethodHandle" ∧ yJ7_fill_53178.cls ≠ "java/lang/invoke/VarHandle" ∧ (parseMethodDescriptor yJ7_fill_53178.desc).map (fun d => d.parameters.length) = some 2 := by decide +kernel
set_option maxHeartbeats 4000000 in
set_option maxRecDepth 100000 in
theorem k_J7_fill_53178_6 {l : Launch} {dC : Nat → ClassId} {dI : Nat → Nat → Nat} {ad : Nat → Nat} {cI : ClassId} (hap : AP ad 14) {x1 : Int32} {u uf : Wo} {rf : Int32} (h : fJ7_fill_53178_6 x1 u = some (rf, uf)) : CV l dC dI cI (WC ad cI) (AF ad 14) yJ7_fill_53178 cJ7_fill_53178 4 none 0 0 [.ref (ad 6), .int x1] u uf := by
  refine cv_begin (by decide) (Nat.le_of_ble_eq_true rfl) ?_
  intro p e s m args below meth c S hr hlk hK
  have B_5 : ∀ (k20 : Wo → Re) (hk20 : ∀ (u : Wo), k20  u = some (rf, uf) → J p l e (rmk 0 0) s m args below meth c dC dI (WC ad cI) (AF ad 14) (MQ below (QV dC dI cI (WC ad cI) (AF ad 14) uf) args s 0 0 (AF ad 14)) u 20 4 [] []) (n : Nat) (x1 : Int32) (x2 : Int32) (x3 : Int32) (u : Wo), fJ7_fill_53178_6_5 k20 n x1 x2 x3 u = some (rf, uf) → J p l e (rmk 0 0) s m args below meth c dC dI (WC ad cI) (AF ad 14) (MQ below (QV dC dI cI (WC ad cI) (AF ad 14) uf) args s 0 0 (AF ad 14)) u 5 4 [(0, .ref (ad 6)), (1, .int x1), (2, .int x2), (3, .int x3)] [] := by
    intro k20 hk20
    intro n
    induction n with
    | zero => intro x1 x2 x3 u h; cases h
    | succ n ih =>
      intro x1 x2 x3 u h H locs ls hP hS hl
      rw [fJ7_fill_53178_6_5.eq_2] at h
      refine lv_iload_n S.1 S.2.1 dJ7_fill_53178_5 rfl (lv_at hl 2 rfl) ?_
      refine lv_iload_n S.1 S.2.1 dJ7_fill_53178_6 rfl (lv_at hl 3 rfl) ?_
      refine lv_icmp_ge (tgt := 20) S.1 S.2.1 dJ7_fill_53178_7 (by decide) (fun c1 => ?_) (fun c1 => ?_)
      · rw [if_pos c1] at h
        exact hk20 u h _ _ _ hP hS (lv_sub hl [] rfl)
      · rw [if_neg c1] at h
        refine lv_aload_n S.1 S.2.1 dJ7_fill_53178_10 rfl (lv_at hl 0 rfl) ?_
        refine lv_iload_n S.1 S.2.1 dJ7_fill_53178_11 rfl (lv_at hl 2 rfl) ?_
        refine lv_iload_n S.1 S.2.1 dJ7_fill_53178_12 rfl (lv_at hl 1 rfl) ?_
        obtain ⟨q2, h⟩ := gi_some h
        obtain ⟨u3, hu3, h⟩ := bw_some h
        refine tC_6 S hK hap hP hS q2 dJ7_fill_53178_13 hu3 (fun H locs hP hS => ?_)
        refine lv_iinc (v := (x2 + (1 : Int32))) (lv' := [(2, .int (x2 + (1 : Int32))), (0, .ref (ad 6)), (1, .int x1), (3, .int x3)]) S.1 S.2.1 dJ7_fill_53178_14 hl (k := 2) rfl rfl (by decide) rfl (fun ls hl => ?_)
        refine lv_goto (tgt := 5) S.1 S.2.1 dJ7_fill_53178_17 (by decide) ?_
        exact ih _ _ _ u3 h _ _ _ hP hS (lv_sub hl [1, 2, 0, 3] rfl)
  have B_20 : ∀ (u : Wo), fJ7_fill_53178_6_20 u = some (rf, uf) → J p l e (rmk 0 0) s m args below meth c dC dI (WC ad cI) (AF ad 14) (MQ below (QV dC dI cI (WC ad cI) (AF ad 14) uf) args s 0 0 (AF ad 14)) u 20 4 [] [] := by
    intro u h H locs ls hP hS hl
    unfold fJ7_fill_53178_6_20 at h
    exact x_vret S hr hlk hK hP hS h dJ7_fill_53178_20
  intro H locs ls hP hS hl
  have hl : lv_has ls 4 [(0, .ref (ad 6)), (1, .int x1)] := hl
  unfold fJ7_fill_53178_6 at h
  refine lv_iconst (v := (0 : Int32)) S.1 S.2.1 dJ7_fill_53178_0 (by decide) ?_
  refine lv_istore_n (lv' := [(2, .int (0 : Int32)), (0, .ref (ad 6)), (1, .int x1)]) S.1 S.2.1 dJ7_fill_53178_1 rfl hl (by decide) rfl (fun ls hl => ?_)
  refine lv_aload_n S.1 S.2.1 dJ7_fill_53178_2 rfl (lv_at hl 1 rfl) ?_
  refine nC_6 S hK hP dJ7_fill_53178_3 ?_
  refine lv_istore_n (lv' := [(3, .int (618 : Int32)), (2, .int (0 : Int32)), (0, .ref (ad 6)), (1, .int x1)]) S.1 S.2.1 dJ7_fill_53178_4 rfl hl (by decide) rfl (fun ls hl => ?_)
  exact B_5 _ B_20 FU _ _ _ u h _ _ _ hP hS (lv_sub hl [2, 3, 1, 0] rfl)
theorem hy_X3_put : yX3_put.cls ≠ "java/lang/invoke/MethodHandle" ∧ yX3_put.cls ≠ "java/lang/invoke/VarHandle" ∧ (parseMethodDescriptor yX3_put.desc).map (fun d => d.parameters.length) = some 2 := by decide +kernel
set_option maxHeartbeats 4000000 in
set_option maxRecDepth 100000 in
theorem k_X3_put {l : Launch} {dC : Nat → ClassId} {dI : Nat → Nat → Nat} {ad : Nat → Nat} {cI : ClassId} (hap : AP ad 14) {x1 x2 : Int32} {u uf : Wo} {rf : Int32} (h : fX3_put x1 x2 u = some (rf, uf)) : CV l dC dI cI (WC ad cI) (AF ad 14) yX3_put cX3_put 3 none 0 0 [.ref (ad 1), .int x1, .int x2] u uf := by
  refine cv_begin (by decide) (Nat.le_of_ble_eq_true rfl) ?_
  intro p e s m args below meth c S hr hlk hK
  have B_20 : ∀ (u : Wo), fX3_put_20 u = some (rf, uf) → J p l e (rmk 0 0) s m args below meth c dC dI (WC ad cI) (AF ad 14) (MQ below (QV dC dI cI (WC ad cI) (AF ad 14) uf) args s 0 0 (AF ad 14)) u 20 3 [] [] := by
    intro u h H locs ls hP hS hl
    unfold fX3_put_20 at h
    exact x_vret S hr hlk hK hP hS h dX3_put_20
  intro H locs ls hP hS hl
  have hl : lv_has ls 3 [(0, .ref (ad 1)), (1, .int x1), (2, .int x2)] := hl
  unfold fX3_put at h
  refine lv_iload_n S.1 S.2.1 dX3_put_0 rfl (lv_at hl 1 rfl) ?_
  refine lv_if_lt (tgt := 20) S.1 S.2.1 dX3_put_1 (by decide) (fun c1 => ?_) (fun c1 => ?_)
  · rw [if_pos c1] at h
    exact B_20 u h _ _ _ hP hS (lv_sub hl [] rfl)
  · rw [if_neg c1] at h
    refine lv_iload_n S.1 S.2.1 dX3_put_4 rfl (lv_at hl 1 rfl) ?_
    refine lv_aload_n S.1 S.2.1 dX3_put_5 rfl (lv_at hl 0 rfl) ?_
    refine gC_1_row S hK hP wf_X3_11 dX3_put_6 ?_
    refine nC_6 S hK hP dX3_put_9 ?_
    refine lv_icmp_ge (tgt := 20) S.1 S.2.1 dX3_put_10 (by decide) (fun c2 => ?_) (fun c2 => ?_)
    · rw [if_pos c2] at h
      exact B_20 u h _ _ _ hP hS (lv_sub hl [] rfl)
    · rw [if_neg c2] at h
      refine lv_aload_n S.1 S.2.1 dX3_put_13 rfl (lv_at hl 0 rfl) ?_
      refine gC_1_row S hK hP wf_X3_11 dX3_put_14 ?_
      refine lv_iload_n S.1 S.2.1 dX3_put_17 rfl (lv_at hl 1 rfl) ?_
      refine lv_iload_n S.1 S.2.1 dX3_put_18 rfl (lv_at hl 2 rfl) ?_
      obtain ⟨q3, h⟩ := gi_some h
      obtain ⟨u4, hu4, h⟩ := bw_some h
      refine tC_6 S hK hap hP hS q3 dX3_put_19 hu4 (fun H locs hP hS => ?_)
      exact B_20 u4 h _ _ _ hP hS (lv_sub hl [] rfl)
theorem hy_X3_set : yX3_set.cls ≠ "java/lang/invoke/MethodHandle" ∧ yX3_set.cls ≠ "java/lang/invoke/VarHandle" ∧ (parseMethodDescriptor yX3_set.desc).map (fun d => d.parameters.length) = some 3 := by decide +kernel
set_option maxHeartbeats 4000000 in
set_option maxRecDepth 100000 in
theorem k_X3_set {l : Launch} {dC : Nat → ClassId} {dI : Nat → Nat → Nat} {ad : Nat → Nat} {cI : ClassId} (hap : AP ad 14) {x1 x2 x3 : Int32} {u uf : Wo} {rf : Int32} (h : fX3_set x1 x2 x3 u = some (rf, uf)) : CV l dC dI cI (WC ad cI) (AF ad 14) yX3_set cX3_set 4 none 1 22 [.ref (ad 1), .int x1, .int x2, .int x3] u uf := by
  refine cv_begin (by decide) (Nat.le_of_ble_eq_true rfl) ?_
  intro p e s m args below meth c S hr hlk hK
  intro H locs ls hP hS hl
  have hl : lv_has ls 4 [(0, .ref (ad 1)), (1, .int x1), (2, .int x2), (3, .int x3)] := hl
  unfold fX3_set at h
  refine lv_aload_n S.1 S.2.1 dX3_set_0 rfl (lv_at hl 0 rfl) ?_
  refine lv_iload_n S.1 S.2.1 dX3_set_1 rfl (lv_at hl 2 rfl) ?_
  refine lv_iload_n S.1 S.2.1 dX3_set_2 rfl (lv_at hl 1 rfl) ?_
  refine lv_iadd S.1 S.2.1 dX3_set_3 ?_
  refine lv_iload_n S.1 S.2.1 dX3_set_4 rfl (lv_at hl 3 rfl) ?_
  obtain ⟨r2, u3, q1, h⟩ := bd_some h
  refine x_vv (Wf := WC ad cI) (q0 := 1) (ci := 3) (As := [.int (x2 + x1), .int x3]) (rest := []) S hK hP hS (k_X3_put hap q1) rfl rfl wl_X3_40 wi_X3_put ws_X3_put wz_X3 wc_X3_put hy_X3_put ⟨Nat.le_of_ble_eq_true rfl, Nat.le_of_ble_eq_true rfl⟩ hl.1 rfl (Nat.le_of_ble_eq_true rfl) dX3_set_5 (fun H locs hP hS => ?_)
  exact x_vret S hr hlk hK hP hS h dX3_set_8
theorem hy_X3_startAnew : yX3_startAnew.cls ≠ "java/lang/invoke/MethodHandle" ∧ yX3_startAnew.cls ≠ "java/lang/invoke/VarHandle" ∧ (parseMethodDescriptor yX3_startAnew.desc).map (fun d => d.parameters.length) = some 2 := by decide +kernel
set_option maxHeartbeats 4000000 in
set_option maxRecDepth 100000 in
theorem k_X3_startAnew {l : Launch} {dC : Nat → ClassId} {dI : Nat → Nat → Nat} {ad : Nat → Nat} {cI : ClassId} (hap : AP ad 14) {x1 x2 : Int32} {u uf : Wo} {rf : Int32} (h : fX3_startAnew x1 x2 u = some (rf, uf)) : CV l dC dI cI (WC ad cI) (AF ad 14) yX3_startAnew cX3_startAnew 4 none 2 45 [.ref (ad 1), .int x1, .int x2] u uf := by
  refine cv_begin (by decide) (Nat.le_of_ble_eq_true rfl) ?_
  intro p e s m args below meth c S hr hlk hK
  have B_20 : ∀ (k66 : Wo → Re) (hk66 : ∀ (u : Wo), k66  u = some (rf, uf) → J p l e (rmk 2 45) s m args below meth c dC dI (WC ad cI) (AF ad 14) (MQ below (QV dC dI cI (WC ad cI) (AF ad 14) uf) args s 0 0 (AF ad 14)) u 66 4 [] []) (n : Nat) (x3 : Int32) (u : Wo), fX3_startAnew_20 k66 n x3 u = some (rf, uf) → J p l e (rmk 2 45) s m args below meth c dC dI (WC ad cI) (AF ad 14) (MQ below (QV dC dI cI (WC ad cI) (AF ad 14) uf) args s 0 0 (AF ad 14)) u 20 4 [(0, .ref (ad 1)), (3, .int x3)] [] := by
    intro k66 hk66
    intro n
    induction n with
    | zero => intro x3 u h; cases h
    | succ n ih =>
      intro x3 u h H locs ls hP hS hl
      rw [fX3_startAnew_20.eq_2] at h
      refine lv_iload_n S.1 S.2.1 dX3_startAnew_20 rfl (lv_at hl 1 rfl) ?_
      refine lv_aload_n S.1 S.2.1 dX3_startAnew_21 rfl (lv_at hl 0 rfl) ?_
      refine gC_1_n S hK hP wf_X3_19 dX3_startAnew_22 ?_
      refine lv_icmp_ge (tgt := 66) S.1 S.2.1 dX3_startAnew_25 (by decide) (fun c6 => ?_) (fun c6 => ?_)
      · rw [if_pos c6] at h
        exact hk66 u h _ _ _ hP hS (lv_sub hl [] rfl)
      · rw [if_neg c6] at h
        refine lv_aload_n S.1 S.2.1 dX3_startAnew_28 rfl (lv_at hl 0 rfl) ?_
        refine gC_1_way S hK hP wf_X3_15 dX3_startAnew_29 ?_
        refine lv_iconst (v := (2 : Int32)) S.1 S.2.1 dX3_startAnew_32 (by decide) ?_
        refine lv_icmp_ne (tgt := 66) S.1 S.2.1 dX3_startAnew_33 (by decide) (fun c7 => ?_) (fun c7 => ?_)
        · rw [if_neg c7] at h
          exact hk66 u h _ _ _ hP hS (lv_sub hl [] rfl)
        · rw [if_pos c7] at h
          refine lv_aload_n S.1 S.2.1 dX3_startAnew_36 rfl (lv_at hl 0 rfl) ?_
          refine lv_iload_n S.1 S.2.1 dX3_startAnew_37 rfl (lv_at hl 1 rfl) ?_
          refine lv_bipush (v := (80 : Int32)) S.1 S.2.1 dX3_startAnew_38 (by decide) ?_
          refine lv_iload_n S.1 S.2.1 dX3_startAnew_40 rfl (lv_at hl 1 rfl) ?_
          refine lv_iconst (v := (1 : Int32)) S.1 S.2.1 dX3_startAnew_41 (by decide) ?_
          refine lv_isub S.1 S.2.1 dX3_startAnew_42 ?_
          refine lv_iconst (v := (2 : Int32)) S.1 S.2.1 dX3_startAnew_43 (by decide) ?_
          refine lv_idiv S.1 S.2.1 dX3_startAnew_44 (by decide) ?_
          obtain ⟨r9, u10, q8, h⟩ := bd_some h
          refine x_vv (Wf := WC ad cI) (q0 := 1) (ci := 3) (As := [.int x3, .int (80 : Int32), .int ((x3 - (1 : Int32)) / (2 : Int32))]) (rest := []) S hK hP hS (k_X3_set hap q8) rfl rfl wl_X3_28 wi_X3_set ws_X3_set wz_X3 wc_X3_set hy_X3_set ⟨Nat.le_of_ble_eq_true rfl, Nat.le_of_ble_eq_true rfl⟩ hl.1 rfl (Nat.le_of_ble_eq_true rfl) dX3_startAnew_45 (fun H locs hP hS => ?_)
          refine lv_aload_n S.1 S.2.1 dX3_startAnew_48 rfl (lv_at hl 0 rfl) ?_
          refine lv_iload_n S.1 S.2.1 dX3_startAnew_49 rfl (lv_at hl 1 rfl) ?_
          refine lv_bipush (v := (86 : Int32)) S.1 S.2.1 dX3_startAnew_50 (by decide) ?_
          refine lv_iload_n S.1 S.2.1 dX3_startAnew_52 rfl (lv_at hl 1 rfl) ?_
          refine lv_iconst (v := (1 : Int32)) S.1 S.2.1 dX3_startAnew_53 (by decide) ?_
          refine lv_isub S.1 S.2.1 dX3_startAnew_54 ?_
          refine lv_iconst (v := (2 : Int32)) S.1 S.2.1 dX3_startAnew_55 (by decide) ?_
          refine lv_idiv S.1 S.2.1 dX3_startAnew_56 (by decide) ?_
          obtain ⟨r12, u13, q11, h⟩ := bd_some h
          refine x_vv (Wf := WC ad cI) (q0 := 1) (ci := 3) (As := [.int x3, .int (86 : Int32), .int ((x3 - (1 : Int32)) / (2 : Int32))]) (rest := []) S hK hP hS (k_X3_set hap q11) rfl rfl wl_X3_28 wi_X3_set ws_X3_set wz_X3 wc_X3_set hy_X3_set ⟨Nat.le_of_ble_eq_true rfl, Nat.le_of_ble_eq_true rfl⟩ hl.1 rfl (Nat.le_of_ble_eq_true rfl) dX3_startAnew_57 (fun H locs hP hS => ?_)
          refine lv_iinc (v := (x3 + (1 : Int32))) (lv' := [(3, .int (x3 + (1 : Int32))), (0, .ref (ad 1))]) S.1 S.2.1 dX3_startAnew_60 hl (k := 1) rfl rfl (by decide) rfl (fun ls hl => ?_)
          refine lv_goto (tgt := 20) S.1 S.2.1 dX3_startAnew_63 (by decide) ?_
          exact ih _ u13 h _ _ _ hP hS (lv_sub hl [1, 0] rfl)
  have B_66 : ∀ (u : Wo), fX3_startAnew_66 u = some (rf, uf) → J p l e (rmk 2 45) s m args below meth c dC dI (WC ad cI) (AF ad 14) (MQ below (QV dC dI cI (WC ad cI) (AF ad 14) uf) args s 0 0 (AF ad 14)) u 66 4 [] [] := by
    intro u h H locs ls hP hS hl
    unfold fX3_startAnew_66 at h
    exact x_vret S hr hlk hK hP hS h dX3_startAnew_66
  intro H locs ls hP hS hl
  have hl : lv_has ls 4 [(0, .ref (ad 1)), (1, .int x1), (2, .int x2)] := hl
  unfold fX3_startAnew at h
  refine lv_aload_n S.1 S.2.1 dX3_startAnew_0 rfl (lv_at hl 0 rfl) ?_
  refine lv_iload_n S.1 S.2.1 dX3_startAnew_1 rfl (lv_at hl 1 rfl) ?_
  obtain ⟨u1, hu1, h⟩ := bw_some h
  refine pC_1_way S hK hap hP hS wf_X3_15 dX3_startAnew_2 hu1 (fun H locs hP hS => ?_)
  refine lv_aload_n S.1 S.2.1 dX3_startAnew_5 rfl (lv_at hl 0 rfl) ?_
  refine lv_iload_n S.1 S.2.1 dX3_startAnew_6 rfl (lv_at hl 2 rfl) ?_
  obtain ⟨u2, hu2, h⟩ := bw_some h
  refine pC_1_n S hK hap hP hS wf_X3_19 dX3_startAnew_7 hu2 (fun H locs hP hS => ?_)
  refine lv_aload_n S.1 S.2.1 dX3_startAnew_10 rfl (lv_at hl 0 rfl) ?_
  refine gC_1_row S hK hP wf_X3_11 dX3_startAnew_11 ?_
  refine lv_iconst (v := (0 : Int32)) S.1 S.2.1 dX3_startAnew_14 (by decide) ?_
  obtain ⟨r4, u5, q3, h⟩ := bd_some h
  refine x_sv (Wf := WC ad cI) (As := [.ref (ad 6), .int (0 : Int32)]) (rest := []) S hK hP hS (k_J7_fill_53178_6 hap q3) wl_X3_22 wt_J7_fill_53178 wz_J7 wc_J7_fill_53178 hy_J7_fill_53178 ⟨Nat.le_of_ble_eq_true rfl, Nat.le_of_ble_eq_true rfl⟩ hl.1 rfl (Nat.le_of_ble_eq_true rfl) dX3_startAnew_15 (fun H locs hP hS => ?_)
  refine lv_iconst (v := (1 : Int32)) S.1 S.2.1 dX3_startAnew_18 (by decide) ?_
  refine lv_istore_n (lv' := [(3, .int (1 : Int32)), (0, .ref (ad 1)), (1, .int x1), (2, .int x2)]) S.1 S.2.1 dX3_startAnew_19 rfl hl (by decide) rfl (fun ls hl => ?_)
  exact B_20 _ B_66 FU _ u5 h _ _ _ hP hS (lv_sub hl [1, 0] rfl)
theorem hy_X1_forget : yX1_forget.cls ≠ "java/lang/invoke/MethodHandle" ∧ yX1_forget.cls ≠ "java/lang/invoke/VarHandle" ∧ (parseMethodDescriptor yX1_forget.desc).map (fun d => d.parameters.length) = some 0 := by decide +kernel
set_option maxHeartbeats 4000000 in
set_option maxRecDepth 100000 in
theorem k_X1_forget {l : Launch} {dC : Nat → ClassId} {dI : Nat → Nat → Nat} {ad : Nat → Nat} {cI : ClassId} (hap : AP ad 14) {u uf : Wo} {rf : Int32} (h : fX1_forget u = some (rf, uf)) : CV l dC dI cI (WC ad cI) (AF ad 14) yX1_forget cX1_forget 1 none 0 0 [.ref (ad 4)] u uf := by
  refine cv_begin (by decide) (Nat.le_of_ble_eq_true rfl) ?_
  intro p e s m args below meth c S hr hlk hK
  intro H locs ls hP hS hl
  have hl : lv_has ls 1 [(0, .ref (ad 4))] := hl
  unfold fX1_forget at h
  refine lv_aload_n S.1 S.2.1 dX1_forget_0 rfl (lv_at hl 0 rfl) ?_
  refine lv_iconst (v := (0 : Int32)) S.1 S.2.1 dX1_forget_1 (by decide) ?_
  obtain ⟨u1, hu1, h⟩ := bw_some h
  refine pC_4_kept S hK hap hP hS wf_X1_19 dX1_forget_2 hu1 (fun H locs hP hS => ?_)
  exact x_vret S hr hlk hK hP hS h dX1_forget_5
theorem hy_X5_begin : yX5_begin.cls ≠ "java/lang/invoke/MethodHandle" ∧ yX5_begin.cls ≠ "java/lang/invoke/VarHandle" ∧ (parseMethodDescriptor yX5_begin.desc).map (fun d => d.parameters.length) = some 2 := by decide +kernel
set_option maxHeartbeats 4000000 in
set_option maxRecDepth 100000 in
theorem k_X5_begin {l : Launch} {dC : Nat → ClassId} {dI : Nat → Nat → Nat} {ad : Nat → Nat} {cI : ClassId} (hap : AP ad 14) {x1 x2 : Int32} {u uf : Wo} {rf : Int32} (h : fX5_begin x1 x2 u = some (rf, uf)) : CI l dC dI cI (WC ad cI) (AF ad 14) yX5_begin cX5_begin 3 (some .int) 3 68 [.ref (ad 0), .int x1, .int x2] u rf uf := by
  refine ci_begin (by decide) (Nat.le_of_ble_eq_true rfl) ?_
  intro p e s m args below meth c S hr hlk hK
  have B_20 : ∀ (u : Wo), fX5_begin_20 u = some (rf, uf) → J p l e (rmk 3 68) s m args below meth c dC dI (WC ad cI) (AF ad 14) (MQ below (QI dC dI cI (WC ad cI) (AF ad 14) rf uf) args s 0 0 (AF ad 14)) u 20 3 [] [] := by
    intro u h H locs ls hP hS hl
    unfold fX5_begin_20 at h
    refine lv_iconst (v := (-1 : Int32)) S.1 S.2.1 dX5_begin_20 (by decide) ?_
    exact x_iret S hr hlk hK hP hS h dX5_begin_21
  intro H locs ls hP hS hl
  have hl : lv_has ls 3 [(0, .ref (ad 0)), (1, .int x1), (2, .int x2)] := hl
  unfold fX5_begin at h
  refine lv_iload_n S.1 S.2.1 dX5_begin_0 rfl (lv_at hl 1 rfl) ?_
  refine lv_if_lt (tgt := 20) S.1 S.2.1 dX5_begin_1 (by decide) (fun c1 => ?_) (fun c1 => ?_)
  · rw [if_pos c1] at h
    exact B_20 u h _ _ _ hP hS (lv_sub hl [] rfl)
  · rw [if_neg c1] at h
    refine lv_iload_n S.1 S.2.1 dX5_begin_4 rfl (lv_at hl 1 rfl) ?_
    refine lv_iconst (v := (2 : Int32)) S.1 S.2.1 dX5_begin_5 (by decide) ?_
    refine lv_icmp_gt (tgt := 20) S.1 S.2.1 dX5_begin_6 (by decide) (fun c2 => ?_) (fun c2 => ?_)
    · rw [if_pos c2] at h
      exact B_20 u h _ _ _ hP hS (lv_sub hl [] rfl)
    · rw [if_neg c2] at h
      refine lv_iload_n S.1 S.2.1 dX5_begin_9 rfl (lv_at hl 2 rfl) ?_
      refine lv_iconst (v := (2 : Int32)) S.1 S.2.1 dX5_begin_10 (by decide) ?_
      refine lv_icmp_lt (tgt := 20) S.1 S.2.1 dX5_begin_11 (by decide) (fun c3 => ?_) (fun c3 => ?_)
      · rw [if_pos c3] at h
        exact B_20 u h _ _ _ hP hS (lv_sub hl [] rfl)
      · rw [if_neg c3] at h
        refine lv_iload_n S.1 S.2.1 dX5_begin_14 rfl (lv_at hl 2 rfl) ?_
        refine lv_bipush (v := (6 : Int32)) S.1 S.2.1 dX5_begin_15 (by decide) ?_
        refine lv_icmp_le (tgt := 22) S.1 S.2.1 dX5_begin_17 (by decide) (fun c4 => ?_) (fun c4 => ?_)
        · rw [if_pos c4] at h
          refine lv_aload_n S.1 S.2.1 dX5_begin_22 rfl (lv_at hl 0 rfl) ?_
          refine gC_0_begins S hK hP wf_X5_54 dX5_begin_23 ?_
          refine lv_bipush (v := (10 : Int32)) S.1 S.2.1 dX5_begin_26 (by decide) ?_
          refine lv_icmp_lt (tgt := 34) S.1 S.2.1 dX5_begin_28 (by decide) (fun c5 => ?_) (fun c5 => ?_)
          · rw [if_pos c5] at h
            refine lv_aload_n S.1 S.2.1 dX5_begin_34 rfl (lv_at hl 0 rfl) ?_
            refine lv_dup S.1 S.2.1 dX5_begin_35 rfl ?_
            refine gC_0_begins S hK hP wf_X5_54 dX5_begin_36 ?_
            refine lv_iconst (v := (1 : Int32)) S.1 S.2.1 dX5_begin_39 (by decide) ?_
            refine lv_iadd S.1 S.2.1 dX5_begin_40 ?_
            obtain ⟨u6, hu6, h⟩ := bw_some h
            refine pC_0_begins S hK hap hP hS wf_X5_54 dX5_begin_41 hu6 (fun H locs hP hS => ?_)
            refine lv_aload_n S.1 S.2.1 dX5_begin_44 rfl (lv_at hl 0 rfl) ?_
            refine lv_iconst (v := (0 : Int32)) S.1 S.2.1 dX5_begin_45 (by decide) ?_
            obtain ⟨u7, hu7, h⟩ := bw_some h
            refine pC_0_passes S hK hap hP hS wf_X5_58 dX5_begin_46 hu7 (fun H locs hP hS => ?_)
            refine lv_aload_n S.1 S.2.1 dX5_begin_49 rfl (lv_at hl 0 rfl) ?_
            refine lv_iconst (v := (0 : Int32)) S.1 S.2.1 dX5_begin_50 (by decide) ?_
            obtain ⟨u8, hu8, h⟩ := bw_some h
            refine pC_0_acted S hK hap hP hS wf_X5_61 dX5_begin_51 (by decide) hu8 (fun H locs hP hS => ?_)
            refine lv_aload_n S.1 S.2.1 dX5_begin_54 rfl (lv_at hl 0 rfl) ?_
            refine gC_0_past S hK hP wf_X5_37 dX5_begin_55 ?_
            obtain ⟨r10, u11, q9, h⟩ := bd_some h
            refine x_vv (Wf := WC ad cI) (q0 := 4) (ci := 1) (As := []) (rest := []) S hK hP hS (k_X1_forget hap q9) rfl rfl wl_X5_65 wi_X1_forget ws_X1_forget wz_X1 wc_X1_forget hy_X1_forget ⟨Nat.le_of_ble_eq_true rfl, Nat.le_of_ble_eq_true rfl⟩ hl.1 rfl (Nat.le_of_ble_eq_true rfl) dX5_begin_58 (fun H locs hP hS => ?_)
            refine lv_aload_n S.1 S.2.1 dX5_begin_61 rfl (lv_at hl 0 rfl) ?_
            refine gC_0_stand S hK hP wf_X5_10 dX5_begin_62 ?_
            refine lv_iload_n S.1 S.2.1 dX5_begin_65 rfl (lv_at hl 1 rfl) ?_
            refine lv_iload_n S.1 S.2.1 dX5_begin_66 rfl (lv_at hl 2 rfl) ?_
            obtain ⟨r13, u14, q12, h⟩ := bd_some h
            refine x_vv (Wf := WC ad cI) (q0 := 1) (ci := 3) (As := [.int x1, .int x2]) (rest := []) S hK hP hS (k_X3_startAnew hap q12) rfl rfl wl_X5_50 wi_X3_startAnew ws_X3_startAnew wz_X3 wc_X3_startAnew hy_X3_startAnew ⟨Nat.le_of_ble_eq_true rfl, Nat.le_of_ble_eq_true rfl⟩ hl.1 rfl (Nat.le_of_ble_eq_true rfl) dX5_begin_67 (fun H locs hP hS => ?_)
            refine lv_iload_n S.1 S.2.1 dX5_begin_70 rfl (lv_at hl 2 rfl) ?_
            exact x_iret S hr hlk hK hP hS h dX5_begin_71
          · rw [if_neg c5] at h
            refine lv_bipush (v := (-3 : Int32)) S.1 S.2.1 dX5_begin_31 (by decide) ?_
            exact x_iret S hr hlk hK hP hS h dX5_begin_33
        · rw [if_neg c4] at h
          exact B_20 u h _ _ _ hP hS (lv_sub hl [] rfl)
theorem hy_X3_get : yX3_get.cls ≠ "java/lang/invoke/MethodHandle" ∧ yX3_get.cls ≠ "java/lang/invoke/VarHandle" ∧ (parseMethodDescriptor yX3_get.desc).map (fun d => d.parameters.length) = some 1 := by decide +kernel
set_option maxHeartbeats 4000000 in
set_option maxRecDepth 100000 in
theorem k_X3_get {l : Launch} {dC : Nat → ClassId} {dI : Nat → Nat → Nat} {ad : Nat → Nat} {cI : ClassId} (hap : AP ad 14) {x1 : Int32} {u uf : Wo} {rf : Int32} (h : fX3_get x1 u = some (rf, uf)) : CI l dC dI cI (WC ad cI) (AF ad 14) yX3_get cX3_get 2 (some .int) 0 0 [.ref (ad 1), .int x1] u rf uf := by
  refine ci_begin (by decide) (Nat.le_of_ble_eq_true rfl) ?_
  intro p e s m args below meth c S hr hlk hK
  have B_23 : ∀ (s0 : Int32) (u : Wo), fX3_get_23 s0 u = some (rf, uf) → J p l e (rmk 0 0) s m args below meth c dC dI (WC ad cI) (AF ad 14) (MQ below (QI dC dI cI (WC ad cI) (AF ad 14) rf uf) args s 0 0 (AF ad 14)) u 23 2 [] [.int s0] := by
    intro s0 u h H locs ls hP hS hl
    unfold fX3_get_23 at h
    exact x_iret S hr hlk hK hP hS h dX3_get_23
  have B_22 : ∀ (u : Wo), fX3_get_22 u = some (rf, uf) → J p l e (rmk 0 0) s m args below meth c dC dI (WC ad cI) (AF ad 14) (MQ below (QI dC dI cI (WC ad cI) (AF ad 14) rf uf) args s 0 0 (AF ad 14)) u 22 2 [] [] := by
    intro u h H locs ls hP hS hl
    unfold fX3_get_22 at h
    refine lv_iconst (v := (0 : Int32)) S.1 S.2.1 dX3_get_22 (by decide) ?_
    exact B_23 _ u h _ _ _ hP hS (lv_sub hl [] rfl)
  intro H locs ls hP hS hl
  have hl : lv_has ls 2 [(0, .ref (ad 1)), (1, .int x1)] := hl
  unfold fX3_get at h
  refine lv_iload_n S.1 S.2.1 dX3_get_0 rfl (lv_at hl 1 rfl) ?_
  refine lv_if_lt (tgt := 22) S.1 S.2.1 dX3_get_1 (by decide) (fun c1 => ?_) (fun c1 => ?_)
  · rw [if_pos c1] at h
    exact B_22 u h _ _ _ hP hS (lv_sub hl [] rfl)
  · rw [if_neg c1] at h
    refine lv_iload_n S.1 S.2.1 dX3_get_4 rfl (lv_at hl 1 rfl) ?_
    refine lv_aload_n S.1 S.2.1 dX3_get_5 rfl (lv_at hl 0 rfl) ?_
    refine gC_1_row S hK hP wf_X3_11 dX3_get_6 ?_
    refine nC_6 S hK hP dX3_get_9 ?_
    refine lv_icmp_ge (tgt := 22) S.1 S.2.1 dX3_get_10 (by decide) (fun c2 => ?_) (fun c2 => ?_)
    · rw [if_pos c2] at h
      exact B_22 u h _ _ _ hP hS (lv_sub hl [] rfl)
    · rw [if_neg c2] at h
      refine lv_aload_n S.1 S.2.1 dX3_get_13 rfl (lv_at hl 0 rfl) ?_
      refine gC_1_row S hK hP wf_X3_11 dX3_get_14 ?_
      refine lv_iload_n S.1 S.2.1 dX3_get_17 rfl (lv_at hl 1 rfl) ?_
      obtain ⟨q3, h⟩ := gi_some h
      refine lC_6 S hK hP q3 dX3_get_18 ?_
      refine lv_goto (tgt := 23) S.1 S.2.1 dX3_get_19 (by decide) ?_
      exact B_23 _ u h _ _ _ hP hS (lv_sub hl [] rfl)
theorem hy_X3_of : yX3_of.cls ≠ "java/lang/invoke/MethodHandle" ∧ yX3_of.cls ≠ "java/lang/invoke/VarHandle" ∧ (parseMethodDescriptor yX3_of.desc).map (fun d => d.parameters.length) = some 2 := by decide +kernel
set_option maxHeartbeats 4000000 in
set_option maxRecDepth 100000 in
theorem k_X3_of {l : Launch} {dC : Nat → ClassId} {dI : Nat → Nat → Nat} {ad : Nat → Nat} {cI : ClassId} (hap : AP ad 14) {x1 x2 : Int32} {u uf : Wo} {rf : Int32} (h : fX3_of x1 x2 u = some (rf, uf)) : CI l dC dI cI (WC ad cI) (AF ad 14) yX3_of cX3_of 3 (some .int) 1 21 [.ref (ad 1), .int x1, .int x2] u rf uf := by
  refine ci_begin (by decide) (Nat.le_of_ble_eq_true rfl) ?_
  intro p e s m args below meth c S hr hlk hK
  intro H locs ls hP hS hl
  have hl : lv_has ls 3 [(0, .ref (ad 1)), (1, .int x1), (2, .int x2)] := hl
  unfold fX3_of at h
  refine lv_aload_n S.1 S.2.1 dX3_of_0 rfl (lv_at hl 0 rfl) ?_
  refine lv_iload_n S.1 S.2.1 dX3_of_1 rfl (lv_at hl 2 rfl) ?_
  refine lv_iload_n S.1 S.2.1 dX3_of_2 rfl (lv_at hl 1 rfl) ?_
  refine lv_iadd S.1 S.2.1 dX3_of_3 ?_
  obtain ⟨r2, u3, q1, h⟩ := bd_some h
  refine x_vi (Wf := WC ad cI) (q0 := 1) (ci := 3) (As := [.int (x2 + x1)]) (rest := []) S hK hP hS (k_X3_get hap q1) rfl rfl wl_X3_36 wi_X3_get ws_X3_get wz_X3 wc_X3_get hy_X3_get ⟨Nat.le_of_ble_eq_true rfl, Nat.le_of_ble_eq_true rfl⟩ hl.1 rfl (Nat.le_of_ble_eq_true rfl) dX3_of_4 (fun H locs hP hS => ?_)
  exact x_iret S hr hlk hK hP hS h dX3_of_7
theorem hy_X5_parent : yX5_parent.cls ≠ "java/lang/invoke/MethodHandle" ∧ yX5_parent.cls ≠ "java/lang/invoke/VarHandle" ∧ (parseMethodDescriptor yX5_parent.desc).map (fun d => d.parameters.length) = some 2 := by decide +kernel
set_option maxHeartbeats 4000000 in
set_option maxRecDepth 100000 in
theorem k_X5_parent {l : Launch} {dC : Nat → ClassId} {dI : Nat → Nat → Nat} {ad : Nat → Nat} {cI : ClassId} (hap : AP ad 14) {x1 x2 : Int32} {u uf : Wo} {rf : Int32} (h : fX5_parent x1 x2 u = some (rf, uf)) : CI l dC dI cI (WC ad cI) (AF ad 14) yX5_parent cX5_parent 4 (some .int) 2 45 [.ref (ad 0), .int x1, .int x2] u rf uf := by
  refine ci_begin (by decide) (Nat.le_of_ble_eq_true rfl) ?_
  intro p e s m args below meth c S hr hlk hK
  have B_25 : ∀ (u : Wo), fX5_parent_25 u = some (rf, uf) → J p l e (rmk 2 45) s m args below meth c dC dI (WC ad cI) (AF ad 14) (MQ below (QI dC dI cI (WC ad cI) (AF ad 14) rf uf) args s 0 0 (AF ad 14)) u 25 4 [] [] := by
    intro u h H locs ls hP hS hl
    unfold fX5_parent_25 at h
    refine lv_iconst (v := (-1 : Int32)) S.1 S.2.1 dX5_parent_25 (by decide) ?_
    exact x_iret S hr hlk hK hP hS h dX5_parent_26
  have B_45 : ∀ (u : Wo), fX5_parent_45 u = some (rf, uf) → J p l e (rmk 2 45) s m args below meth c dC dI (WC ad cI) (AF ad 14) (MQ below (QI dC dI cI (WC ad cI) (AF ad 14) rf uf) args s 0 0 (AF ad 14)) u 45 4 [] [] := by
    intro u h H locs ls hP hS hl
    unfold fX5_parent_45 at h
    refine lv_bipush (v := (-2 : Int32)) S.1 S.2.1 dX5_parent_45 (by decide) ?_
    exact x_iret S hr hlk hK hP hS h dX5_parent_47
  intro H locs ls hP hS hl
  have hl : lv_has ls 4 [(0, .ref (ad 0)), (1, .int x1), (2, .int x2)] := hl
  unfold fX5_parent at h
  refine lv_iload_n S.1 S.2.1 dX5_parent_0 rfl (lv_at hl 1 rfl) ?_
  refine lv_iconst (v := (1 : Int32)) S.1 S.2.1 dX5_parent_1 (by decide) ?_
  refine lv_icmp_lt (tgt := 25) S.1 S.2.1 dX5_parent_2 (by decide) (fun c1 => ?_) (fun c1 => ?_)
  · rw [if_pos c1] at h
    exact B_25 u h _ _ _ hP hS (lv_sub hl [] rfl)
  · rw [if_neg c1] at h
    refine lv_iload_n S.1 S.2.1 dX5_parent_5 rfl (lv_at hl 1 rfl) ?_
    refine lv_aload_n S.1 S.2.1 dX5_parent_6 rfl (lv_at hl 0 rfl) ?_
    refine gC_0_stand S hK hP wf_X5_10 dX5_parent_7 ?_
    refine gC_1_n S hK hP wf_X5_68 dX5_parent_10 ?_
    refine lv_icmp_ge (tgt := 25) S.1 S.2.1 dX5_parent_13 (by decide) (fun c2 => ?_) (fun c2 => ?_)
    · rw [if_pos c2] at h
      exact B_25 u h _ _ _ hP hS (lv_sub hl [] rfl)
    · rw [if_neg c2] at h
      refine lv_iload_n S.1 S.2.1 dX5_parent_16 rfl (lv_at hl 2 rfl) ?_
      refine lv_if_lt (tgt := 25) S.1 S.2.1 dX5_parent_17 (by decide) (fun c3 => ?_) (fun c3 => ?_)
      · rw [if_pos c3] at h
        exact B_25 u h _ _ _ hP hS (lv_sub hl [] rfl)
      · rw [if_neg c3] at h
        refine lv_iload_n S.1 S.2.1 dX5_parent_20 rfl (lv_at hl 2 rfl) ?_
        refine lv_iload_n S.1 S.2.1 dX5_parent_21 rfl (lv_at hl 1 rfl) ?_
        refine lv_icmp_lt (tgt := 27) S.1 S.2.1 dX5_parent_22 (by decide) (fun c4 => ?_) (fun c4 => ?_)
        · rw [if_pos c4] at h
          refine lv_aload_n S.1 S.2.1 dX5_parent_27 rfl (lv_at hl 0 rfl) ?_
          refine gC_0_stand S hK hP wf_X5_10 dX5_parent_28 ?_
          refine gC_1_way S hK hP wf_X5_71 dX5_parent_31 ?_
          refine lv_iconst (v := (2 : Int32)) S.1 S.2.1 dX5_parent_34 (by decide) ?_
          refine lv_icmp_ne (tgt := 45) S.1 S.2.1 dX5_parent_35 (by decide) (fun c5 => ?_) (fun c5 => ?_)
          · rw [if_neg c5] at h
            exact B_45 u h _ _ _ hP hS (lv_sub hl [] rfl)
          · rw [if_pos c5] at h
            refine lv_aload_n S.1 S.2.1 dX5_parent_38 rfl (lv_at hl 0 rfl) ?_
            refine gC_0_acted S hK hP wf_X5_61 dX5_parent_39 ?_
            refine lv_if_eq (tgt := 48) S.1 S.2.1 dX5_parent_42 (by decide) (fun c6 => ?_) (fun c6 => ?_)
            · rw [if_pos c6] at h
              refine lv_aload_n S.1 S.2.1 dX5_parent_48 rfl (lv_at hl 0 rfl) ?_
              refine gC_0_stand S hK hP wf_X5_10 dX5_parent_49 ?_
              refine lv_iload_n S.1 S.2.1 dX5_parent_52 rfl (lv_at hl 1 rfl) ?_
              refine lv_bipush (v := (80 : Int32)) S.1 S.2.1 dX5_parent_53 (by decide) ?_
              obtain ⟨r8, u9, q7, h⟩ := bd_some h
              refine x_vi (Wf := WC ad cI) (q0 := 1) (ci := 3) (As := [.int x1, .int (80 : Int32)]) (rest := []) S hK hP hS (k_X3_of hap q7) rfl rfl wl_X5_74 wi_X3_of ws_X3_of wz_X3 wc_X3_of hy_X3_of ⟨Nat.le_of_ble_eq_true rfl, Nat.le_of_ble_eq_true rfl⟩ hl.1 rfl (Nat.le_of_ble_eq_true rfl) dX5_parent_55 (fun H locs hP hS => ?_)
              refine lv_istore_n (lv' := [(3, .int r8), (0, .ref (ad 0)), (1, .int x1), (2, .int x2)]) S.1 S.2.1 dX5_parent_58 rfl hl (by decide) rfl (fun ls hl => ?_)
              refine lv_aload_n S.1 S.2.1 dX5_parent_59 rfl (lv_at hl 1 rfl) ?_
              refine gC_0_stand S hK hP wf_X5_10 dX5_parent_60 ?_
              refine lv_iload_n S.1 S.2.1 dX5_parent_63 rfl (lv_at hl 2 rfl) ?_
              refine lv_bipush (v := (80 : Int32)) S.1 S.2.1 dX5_parent_64 (by decide) ?_
              refine lv_iload_n S.1 S.2.1 dX5_parent_66 rfl (lv_at hl 3 rfl) ?_
              obtain ⟨r11, u12, q10, h⟩ := bd_some h
              refine x_vv (Wf := WC ad cI) (q0 := 1) (ci := 3) (As := [.int x1, .int (80 : Int32), .int x2]) (rest := []) S hK hP hS (k_X3_set hap q10) rfl rfl wl_X5_78 wi_X3_set ws_X3_set wz_X3 wc_X3_set hy_X3_set ⟨Nat.le_of_ble_eq_true rfl, Nat.le_of_ble_eq_true rfl⟩ hl.1 rfl (Nat.le_of_ble_eq_true rfl) dX5_parent_67 (fun H locs hP hS => ?_)
              refine lv_aload_n S.1 S.2.1 dX5_parent_70 rfl (lv_at hl 1 rfl) ?_
              refine gC_0_stand S hK hP wf_X5_10 dX5_parent_71 ?_
              refine lv_iload_n S.1 S.2.1 dX5_parent_74 rfl (lv_at hl 2 rfl) ?_
              refine lv_bipush (v := (86 : Int32)) S.1 S.2.1 dX5_parent_75 (by decide) ?_
              refine lv_iload_n S.1 S.2.1 dX5_parent_77 rfl (lv_at hl 3 rfl) ?_
              obtain ⟨r14, u15, q13, h⟩ := bd_some h
              refine x_vv (Wf := WC ad cI) (q0 := 1) (ci := 3) (As := [.int x1, .int (86 : Int32), .int x2]) (rest := []) S hK hP hS (k_X3_set hap q13) rfl rfl wl_X5_78 wi_X3_set ws_X3_set wz_X3 wc_X3_set hy_X3_set ⟨Nat.le_of_ble_eq_true rfl, Nat.le_of_ble_eq_true rfl⟩ hl.1 rfl (Nat.le_of_ble_eq_true rfl) dX5_parent_78 (fun H locs hP hS => ?_)
              refine lv_iload_n S.1 S.2.1 dX5_parent_81 rfl (lv_at hl 0 rfl) ?_
              exact x_iret S hr hlk hK hP hS h dX5_parent_82
            · rw [if_neg c6] at h
              exact B_45 u h _ _ _ hP hS (lv_sub hl [] rfl)
        · rw [if_neg c4] at h
          exact B_25 u h _ _ _ hP hS (lv_sub hl [] rfl)
theorem hy_X3_isKeeper : yX3_isKeeper.cls ≠ "java/lang/invoke/MethodHandle" ∧ yX3_isKeeper.cls ≠ "java/lang/invoke/VarHandle" ∧ (parseMethodDescriptor yX3_isKeeper.desc).map (fun d => d.parameters.length) = some 1 := by decide +kernel
set_option maxHeartbeats 4000000 in
set_option maxRecDepth 100000 in
theorem k_X3_isKeeper {l : Launch} {dC : Nat → ClassId} {dI : Nat → Nat → Nat} {ad : Nat → Nat} {cI : ClassId} (hap : AP ad 14) {x1 : Int32} {u uf : Wo} {rf : Int32} (h : fX3_isKeeper x1 u = some (rf, uf)) : CI l dC dI cI (WC ad cI) (AF ad 14) yX3_isKeeper cX3_isKeeper 2 (some .boolean) 0 0 [.ref (ad 1), .int x1] u rf uf := by
  refine ci_begin (by decide) (Nat.le_of_ble_eq_true rfl) ?_
  intro p e s m args below meth c S hr hlk hK
  have B_17 : ∀ (s0 : Int32) (u : Wo), fX3_isKeeper_17 s0 u = some (rf, uf) → J p l e (rmk 0 0) s m args below meth c dC dI (WC ad cI) (AF ad 14) (MQ below (QI dC dI cI (WC ad cI) (AF ad 14) rf uf) args s 0 0 (AF ad 14)) u 17 2 [] [.int s0] := by
    intro s0 u h H locs ls hP hS hl
    unfold fX3_isKeeper_17 at h
    obtain ⟨q2, h⟩ := gi_some h
    exact x_zret S hr hlk hK hP hS q2 h dX3_isKeeper_17
  have B_16 : ∀ (u : Wo), fX3_isKeeper_16 u = some (rf, uf) → J p l e (rmk 0 0) s m args below meth c dC dI (WC ad cI) (AF ad 14) (MQ below (QI dC dI cI (WC ad cI) (AF ad 14) rf uf) args s 0 0 (AF ad 14)) u 16 2 [] [] := by
    intro u h H locs ls hP hS hl
    unfold fX3_isKeeper_16 at h
    refine lv_iconst (v := (0 : Int32)) S.1 S.2.1 dX3_isKeeper_16 (by decide) ?_
    exact B_17 _ u h _ _ _ hP hS (lv_sub hl [] rfl)
  intro H locs ls hP hS hl
  have hl : lv_has ls 2 [(0, .ref (ad 1)), (1, .int x1)] := hl
  unfold fX3_isKeeper at h
  refine lv_iload_n S.1 S.2.1 dX3_isKeeper_0 rfl (lv_at hl 1 rfl) ?_
  refine lv_if_lt (tgt := 16) S.1 S.2.1 dX3_isKeeper_1 (by decide) (fun c1 => ?_) (fun c1 => ?_)
  · rw [if_pos c1] at h
    exact B_16 u h _ _ _ hP hS (lv_sub hl [] rfl)
  · rw [if_neg c1] at h
    refine lv_iload_n S.1 S.2.1 dX3_isKeeper_4 rfl (lv_at hl 1 rfl) ?_
    refine lv_aload_n S.1 S.2.1 dX3_isKeeper_5 rfl (lv_at hl 0 rfl) ?_
    refine gC_1_n S hK hP wf_X3_19 dX3_isKeeper_6 ?_
    refine lv_icmp_ge (tgt := 16) S.1 S.2.1 dX3_isKeeper_9 (by decide) (fun c3 => ?_) (fun c3 => ?_)
    · rw [if_pos c3] at h
      exact B_16 u h _ _ _ hP hS (lv_sub hl [] rfl)
    · rw [if_neg c3] at h
      refine lv_iconst (v := (1 : Int32)) S.1 S.2.1 dX3_isKeeper_12 (by decide) ?_
      refine lv_goto (tgt := 17) S.1 S.2.1 dX3_isKeeper_13 (by decide) ?_
      exact B_17 _ u h _ _ _ hP hS (lv_sub hl [] rfl)
theorem hy_X3_copyTo : yX3_copyTo.cls ≠ "java/lang/invoke/MethodHandle" ∧ yX3_copyTo.cls ≠ "java/lang/invoke/VarHandle" ∧ (parseMethodDescriptor yX3_copyTo.desc).map (fun d => d.parameters.length) = some 3 := by decide +kernel
set_option maxHeartbeats 4000000 in
set_option maxRecDepth 100000 in
theorem k_X3_copyTo_8 {l : Launch} {dC : Nat → ClassId} {dI : Nat → Nat → Nat} {ad : Nat → Nat} {cI : ClassId} (hap : AP ad 14) {x2 x3 : Int32} {u uf : Wo} {rf : Int32} (h : fX3_copyTo_8 x2 x3 u = some (rf, uf)) : CV l dC dI cI (WC ad cI) (AF ad 14) yX3_copyTo cX3_copyTo 4 none 1 26 [.ref (ad 1), .ref (ad 8), .int x2, .int x3] u uf := by
  refine cv_begin (by decide) (Nat.le_of_ble_eq_true rfl) ?_
  intro p e s m args below meth c S hr hlk hK
  have B_36 : ∀ (u : Wo), fX3_copyTo_8_36 u = some (rf, uf) → J p l e (rmk 1 26) s m args below meth c dC dI (WC ad cI) (AF ad 14) (MQ below (QV dC dI cI (WC ad cI) (AF ad 14) uf) args s 0 0 (AF ad 14)) u 36 4 [] [] := by
    intro u h H locs ls hP hS hl
    unfold fX3_copyTo_8_36 at h
    exact x_vret S hr hlk hK hP hS h dX3_copyTo_36
  intro H locs ls hP hS hl
  have hl : lv_has ls 4 [(0, .ref (ad 1)), (1, .ref (ad 8)), (2, .int x2), (3, .int x3)] := hl
  unfold fX3_copyTo_8 at h
  refine lv_iload_n S.1 S.2.1 dX3_copyTo_0 rfl (lv_at hl 2 rfl) ?_
  refine lv_if_lt (tgt := 36) S.1 S.2.1 dX3_copyTo_1 (by decide) (fun c1 => ?_) (fun c1 => ?_)
  · rw [if_pos c1] at h
    exact B_36 u h _ _ _ hP hS (lv_sub hl [] rfl)
  · rw [if_neg c1] at h
    refine lv_iload_n S.1 S.2.1 dX3_copyTo_4 rfl (lv_at hl 3 rfl) ?_
    refine lv_if_lt (tgt := 36) S.1 S.2.1 dX3_copyTo_5 (by decide) (fun c2 => ?_) (fun c2 => ?_)
    · rw [if_pos c2] at h
      exact B_36 u h _ _ _ hP hS (lv_sub hl [] rfl)
    · rw [if_neg c2] at h
      refine lv_iload_n S.1 S.2.1 dX3_copyTo_8 rfl (lv_at hl 3 rfl) ?_
      refine lv_aload_n S.1 S.2.1 dX3_copyTo_9 rfl (lv_at hl 0 rfl) ?_
      refine gC_1_row S hK hP wf_X3_11 dX3_copyTo_10 ?_
      refine nC_6 S hK hP dX3_copyTo_13 ?_
      refine lv_icmp_gt (tgt := 36) S.1 S.2.1 dX3_copyTo_14 (by decide) (fun c3 => ?_) (fun c3 => ?_)
      · rw [if_pos c3] at h
        exact B_36 u h _ _ _ hP hS (lv_sub hl [] rfl)
      · rw [if_neg c3] at h
        refine lv_iload_n S.1 S.2.1 dX3_copyTo_17 rfl (lv_at hl 2 rfl) ?_
        refine lv_aload_n S.1 S.2.1 dX3_copyTo_18 rfl (lv_at hl 1 rfl) ?_
        refine nC_8 S hK hP dX3_copyTo_19 ?_
        refine lv_iload_n S.1 S.2.1 dX3_copyTo_20 rfl (lv_at hl 3 rfl) ?_
        refine lv_isub S.1 S.2.1 dX3_copyTo_21 ?_
        refine lv_icmp_gt (tgt := 36) S.1 S.2.1 dX3_copyTo_22 (by decide) (fun c4 => ?_) (fun c4 => ?_)
        · rw [if_pos c4] at h
          exact B_36 u h _ _ _ hP hS (lv_sub hl [] rfl)
        · rw [if_neg c4] at h
          refine lv_aload_n S.1 S.2.1 dX3_copyTo_25 rfl (lv_at hl 0 rfl) ?_
          refine gC_1_row S hK hP wf_X3_11 dX3_copyTo_26 ?_
          refine lv_iconst (v := (0 : Int32)) S.1 S.2.1 dX3_copyTo_29 (by decide) ?_
          refine lv_aload_n S.1 S.2.1 dX3_copyTo_30 rfl (lv_at hl 1 rfl) ?_
          refine lv_iload_n S.1 S.2.1 dX3_copyTo_31 rfl (lv_at hl 2 rfl) ?_
          refine lv_iload_n S.1 S.2.1 dX3_copyTo_32 rfl (lv_at hl 3 rfl) ?_
          obtain ⟨q5, h⟩ := gi_some h
          obtain ⟨u6, hu6, h⟩ := bw_some h
          refine x_cpy (Wf := WC ad cI) S hK hP (WC_D hap u) hS wl_X3_83 hl.1 (hC_6 u) (hC_8 u) q5 ⟨Nat.le_of_ble_eq_true rfl, Nat.le_of_ble_eq_true rfl⟩ dX3_copyTo_33 hu6 (cC_6_8 u _ _ _) (fun H locs hP hS => ?_)
          exact B_36 u6 h _ _ _ hP hS (lv_sub hl [] rfl)
theorem hy_X1_mark : yX1_mark.cls ≠ "java/lang/invoke/MethodHandle" ∧ yX1_mark.cls ≠ "java/lang/invoke/VarHandle" ∧ (parseMethodDescriptor yX1_mark.desc).map (fun d => d.parameters.length) = some 0 := by decide +kernel
set_option maxHeartbeats 4000000 in
set_option maxRecDepth 100000 in
theorem k_X1_mark {l : Launch} {dC : Nat → ClassId} {dI : Nat → Nat → Nat} {ad : Nat → Nat} {cI : ClassId} (hap : AP ad 14) {u uf : Wo} {rf : Int32} (h : fX1_mark u = some (rf, uf)) : CV l dC dI cI (WC ad cI) (AF ad 14) yX1_mark cX1_mark 1 none 2 49 [.ref (ad 4)] u uf := by
  refine cv_begin (by decide) (Nat.le_of_ble_eq_true rfl) ?_
  intro p e s m args below meth c S hr hlk hK
  intro H locs ls hP hS hl
  have hl : lv_has ls 1 [(0, .ref (ad 4))] := hl
  unfold fX1_mark at h
  refine lv_aload_n S.1 S.2.1 dX1_mark_0 rfl (lv_at hl 0 rfl) ?_
  refine gC_4_stand S hK hP wf_X1_9 dX1_mark_1 ?_
  refine lv_aload_n S.1 S.2.1 dX1_mark_4 rfl (lv_at hl 0 rfl) ?_
  refine gC_4_rows S hK hP wf_X1_15 dX1_mark_5 ?_
  refine lv_aload_n S.1 S.2.1 dX1_mark_8 rfl (lv_at hl 0 rfl) ?_
  refine gC_4_place S hK hP wf_X1_23 dX1_mark_9 ?_
  refine lv_sipush (v := (618 : Int32)) S.1 S.2.1 dX1_mark_12 (by decide) ?_
  refine lv_imul S.1 S.2.1 dX1_mark_15 ?_
  refine lv_sipush (v := (618 : Int32)) S.1 S.2.1 dX1_mark_16 (by decide) ?_
  obtain ⟨r2, u3, q1, h⟩ := bd_some h
  refine x_vv (Wf := WC ad cI) (q0 := 1) (ci := 3) (As := [.ref (ad 8), .int ((u 4 2) * (618 : Int32)), .int (618 : Int32)]) (rest := []) S hK hP hS (k_X3_copyTo_8 hap q1) rfl rfl wl_X1_26 wi_X3_copyTo ws_X3_copyTo wz_X3 wc_X3_copyTo hy_X3_copyTo ⟨Nat.le_of_ble_eq_true rfl, Nat.le_of_ble_eq_true rfl⟩ hl.1 rfl (Nat.le_of_ble_eq_true rfl) dX1_mark_19 (fun H locs hP hS => ?_)
  exact x_vret S hr hlk hK hP hS h dX1_mark_22
theorem hy_X3_queueOf : yX3_queueOf.cls ≠ "java/lang/invoke/MethodHandle" ∧ yX3_queueOf.cls ≠ "java/lang/invoke/VarHandle" ∧ (parseMethodDescriptor yX3_queueOf.desc).map (fun d => d.parameters.length) = some 1 := by decide +kernel
set_option maxHeartbeats 4000000 in
set_option maxRecDepth 100000 in
theorem k_X3_queueOf {l : Launch} {dC : Nat → ClassId} {dI : Nat → Nat → Nat} {ad : Nat → Nat} {cI : ClassId} (hap : AP ad 14) {x0 : Int32} {u uf : Wo} {rf : Int32} (h : fX3_queueOf x0 u = some (rf, uf)) : CI l dC dI cI (WC ad cI) (AF ad 14) yX3_queueOf cX3_queueOf 1 (some .int) 0 0 [.int x0] u rf uf := by
  refine ci_begin (by decide) (Nat.le_of_ble_eq_true rfl) ?_
  intro p e s m args below meth c S hr hlk hK
  intro H locs ls hP hS hl
  have hl : lv_has ls 1 [(0, .int x0)] := hl
  unfold fX3_queueOf at h
  refine lv_bipush (v := (98 : Int32)) S.1 S.2.1 dX3_queueOf_0 (by decide) ?_
  refine lv_iload_n S.1 S.2.1 dX3_queueOf_2 rfl (lv_at hl 0 rfl) ?_
  refine lv_bipush (v := (7 : Int32)) S.1 S.2.1 dX3_queueOf_3 (by decide) ?_
  refine lv_imul S.1 S.2.1 dX3_queueOf_5 ?_
  refine lv_iadd S.1 S.2.1 dX3_queueOf_6 ?_
  exact x_iret S hr hlk hK hP hS h dX3_queueOf_7
theorem hy_X3_append : yX3_append.cls ≠ "java/lang/invoke/MethodHandle" ∧ yX3_append.cls ≠ "java/lang/invoke/VarHandle" ∧ (parseMethodDescriptor yX3_append.desc).map (fun d => d.parameters.length) = some 3 := by decide +kernel
set_option maxHeartbeats 4000000 in
set_option maxRecDepth 100000 in
theorem k_X3_append {l : Launch} {dC : Nat → ClassId} {dI : Nat → Nat → Nat} {ad : Nat → Nat} {cI : ClassId} (hap : AP ad 14) {x1 x2 x3 : Int32} {u uf : Wo} {rf : Int32} (h : fX3_append x1 x2 x3 u = some (rf, uf)) : CI l dC dI cI (WC ad cI) (AF ad 14) yX3_append cX3_append 5 (some .boolean) 0 0 [.ref (ad 1), .int x1, .int x2, .int x3] u rf uf := by
  refine ci_begin (by decide) (Nat.le_of_ble_eq_true rfl) ?_
  intro p e s m args below meth c S hr hlk hK
  have B_15 : ∀ (u : Wo), fX3_append_15 u = some (rf, uf) → J p l e (rmk 0 0) s m args below meth c dC dI (WC ad cI) (AF ad 14) (MQ below (QI dC dI cI (WC ad cI) (AF ad 14) rf uf) args s 0 0 (AF ad 14)) u 15 5 [] [] := by
    intro u h H locs ls hP hS hl
    unfold fX3_append_15 at h
    refine lv_iconst (v := (0 : Int32)) S.1 S.2.1 dX3_append_15 (by decide) ?_
    exact x_zret S hr hlk hK hP hS (by decide) h dX3_append_16
  have B_36 : ∀ (u : Wo), fX3_append_36 u = some (rf, uf) → J p l e (rmk 0 0) s m args below meth c dC dI (WC ad cI) (AF ad 14) (MQ below (QI dC dI cI (WC ad cI) (AF ad 14) rf uf) args s 0 0 (AF ad 14)) u 36 5 [] [] := by
    intro u h H locs ls hP hS hl
    unfold fX3_append_36 at h
    refine lv_iconst (v := (0 : Int32)) S.1 S.2.1 dX3_append_36 (by decide) ?_
    exact x_zret S hr hlk hK hP hS (by decide) h dX3_append_37
  intro H locs ls hP hS hl
  have hl : lv_has ls 5 [(0, .ref (ad 1)), (1, .int x1), (2, .int x2), (3, .int x3)] := hl
  unfold fX3_append at h
  refine lv_iload_n S.1 S.2.1 dX3_append_0 rfl (lv_at hl 1 rfl) ?_
  refine lv_if_lt (tgt := 15) S.1 S.2.1 dX3_append_1 (by decide) (fun c1 => ?_) (fun c1 => ?_)
  · rw [if_pos c1] at h
    exact B_15 u h _ _ _ hP hS (lv_sub hl [] rfl)
  · rw [if_neg c1] at h
    refine lv_iload_n S.1 S.2.1 dX3_append_4 rfl (lv_at hl 1 rfl) ?_
    refine lv_iload_n S.1 S.2.1 dX3_append_5 rfl (lv_at hl 2 rfl) ?_
    refine lv_iadd S.1 S.2.1 dX3_append_6 ?_
    refine lv_aload_n S.1 S.2.1 dX3_append_7 rfl (lv_at hl 0 rfl) ?_
    refine gC_1_row S hK hP wf_X3_11 dX3_append_8 ?_
    refine nC_6 S hK hP dX3_append_11 ?_
    refine lv_icmp_lt (tgt := 17) S.1 S.2.1 dX3_append_12 (by decide) (fun c2 => ?_) (fun c2 => ?_)
    · rw [if_pos c2] at h
      refine lv_aload_n S.1 S.2.1 dX3_append_17 rfl (lv_at hl 0 rfl) ?_
      refine gC_1_row S hK hP wf_X3_11 dX3_append_18 ?_
      refine lv_iload_n S.1 S.2.1 dX3_append_21 rfl (lv_at hl 1 rfl) ?_
      obtain ⟨q3, h⟩ := gi_some h
      refine lC_6 S hK hP q3 dX3_append_22 ?_
      refine lv_istore (lv' := [(4, .int (u 6 (x1).toNatClampNeg)), (0, .ref (ad 1)), (1, .int x1), (2, .int x2), (3, .int x3)]) S.1 S.2.1 dX3_append_23 hl (by decide) rfl (fun ls hl => ?_)
      refine lv_iload S.1 S.2.1 dX3_append_25 (lv_at hl 0 rfl) ?_
      refine lv_if_lt (tgt := 36) S.1 S.2.1 dX3_append_27 (by decide) (fun c4 => ?_) (fun c4 => ?_)
      · rw [if_pos c4] at h
        exact B_36 u h _ _ _ hP hS (lv_sub hl [] rfl)
      · rw [if_neg c4] at h
        refine lv_iload S.1 S.2.1 dX3_append_30 (lv_at hl 0 rfl) ?_
        refine lv_iload_n S.1 S.2.1 dX3_append_32 rfl (lv_at hl 3 rfl) ?_
        refine lv_icmp_lt (tgt := 38) S.1 S.2.1 dX3_append_33 (by decide) (fun c5 => ?_) (fun c5 => ?_)
        · rw [if_pos c5] at h
          refine lv_aload_n S.1 S.2.1 dX3_append_38 rfl (lv_at hl 1 rfl) ?_
          refine gC_1_row S hK hP wf_X3_11 dX3_append_39 ?_
          refine lv_iload_n S.1 S.2.1 dX3_append_42 rfl (lv_at hl 2 rfl) ?_
          refine lv_iconst (v := (1 : Int32)) S.1 S.2.1 dX3_append_43 (by decide) ?_
          refine lv_iadd S.1 S.2.1 dX3_append_44 ?_
          refine lv_iload S.1 S.2.1 dX3_append_45 (lv_at hl 0 rfl) ?_
          refine lv_iadd S.1 S.2.1 dX3_append_47 ?_
          refine lv_iload_n S.1 S.2.1 dX3_append_48 rfl (lv_at hl 4 rfl) ?_
          obtain ⟨q6, h⟩ := gi_some h
          obtain ⟨u7, hu7, h⟩ := bw_some h
          refine tC_6 S hK hap hP hS q6 dX3_append_49 hu7 (fun H locs hP hS => ?_)
          refine lv_aload_n S.1 S.2.1 dX3_append_50 rfl (lv_at hl 1 rfl) ?_
          refine gC_1_row S hK hP wf_X3_11 dX3_append_51 ?_
          refine lv_iload_n S.1 S.2.1 dX3_append_54 rfl (lv_at hl 2 rfl) ?_
          refine lv_iload S.1 S.2.1 dX3_append_55 (lv_at hl 0 rfl) ?_
          refine lv_iconst (v := (1 : Int32)) S.1 S.2.1 dX3_append_57 (by decide) ?_
          refine lv_iadd S.1 S.2.1 dX3_append_58 ?_
          obtain ⟨q8, h⟩ := gi_some h
          obtain ⟨u9, hu9, h⟩ := bw_some h
          refine tC_6 S hK hap hP hS q8 dX3_append_59 hu9 (fun H locs hP hS => ?_)
          refine lv_iconst (v := (1 : Int32)) S.1 S.2.1 dX3_append_60 (by decide) ?_
          exact x_zret S hr hlk hK hP hS (by decide) h dX3_append_61
        · rw [if_neg c5] at h
          exact B_36 u h _ _ _ hP hS (lv_sub hl [] rfl)
    · rw [if_neg c2] at h
      exact B_15 u h _ _ _ hP hS (lv_sub hl [] rfl)
theorem hy_X4_queue : yX4_queue.cls ≠ "java/lang/invoke/MethodHandle" ∧ yX4_queue.cls ≠ "java/lang/invoke/VarHandle" ∧ (parseMethodDescriptor yX4_queue.desc).map (fun d => d.parameters.length) = some 2 := by decide +kernel
set_option maxHeartbeats 4000000 in
set_option maxRecDepth 100000 in
theorem k_X4_queue {l : Launch} {dC : Nat → ClassId} {dI : Nat → Nat → Nat} {ad : Nat → Nat} {cI : ClassId} (hap : AP ad 14) {x1 x2 : Int32} {u uf : Wo} {rf : Int32} (h : fX4_queue x1 x2 u = some (rf, uf)) : CV l dC dI cI (WC ad cI) (AF ad 14) yX4_queue cX4_queue 3 none 1 24 [.ref (ad 3), .int x1, .int x2] u uf := by
  refine cv_begin (by decide) (Nat.le_of_ble_eq_true rfl) ?_
  intro p e s m args below meth c S hr hlk hK
  intro H locs ls hP hS hl
  have hl : lv_has ls 3 [(0, .ref (ad 3)), (1, .int x1), (2, .int x2)] := hl
  unfold fX4_queue at h
  refine lv_aload_n S.1 S.2.1 dX4_queue_0 rfl (lv_at hl 0 rfl) ?_
  refine gC_3_stand S hK hP wf_X4_9 dX4_queue_1 ?_
  refine lv_iload_n S.1 S.2.1 dX4_queue_4 rfl (lv_at hl 1 rfl) ?_
  obtain ⟨r2, u3, q1, h⟩ := bd_some h
  refine x_si (Wf := WC ad cI) (As := [.int x1]) (rest := [.ref (ad 1)]) S hK hP hS (k_X3_queueOf hap q1) wl_X4_150 wt_X3_queueOf wz_X3 wc_X3_queueOf hy_X3_queueOf ⟨Nat.le_of_ble_eq_true rfl, Nat.le_of_ble_eq_true rfl⟩ hl.1 rfl (Nat.le_of_ble_eq_true rfl) dX4_queue_5 (fun H locs hP hS => ?_)
  refine lv_bipush (v := (6 : Int32)) S.1 S.2.1 dX4_queue_8 (by decide) ?_
  refine lv_iload_n S.1 S.2.1 dX4_queue_10 rfl (lv_at hl 2 rfl) ?_
  obtain ⟨r5, u6, q4, h⟩ := bd_some h
  refine x_vi (Wf := WC ad cI) (q0 := 1) (ci := 3) (As := [.int r2, .int (6 : Int32), .int x2]) (rest := []) S hK hP hS (k_X3_append hap q4) rfl rfl wl_X4_144 wi_X3_append ws_X3_append wz_X3 wc_X3_append hy_X3_append ⟨Nat.le_of_ble_eq_true rfl, Nat.le_of_ble_eq_true rfl⟩ hl.1 rfl (Nat.le_of_ble_eq_true rfl) dX4_queue_11 (fun H locs hP hS => ?_)
  refine lv_pop S.1 S.2.1 dX4_queue_14 rfl ?_
  exact x_vret S hr hlk hK hP hS h dX4_queue_15
theorem hy_X3_hasToken : yX3_hasToken.cls ≠ "java/lang/invoke/MethodHandle" ∧ yX3_hasToken.cls ≠ "java/lang/invoke/VarHandle" ∧ (parseMethodDescriptor yX3_hasToken.desc).map (fun d => d.parameters.length) = some 1 := by decide +kernel
set_option maxHeartbeats 4000000 in
set_option maxRecDepth 100000 in
theorem k_X3_hasToken {l : Launch} {dC : Nat → ClassId} {dI : Nat → Nat → Nat} {ad : Nat → Nat} {cI : ClassId} (hap : AP ad 14) {x1 : Int32} {u uf : Wo} {rf : Int32} (h : fX3_hasToken x1 u = some (rf, uf)) : CI l dC dI cI (WC ad cI) (AF ad 14) yX3_hasToken cX3_hasToken 2 (some .boolean) 2 43 [.ref (ad 1), .int x1] u rf uf := by
  refine ci_begin (by decide) (Nat.le_of_ble_eq_true rfl) ?_
  intro p e s m args below meth c S hr hlk hK
  have B_42 : ∀ (s0 : Int32) (u : Wo), fX3_hasToken_42 s0 u = some (rf, uf) → J p l e (rmk 2 43) s m args below meth c dC dI (WC ad cI) (AF ad 14) (MQ below (QI dC dI cI (WC ad cI) (AF ad 14) rf uf) args s 0 0 (AF ad 14)) u 42 2 [] [.int s0] := by
    intro s0 u h H locs ls hP hS hl
    unfold fX3_hasToken_42 at h
    obtain ⟨q3, h⟩ := gi_some h
    exact x_zret S hr hlk hK hP hS q3 h dX3_hasToken_42
  have B_41 : ∀ (u : Wo), fX3_hasToken_41 u = some (rf, uf) → J p l e (rmk 2 43) s m args below meth c dC dI (WC ad cI) (AF ad 14) (MQ below (QI dC dI cI (WC ad cI) (AF ad 14) rf uf) args s 0 0 (AF ad 14)) u 41 2 [] [] := by
    intro u h H locs ls hP hS hl
    unfold fX3_hasToken_41 at h
    refine lv_iconst (v := (0 : Int32)) S.1 S.2.1 dX3_hasToken_41 (by decide) ?_
    exact B_42 _ u h _ _ _ hP hS (lv_sub hl [] rfl)
  have B_37 : ∀ (u : Wo), fX3_hasToken_37 u = some (rf, uf) → J p l e (rmk 2 43) s m args below meth c dC dI (WC ad cI) (AF ad 14) (MQ below (QI dC dI cI (WC ad cI) (AF ad 14) rf uf) args s 0 0 (AF ad 14)) u 37 2 [] [] := by
    intro u h H locs ls hP hS hl
    unfold fX3_hasToken_37 at h
    refine lv_iconst (v := (1 : Int32)) S.1 S.2.1 dX3_hasToken_37 (by decide) ?_
    refine lv_goto (tgt := 42) S.1 S.2.1 dX3_hasToken_38 (by decide) ?_
    exact B_42 _ u h _ _ _ hP hS (lv_sub hl [] rfl)
  have B_18 : ∀ (x1 : Int32) (u : Wo), fX3_hasToken_18 x1 u = some (rf, uf) → J p l e (rmk 2 43) s m args below meth c dC dI (WC ad cI) (AF ad 14) (MQ below (QI dC dI cI (WC ad cI) (AF ad 14) rf uf) args s 0 0 (AF ad 14)) u 18 2 [(0, .ref (ad 1)), (1, .int x1)] [] := by
    intro x1 u h H locs ls hP hS hl
    unfold fX3_hasToken_18 at h
    refine lv_aload_n S.1 S.2.1 dX3_hasToken_18 rfl (lv_at hl 0 rfl) ?_
    refine gC_1_way S hK hP wf_X3_15 dX3_hasToken_19 ?_
    refine lv_iconst (v := (2 : Int32)) S.1 S.2.1 dX3_hasToken_22 (by decide) ?_
    refine lv_icmp_ne (tgt := 41) S.1 S.2.1 dX3_hasToken_23 (by decide) (fun c2 => ?_) (fun c2 => ?_)
    · rw [if_neg c2] at h
      exact B_41 u h _ _ _ hP hS (lv_sub hl [] rfl)
    · rw [if_pos c2] at h
      refine lv_aload_n S.1 S.2.1 dX3_hasToken_26 rfl (lv_at hl 0 rfl) ?_
      refine lv_iload_n S.1 S.2.1 dX3_hasToken_27 rfl (lv_at hl 1 rfl) ?_
      refine lv_bipush (v := (86 : Int32)) S.1 S.2.1 dX3_hasToken_28 (by decide) ?_
      obtain ⟨r5, u6, q4, h⟩ := bd_some h
      refine x_vi (Wf := WC ad cI) (q0 := 1) (ci := 3) (As := [.int x1, .int (86 : Int32)]) (rest := []) S hK hP hS (k_X3_of hap q4) rfl rfl wl_X3_66 wi_X3_of ws_X3_of wz_X3 wc_X3_of hy_X3_of ⟨Nat.le_of_ble_eq_true rfl, Nat.le_of_ble_eq_true rfl⟩ hl.1 rfl (Nat.le_of_ble_eq_true rfl) dX3_hasToken_30 (fun H locs hP hS => ?_)
      refine lv_iload_n S.1 S.2.1 dX3_hasToken_33 rfl (lv_at hl 1 rfl) ?_
      refine lv_icmp_ne (tgt := 41) S.1 S.2.1 dX3_hasToken_34 (by decide) (fun c7 => ?_) (fun c7 => ?_)
      · rw [if_neg c7] at h
        exact B_41 u6 h _ _ _ hP hS (lv_sub hl [] rfl)
      · rw [if_pos c7] at h
        exact B_37 u6 h _ _ _ hP hS (lv_sub hl [] rfl)
  intro H locs ls hP hS hl
  have hl : lv_has ls 2 [(0, .ref (ad 1)), (1, .int x1)] := hl
  unfold fX3_hasToken at h
  refine lv_aload_n S.1 S.2.1 dX3_hasToken_0 rfl (lv_at hl 0 rfl) ?_
  refine gC_1_way S hK hP wf_X3_15 dX3_hasToken_1 ?_
  refine lv_iconst (v := (1 : Int32)) S.1 S.2.1 dX3_hasToken_4 (by decide) ?_
  refine lv_icmp_ne (tgt := 18) S.1 S.2.1 dX3_hasToken_5 (by decide) (fun c1 => ?_) (fun c1 => ?_)
  · rw [if_neg c1] at h
    exact B_18 _ u h _ _ _ hP hS (lv_sub hl [0, 1] rfl)
  · rw [if_pos c1] at h
    refine lv_aload_n S.1 S.2.1 dX3_hasToken_8 rfl (lv_at hl 0 rfl) ?_
    refine lv_bipush (v := (30 : Int32)) S.1 S.2.1 dX3_hasToken_9 (by decide) ?_
    obtain ⟨r9, u10, q8, h⟩ := bd_some h
    refine x_vi (Wf := WC ad cI) (q0 := 1) (ci := 3) (As := [.int (30 : Int32)]) (rest := []) S hK hP hS (k_X3_get hap q8) rfl rfl wl_X3_36 wi_X3_get ws_X3_get wz_X3 wc_X3_get hy_X3_get ⟨Nat.le_of_ble_eq_true rfl, Nat.le_of_ble_eq_true rfl⟩ hl.1 rfl (Nat.le_of_ble_eq_true rfl) dX3_hasToken_11 (fun H locs hP hS => ?_)
    refine lv_iload_n S.1 S.2.1 dX3_hasToken_14 rfl (lv_at hl 1 rfl) ?_
    refine lv_icmp_eq (tgt := 37) S.1 S.2.1 dX3_hasToken_15 (by decide) (fun c11 => ?_) (fun c11 => ?_)
    · rw [if_pos c11] at h
      exact B_37 u10 h _ _ _ hP hS (lv_sub hl [] rfl)
    · rw [if_neg c11] at h
      exact B_18 _ u10 h _ _ _ hP hS (lv_sub hl [0, 1] rfl)
theorem hy_X3_lettersOf : yX3_lettersOf.cls ≠ "java/lang/invoke/MethodHandle" ∧ yX3_lettersOf.cls ≠ "java/lang/invoke/VarHandle" ∧ (parseMethodDescriptor yX3_lettersOf.desc).map (fun d => d.parameters.length) = some 2 := by decide +kernel
set_option maxHeartbeats 4000000 in
set_option maxRecDepth 100000 in
theorem k_X3_lettersOf {l : Launch} {dC : Nat → ClassId} {dI : Nat → Nat → Nat} {ad : Nat → Nat} {cI : ClassId} (hap : AP ad 14) {x0 x1 : Int32} {u uf : Wo} {rf : Int32} (h : fX3_lettersOf x0 x1 u = some (rf, uf)) : CI l dC dI cI (WC ad cI) (AF ad 14) yX3_lettersOf cX3_lettersOf 2 (some .int) 0 0 [.int x0, .int x1] u rf uf := by
  refine ci_begin (by decide) (Nat.le_of_ble_eq_true rfl) ?_
  intro p e s m args below meth c S hr hlk hK
  intro H locs ls hP hS hl
  have hl : lv_has ls 2 [(0, .int x0), (1, .int x1)] := hl
  unfold fX3_lettersOf at h
  refine lv_sipush (v := (140 : Int32)) S.1 S.2.1 dX3_lettersOf_0 (by decide) ?_
  refine lv_iload_n S.1 S.2.1 dX3_lettersOf_3 rfl (lv_at hl 0 rfl) ?_
  refine lv_bipush (v := (6 : Int32)) S.1 S.2.1 dX3_lettersOf_4 (by decide) ?_
  refine lv_imul S.1 S.2.1 dX3_lettersOf_6 ?_
  refine lv_iload_n S.1 S.2.1 dX3_lettersOf_7 rfl (lv_at hl 1 rfl) ?_
  refine lv_iadd S.1 S.2.1 dX3_lettersOf_8 ?_
  refine lv_bipush (v := (13 : Int32)) S.1 S.2.1 dX3_lettersOf_9 (by decide) ?_
  refine lv_imul S.1 S.2.1 dX3_lettersOf_11 ?_
  refine lv_iadd S.1 S.2.1 dX3_lettersOf_12 ?_
  exact x_iret S hr hlk hK hP hS h dX3_lettersOf_13
theorem hy_X3_send : yX3_send.cls ≠ "java/lang/invoke/MethodHandle" ∧ yX3_send.cls ≠ "java/lang/invoke/VarHandle" ∧ (parseMethodDescriptor yX3_send.desc).map (fun d => d.parameters.length) = some 4 := by decide +kernel
set_option maxHeartbeats 4000000 in
set_option maxRecDepth 100000 in
theorem k_X3_send {l : Launch} {dC : Nat → ClassId} {dI : Nat → Nat → Nat} {ad : Nat → Nat} {cI : ClassId} (hap : AP ad 14) {x1 x2 x3 x4 : Int32} {u uf : Wo} {rf : Int32} (h : fX3_send x1 x2 x3 x4 u = some (rf, uf)) : CV l dC dI cI (WC ad cI) (AF ad 14) yX3_send cX3_send 5 none 1 24 [.ref (ad 1), .int x1, .int x2, .int x3, .int x4] u uf := by
  refine cv_begin (by decide) (Nat.le_of_ble_eq_true rfl) ?_
  intro p e s m args below meth c S hr hlk hK
  have B_25 : ∀ (x3 : Int32) (u : Wo), fX3_send_25 x3 u = some (rf, uf) → J p l e (rmk 1 24) s m args below meth c dC dI (WC ad cI) (AF ad 14) (MQ below (QV dC dI cI (WC ad cI) (AF ad 14) uf) args s 0 0 (AF ad 14)) u 25 5 [(0, .ref (ad 1)), (3, .int x3)] [] := by
    intro x3 u h H locs ls hP hS hl
    unfold fX3_send_25 at h
    refine lv_aload_n S.1 S.2.1 dX3_send_25 rfl (lv_at hl 0 rfl) ?_
    refine lv_sipush (v := (608 : Int32)) S.1 S.2.1 dX3_send_26 (by decide) ?_
    refine lv_iload_n S.1 S.2.1 dX3_send_29 rfl (lv_at hl 1 rfl) ?_
    refine lv_iadd S.1 S.2.1 dX3_send_30 ?_
    refine lv_aload_n S.1 S.2.1 dX3_send_31 rfl (lv_at hl 0 rfl) ?_
    refine lv_sipush (v := (608 : Int32)) S.1 S.2.1 dX3_send_32 (by decide) ?_
    refine lv_iload_n S.1 S.2.1 dX3_send_35 rfl (lv_at hl 1 rfl) ?_
    refine lv_iadd S.1 S.2.1 dX3_send_36 ?_
    obtain ⟨r9, u10, q8, h⟩ := bd_some h
    refine x_vi (Wf := WC ad cI) (q0 := 1) (ci := 3) (As := [.int ((608 : Int32) + x3)]) (rest := [.int ((608 : Int32) + x3), .ref (ad 1)]) S hK hP hS (k_X3_get hap q8) rfl rfl wl_X3_36 wi_X3_get ws_X3_get wz_X3 wc_X3_get hy_X3_get ⟨Nat.le_of_ble_eq_true rfl, Nat.le_of_ble_eq_true rfl⟩ hl.1 rfl (Nat.le_of_ble_eq_true rfl) dX3_send_37 (fun H locs hP hS => ?_)
    refine lv_iconst (v := (1 : Int32)) S.1 S.2.1 dX3_send_40 (by decide) ?_
    refine lv_iadd S.1 S.2.1 dX3_send_41 ?_
    obtain ⟨r12, u13, q11, h⟩ := bd_some h
    refine x_vv (Wf := WC ad cI) (q0 := 1) (ci := 3) (As := [.int ((608 : Int32) + x3), .int (r9 + (1 : Int32))]) (rest := []) S hK hP hS (k_X3_put hap q11) rfl rfl wl_X3_40 wi_X3_put ws_X3_put wz_X3 wc_X3_put hy_X3_put ⟨Nat.le_of_ble_eq_true rfl, Nat.le_of_ble_eq_true rfl⟩ hl.1 rfl (Nat.le_of_ble_eq_true rfl) dX3_send_42 (fun H locs hP hS => ?_)
    exact x_vret S hr hlk hK hP hS h dX3_send_45
  intro H locs ls hP hS hl
  have hl : lv_has ls 5 [(0, .ref (ad 1)), (1, .int x1), (2, .int x2), (3, .int x3), (4, .int x4)] := hl
  unfold fX3_send at h
  refine lv_aload_n S.1 S.2.1 dX3_send_0 rfl (lv_at hl 0 rfl) ?_
  refine lv_iload_n S.1 S.2.1 dX3_send_1 rfl (lv_at hl 1 rfl) ?_
  refine lv_iload_n S.1 S.2.1 dX3_send_2 rfl (lv_at hl 2 rfl) ?_
  obtain ⟨r2, u3, q1, h⟩ := bd_some h
  refine x_si (Wf := WC ad cI) (As := [.int x1, .int x2]) (rest := [.ref (ad 1)]) S hK hP hS (k_X3_lettersOf hap q1) wl_X3_44 wt_X3_lettersOf wz_X3 wc_X3_lettersOf hy_X3_lettersOf ⟨Nat.le_of_ble_eq_true rfl, Nat.le_of_ble_eq_true rfl⟩ hl.1 rfl (Nat.le_of_ble_eq_true rfl) dX3_send_3 (fun H locs hP hS => ?_)
  refine lv_bipush (v := (12 : Int32)) S.1 S.2.1 dX3_send_6 (by decide) ?_
  refine lv_iload S.1 S.2.1 dX3_send_8 (lv_at hl 4 rfl) ?_
  refine lv_iconst (v := (2 : Int32)) S.1 S.2.1 dX3_send_10 (by decide) ?_
  refine lv_ishl S.1 S.2.1 dX3_send_11 ?_
  refine lv_iload_n S.1 S.2.1 dX3_send_12 rfl (lv_at hl 3 rfl) ?_
  refine lv_ior S.1 S.2.1 dX3_send_13 ?_
  obtain ⟨r5, u6, q4, h⟩ := bd_some h
  refine x_vi (Wf := WC ad cI) (q0 := 1) (ci := 3) (As := [.int r2, .int (12 : Int32), .int ((x4 <<< ((2 : Int32) &&& (31 : Int32))) ||| x3)]) (rest := []) S hK hP hS (k_X3_append hap q4) rfl rfl wl_X3_48 wi_X3_append ws_X3_append wz_X3 wc_X3_append hy_X3_append ⟨Nat.le_of_ble_eq_true rfl, Nat.le_of_ble_eq_true rfl⟩ hl.1 rfl (Nat.le_of_ble_eq_true rfl) dX3_send_14 (fun H locs hP hS => ?_)
  refine lv_if_ne (tgt := 25) S.1 S.2.1 dX3_send_17 (by decide) (fun c7 => ?_) (fun c7 => ?_)
  · rw [if_neg c7] at h
    exact B_25 _ u6 h _ _ _ hP hS (lv_sub hl [0, 3] rfl)
  · rw [if_pos c7] at h
    refine lv_aload_n S.1 S.2.1 dX3_send_20 rfl (lv_at hl 0 rfl) ?_
    refine lv_iconst (v := (1 : Int32)) S.1 S.2.1 dX3_send_21 (by decide) ?_
    obtain ⟨u14, hu14, h⟩ := bw_some h
    refine pC_1_tooMany S hK hap hP hS wf_X3_52 dX3_send_22 (by decide) hu14 (fun H locs hP hS => ?_)
    exact B_25 _ u14 h _ _ _ hP hS (lv_sub hl [0, 3] rfl)
theorem hy_X3_takeFirst : yX3_takeFirst.cls ≠ "java/lang/invoke/MethodHandle" ∧ yX3_takeFirst.cls ≠ "java/lang/invoke/VarHandle" ∧ (parseMethodDescriptor yX3_takeFirst.desc).map (fun d => d.parameters.length) = some 2 := by decide +kernel
set_option maxHeartbeats 4000000 in
set_option maxRecDepth 100000 in
theorem k_X3_takeFirst {l : Launch} {dC : Nat → ClassId} {dI : Nat → Nat → Nat} {ad : Nat → Nat} {cI : ClassId} (hap : AP ad 14) {x1 x2 : Int32} {u uf : Wo} {rf : Int32} (h : fX3_takeFirst x1 x2 u = some (rf, uf)) : CI l dC dI cI (WC ad cI) (AF ad 14) yX3_takeFirst cX3_takeFirst 6 (some .int) 1 22 [.ref (ad 1), .int x1, .int x2] u rf uf := by
  refine ci_begin (by decide) (Nat.le_of_ble_eq_true rfl) ?_
  intro p e s m args below meth c S hr hlk hK
  have B_25 : ∀ (x4 : Int32) (u : Wo), fX3_takeFirst_25 x4 u = some (rf, uf) → J p l e (rmk 1 22) s m args below meth c dC dI (WC ad cI) (AF ad 14) (MQ below (QI dC dI cI (WC ad cI) (AF ad 14) rf uf) args s 0 0 (AF ad 14)) u 25 6 [(4, .int x4)] [] := by
    intro x4 u h H locs ls hP hS hl
    unfold fX3_takeFirst_25 at h
    refine lv_iload S.1 S.2.1 dX3_takeFirst_25 (lv_at hl 0 rfl) ?_
    exact x_iret S hr hlk hK hP hS h dX3_takeFirst_27
  have B_31 : ∀ (k61 : Int32 → Int32 → Int32 → Wo → Re) (hk61 : ∀ (x1 : Int32) (x3 : Int32) (x4 : Int32) (u : Wo), k61 x1 x3 x4 u = some (rf, uf) → J p l e (rmk 1 22) s m args below meth c dC dI (WC ad cI) (AF ad 14) (MQ below (QI dC dI cI (WC ad cI) (AF ad 14) rf uf) args s 0 0 (AF ad 14)) u 61 6 [(0, .ref (ad 1)), (1, .int x1), (3, .int x3), (4, .int x4)] []) (n : Nat) (x1 : Int32) (x3 : Int32) (x4 : Int32) (x5 : Int32) (u : Wo), fX3_takeFirst_31 k61 n x1 x3 x4 x5 u = some (rf, uf) → J p l e (rmk 1 22) s m args below meth c dC dI (WC ad cI) (AF ad 14) (MQ below (QI dC dI cI (WC ad cI) (AF ad 14) rf uf) args s 0 0 (AF ad 14)) u 31 6 [(0, .ref (ad 1)), (1, .int x1), (3, .int x3), (4, .int x4), (5, .int x5)] [] := by
    intro k61 hk61
    intro n
    induction n with
    | zero => intro x1 x3 x4 x5 u h; cases h
    | succ n ih =>
      intro x1 x3 x4 x5 u h H locs ls hP hS hl
      rw [fX3_takeFirst_31.eq_2] at h
      refine lv_iload S.1 S.2.1 dX3_takeFirst_31 (lv_at hl 4 rfl) ?_
      refine lv_iload_n S.1 S.2.1 dX3_takeFirst_33 rfl (lv_at hl 2 rfl) ?_
      refine lv_icmp_ge (tgt := 61) S.1 S.2.1 dX3_takeFirst_34 (by decide) (fun c9 => ?_) (fun c9 => ?_)
      · rw [if_pos c9] at h
        exact hk61 _ _ _ u h _ _ _ hP hS (lv_sub hl [0, 1, 2, 3] rfl)
      · rw [if_neg c9] at h
        refine lv_aload_n S.1 S.2.1 dX3_takeFirst_37 rfl (lv_at hl 0 rfl) ?_
        refine lv_iload_n S.1 S.2.1 dX3_takeFirst_38 rfl (lv_at hl 1 rfl) ?_
        refine lv_iload S.1 S.2.1 dX3_takeFirst_39 (lv_at hl 4 rfl) ?_
        refine lv_iadd S.1 S.2.1 dX3_takeFirst_41 ?_
        refine lv_aload_n S.1 S.2.1 dX3_takeFirst_42 rfl (lv_at hl 0 rfl) ?_
        refine lv_iload_n S.1 S.2.1 dX3_takeFirst_43 rfl (lv_at hl 1 rfl) ?_
        refine lv_iload S.1 S.2.1 dX3_takeFirst_44 (lv_at hl 4 rfl) ?_
        refine lv_iadd S.1 S.2.1 dX3_takeFirst_46 ?_
        refine lv_iconst (v := (1 : Int32)) S.1 S.2.1 dX3_takeFirst_47 (by decide) ?_
        refine lv_iadd S.1 S.2.1 dX3_takeFirst_48 ?_
        obtain ⟨r11, u12, q10, h⟩ := bd_some h
        refine x_vi (Wf := WC ad cI) (q0 := 1) (ci := 3) (As := [.int ((x1 + x5) + (1 : Int32))]) (rest := [.int (x1 + x5), .ref (ad 1)]) S hK hP hS (k_X3_get hap q10) rfl rfl wl_X3_36 wi_X3_get ws_X3_get wz_X3 wc_X3_get hy_X3_get ⟨Nat.le_of_ble_eq_true rfl, Nat.le_of_ble_eq_true rfl⟩ hl.1 rfl (Nat.le_of_ble_eq_true rfl) dX3_takeFirst_49 (fun H locs hP hS => ?_)
        obtain ⟨r14, u15, q13, h⟩ := bd_some h
        refine x_vv (Wf := WC ad cI) (q0 := 1) (ci := 3) (As := [.int (x1 + x5), .int r11]) (rest := []) S hK hP hS (k_X3_put hap q13) rfl rfl wl_X3_40 wi_X3_put ws_X3_put wz_X3 wc_X3_put hy_X3_put ⟨Nat.le_of_ble_eq_true rfl, Nat.le_of_ble_eq_true rfl⟩ hl.1 rfl (Nat.le_of_ble_eq_true rfl) dX3_takeFirst_52 (fun H locs hP hS => ?_)
        refine lv_iinc (v := (x5 + (1 : Int32))) (lv' := [(5, .int (x5 + (1 : Int32))), (0, .ref (ad 1)), (1, .int x1), (3, .int x3), (4, .int x4)]) S.1 S.2.1 dX3_takeFirst_55 hl (k := 4) rfl rfl (by decide) rfl (fun ls hl => ?_)
        refine lv_goto (tgt := 31) S.1 S.2.1 dX3_takeFirst_58 (by decide) ?_
        exact ih _ _ _ _ u15 h _ _ _ hP hS (lv_sub hl [1, 2, 3, 4, 0] rfl)
  have B_61 : ∀ (x1 : Int32) (x3 : Int32) (x4 : Int32) (u : Wo), fX3_takeFirst_61 x1 x3 x4 u = some (rf, uf) → J p l e (rmk 1 22) s m args below meth c dC dI (WC ad cI) (AF ad 14) (MQ below (QI dC dI cI (WC ad cI) (AF ad 14) rf uf) args s 0 0 (AF ad 14)) u 61 6 [(0, .ref (ad 1)), (1, .int x1), (3, .int x3), (4, .int x4)] [] := by
    intro x1 x3 x4 u h H locs ls hP hS hl
    unfold fX3_takeFirst_61 at h
    refine lv_aload_n S.1 S.2.1 dX3_takeFirst_61 rfl (lv_at hl 0 rfl) ?_
    refine lv_iload_n S.1 S.2.1 dX3_takeFirst_62 rfl (lv_at hl 1 rfl) ?_
    refine lv_iload_n S.1 S.2.1 dX3_takeFirst_63 rfl (lv_at hl 2 rfl) ?_
    refine lv_iadd S.1 S.2.1 dX3_takeFirst_64 ?_
    refine lv_iconst (v := (0 : Int32)) S.1 S.2.1 dX3_takeFirst_65 (by decide) ?_
    obtain ⟨r17, u18, q16, h⟩ := bd_some h
    refine x_vv (Wf := WC ad cI) (q0 := 1) (ci := 3) (As := [.int (x1 + x3), .int (0 : Int32)]) (rest := []) S hK hP hS (k_X3_put hap q16) rfl rfl wl_X3_40 wi_X3_put ws_X3_put wz_X3 wc_X3_put hy_X3_put ⟨Nat.le_of_ble_eq_true rfl, Nat.le_of_ble_eq_true rfl⟩ hl.1 rfl (Nat.le_of_ble_eq_true rfl) dX3_takeFirst_66 (fun H locs hP hS => ?_)
    refine lv_aload_n S.1 S.2.1 dX3_takeFirst_69 rfl (lv_at hl 0 rfl) ?_
    refine lv_iload_n S.1 S.2.1 dX3_takeFirst_70 rfl (lv_at hl 1 rfl) ?_
    refine lv_iload_n S.1 S.2.1 dX3_takeFirst_71 rfl (lv_at hl 2 rfl) ?_
    refine lv_iconst (v := (1 : Int32)) S.1 S.2.1 dX3_takeFirst_72 (by decide) ?_
    refine lv_isub S.1 S.2.1 dX3_takeFirst_73 ?_
    obtain ⟨r20, u21, q19, h⟩ := bd_some h
    refine x_vv (Wf := WC ad cI) (q0 := 1) (ci := 3) (As := [.int x1, .int (x3 - (1 : Int32))]) (rest := []) S hK hP hS (k_X3_put hap q19) rfl rfl wl_X3_40 wi_X3_put ws_X3_put wz_X3 wc_X3_put hy_X3_put ⟨Nat.le_of_ble_eq_true rfl, Nat.le_of_ble_eq_true rfl⟩ hl.1 rfl (Nat.le_of_ble_eq_true rfl) dX3_takeFirst_74 (fun H locs hP hS => ?_)
    refine lv_iload S.1 S.2.1 dX3_takeFirst_77 (lv_at hl 3 rfl) ?_
    exact x_iret S hr hlk hK hP hS h dX3_takeFirst_79
  intro H locs ls hP hS hl
  have hl : lv_has ls 6 [(0, .ref (ad 1)), (1, .int x1), (2, .int x2)] := hl
  unfold fX3_takeFirst at h
  refine lv_aload_n S.1 S.2.1 dX3_takeFirst_0 rfl (lv_at hl 0 rfl) ?_
  refine lv_iload_n S.1 S.2.1 dX3_takeFirst_1 rfl (lv_at hl 1 rfl) ?_
  obtain ⟨r2, u3, q1, h⟩ := bd_some h
  refine x_vi (Wf := WC ad cI) (q0 := 1) (ci := 3) (As := [.int x1]) (rest := []) S hK hP hS (k_X3_get hap q1) rfl rfl wl_X3_36 wi_X3_get ws_X3_get wz_X3 wc_X3_get hy_X3_get ⟨Nat.le_of_ble_eq_true rfl, Nat.le_of_ble_eq_true rfl⟩ hl.1 rfl (Nat.le_of_ble_eq_true rfl) dX3_takeFirst_2 (fun H locs hP hS => ?_)
  refine lv_istore_n (lv' := [(3, .int r2), (0, .ref (ad 1)), (1, .int x1), (2, .int x2)]) S.1 S.2.1 dX3_takeFirst_5 rfl hl (by decide) rfl (fun ls hl => ?_)
  refine lv_aload_n S.1 S.2.1 dX3_takeFirst_6 rfl (lv_at hl 1 rfl) ?_
  refine lv_iload_n S.1 S.2.1 dX3_takeFirst_7 rfl (lv_at hl 2 rfl) ?_
  refine lv_iconst (v := (1 : Int32)) S.1 S.2.1 dX3_takeFirst_8 (by decide) ?_
  refine lv_iadd S.1 S.2.1 dX3_takeFirst_9 ?_
  obtain ⟨r5, u6, q4, h⟩ := bd_some h
  refine x_vi (Wf := WC ad cI) (q0 := 1) (ci := 3) (As := [.int (x1 + (1 : Int32))]) (rest := []) S hK hP hS (k_X3_get hap q4) rfl rfl wl_X3_36 wi_X3_get ws_X3_get wz_X3 wc_X3_get hy_X3_get ⟨Nat.le_of_ble_eq_true rfl, Nat.le_of_ble_eq_true rfl⟩ hl.1 rfl (Nat.le_of_ble_eq_true rfl) dX3_takeFirst_10 (fun H locs hP hS => ?_)
  refine lv_istore (lv' := [(4, .int r5), (3, .int r2), (0, .ref (ad 1)), (1, .int x1), (2, .int x2)]) S.1 S.2.1 dX3_takeFirst_13 hl (by decide) rfl (fun ls hl => ?_)
  refine lv_iload_n S.1 S.2.1 dX3_takeFirst_15 rfl (lv_at hl 1 rfl) ?_
  refine lv_iconst (v := (1 : Int32)) S.1 S.2.1 dX3_takeFirst_16 (by decide) ?_
  refine lv_icmp_lt (tgt := 25) S.1 S.2.1 dX3_takeFirst_17 (by decide) (fun c7 => ?_) (fun c7 => ?_)
  · rw [if_pos c7] at h
    exact B_25 _ u6 h _ _ _ hP hS (lv_sub hl [0] rfl)
  · rw [if_neg c7] at h
    refine lv_iload_n S.1 S.2.1 dX3_takeFirst_20 rfl (lv_at hl 1 rfl) ?_
    refine lv_iload_n S.1 S.2.1 dX3_takeFirst_21 rfl (lv_at hl 4 rfl) ?_
    refine lv_icmp_le (tgt := 28) S.1 S.2.1 dX3_takeFirst_22 (by decide) (fun c8 => ?_) (fun c8 => ?_)
    · rw [if_pos c8] at h
      refine lv_iconst (v := (1 : Int32)) S.1 S.2.1 dX3_takeFirst_28 (by decide) ?_
      refine lv_istore (lv' := [(5, .int (1 : Int32)), (4, .int r5), (3, .int r2), (0, .ref (ad 1)), (1, .int x1), (2, .int x2)]) S.1 S.2.1 dX3_takeFirst_29 hl (by decide) rfl (fun ls hl => ?_)
      exact B_31 _ B_61 FU _ _ _ _ u6 h _ _ _ hP hS (lv_sub hl [3, 4, 2, 1, 0] rfl)
    · rw [if_neg c8] at h
      exact B_25 _ u6 h _ _ _ hP hS (lv_sub hl [0] rfl)
theorem hy_X3_sentInAll : yX3_sentInAll.cls ≠ "java/lang/invoke/MethodHandle" ∧ yX3_sentInAll.cls ≠ "java/lang/invoke/VarHandle" ∧ (parseMethodDescriptor yX3_sentInAll.desc).map (fun d => d.parameters.length) = some 0 := by decide +kernel
set_option maxHeartbeats 4000000 in
set_option maxRecDepth 100000 in
theorem k_X3_sentInAll {l : Launch} {dC : Nat → ClassId} {dI : Nat → Nat → Nat} {ad : Nat → Nat} {cI : ClassId} (hap : AP ad 14) {u uf : Wo} {rf : Int32} (h : fX3_sentInAll u = some (rf, uf)) : CI l dC dI cI (WC ad cI) (AF ad 14) yX3_sentInAll cX3_sentInAll 1 (some .int) 1 21 [.ref (ad 1)] u rf uf := by
  refine ci_begin (by decide) (Nat.le_of_ble_eq_true rfl) ?_
  intro p e s m args below meth c S hr hlk hK
  intro H locs ls hP hS hl
  have hl : lv_has ls 1 [(0, .ref (ad 1))] := hl
  unfold fX3_sentInAll at h
  refine lv_aload_n S.1 S.2.1 dX3_sentInAll_0 rfl (lv_at hl 0 rfl) ?_
  refine lv_sipush (v := (608 : Int32)) S.1 S.2.1 dX3_sentInAll_1 (by decide) ?_
  obtain ⟨r2, u3, q1, h⟩ := bd_some h
  refine x_vi (Wf := WC ad cI) (q0 := 1) (ci := 3) (As := [.int (608 : Int32)]) (rest := []) S hK hP hS (k_X3_get hap q1) rfl rfl wl_X3_36 wi_X3_get ws_X3_get wz_X3 wc_X3_get hy_X3_get ⟨Nat.le_of_ble_eq_true rfl, Nat.le_of_ble_eq_true rfl⟩ hl.1 rfl (Nat.le_of_ble_eq_true rfl) dX3_sentInAll_4 (fun H locs hP hS => ?_)
  refine lv_aload_n S.1 S.2.1 dX3_sentInAll_7 rfl (lv_at hl 0 rfl) ?_
  refine lv_sipush (v := (609 : Int32)) S.1 S.2.1 dX3_sentInAll_8 (by decide) ?_
  obtain ⟨r5, u6, q4, h⟩ := bd_some h
  refine x_vi (Wf := WC ad cI) (q0 := 1) (ci := 3) (As := [.int (609 : Int32)]) (rest := [.int r2]) S hK hP hS (k_X3_get hap q4) rfl rfl wl_X3_36 wi_X3_get ws_X3_get wz_X3 wc_X3_get hy_X3_get ⟨Nat.le_of_ble_eq_true rfl, Nat.le_of_ble_eq_true rfl⟩ hl.1 rfl (Nat.le_of_ble_eq_true rfl) dX3_sentInAll_11 (fun H locs hP hS => ?_)
  refine lv_iadd S.1 S.2.1 dX3_sentInAll_14 ?_
  refine lv_aload_n S.1 S.2.1 dX3_sentInAll_15 rfl (lv_at hl 0 rfl) ?_
  refine lv_sipush (v := (610 : Int32)) S.1 S.2.1 dX3_sentInAll_16 (by decide) ?_
  obtain ⟨r8, u9, q7, h⟩ := bd_some h
  refine x_vi (Wf := WC ad cI) (q0 := 1) (ci := 3) (As := [.int (610 : Int32)]) (rest := [.int (r2 + r5)]) S hK hP hS (k_X3_get hap q7) rfl rfl wl_X3_36 wi_X3_get ws_X3_get wz_X3 wc_X3_get hy_X3_get ⟨Nat.le_of_ble_eq_true rfl, Nat.le_of_ble_eq_true rfl⟩ hl.1 rfl (Nat.le_of_ble_eq_true rfl) dX3_sentInAll_19 (fun H locs hP hS => ?_)
  refine lv_iadd S.1 S.2.1 dX3_sentInAll_22 ?_
  exact x_iret S hr hlk hK hP hS h dX3_sentInAll_23
theorem hy_X0_write : yX0_write.cls ≠ "java/lang/invoke/MethodHandle" ∧ yX0_write.cls ≠ "java/lang/invoke/VarHandle" ∧ (parseMethodDescriptor yX0_write.desc).map (fun d => d.parameters.length) = some 4 := by decide +kernel
set_option maxHeartbeats 4000000 in
set_option maxRecDepth 100000 in
theorem k_X0_write {l : Launch} {dC : Nat → ClassId} {dI : Nat → Nat → Nat} {ad : Nat → Nat} {cI : ClassId} (hap : AP ad 14) {x1 x2 x3 x4 : Int32} {u uf : Wo} {rf : Int32} (h : fX0_write x1 x2 x3 x4 u = some (rf, uf)) : CV l dC dI cI (WC ad cI) (AF ad 14) yX0_write cX0_write 6 none 0 0 [.ref (ad 2), .int x1, .int x2, .int x3, .int x4] u uf := by
  refine cv_begin (by decide) (Nat.le_of_ble_eq_true rfl) ?_
  intro p e s m args below meth c S hr hlk hK
  have B_54 : ∀ (u : Wo), fX0_write_54 u = some (rf, uf) → J p l e (rmk 0 0) s m args below meth c dC dI (WC ad cI) (AF ad 14) (MQ below (QV dC dI cI (WC ad cI) (AF ad 14) uf) args s 0 0 (AF ad 14)) u 54 6 [] [] := by
    intro u h H locs ls hP hS hl
    unfold fX0_write_54 at h
    exact x_vret S hr hlk hK hP hS h dX0_write_54
  intro H locs ls hP hS hl
  have hl : lv_has ls 6 [(0, .ref (ad 2)), (1, .int x1), (2, .int x2), (3, .int x3), (4, .int x4)] := hl
  unfold fX0_write at h
  refine lv_iload_n S.1 S.2.1 dX0_write_0 rfl (lv_at hl 1 rfl) ?_
  refine lv_bipush (v := (90 : Int32)) S.1 S.2.1 dX0_write_1 (by decide) ?_
  refine lv_irem S.1 S.2.1 dX0_write_3 (by decide) ?_
  refine lv_iconst (v := (3 : Int32)) S.1 S.2.1 dX0_write_4 (by decide) ?_
  refine lv_imul S.1 S.2.1 dX0_write_5 ?_
  obtain ⟨y1, hy1, h⟩ := bn_some h
  rw [hy1]
  refine lv_istore (lv' := [(5, .int y1), (0, .ref (ad 2)), (1, .int x1), (2, .int x2), (3, .int x3), (4, .int x4)]) S.1 S.2.1 dX0_write_6 hl (by decide) rfl (fun ls hl => ?_)
  refine lv_iload S.1 S.2.1 dX0_write_8 (lv_at hl 0 rfl) ?_
  refine lv_if_lt (tgt := 54) S.1 S.2.1 dX0_write_10 (by decide) (fun c2 => ?_) (fun c2 => ?_)
  · rw [if_pos c2] at h
    exact B_54 u h _ _ _ hP hS (lv_sub hl [] rfl)
  · rw [if_neg c2] at h
    refine lv_iload S.1 S.2.1 dX0_write_13 (lv_at hl 0 rfl) ?_
    refine lv_iconst (v := (2 : Int32)) S.1 S.2.1 dX0_write_15 (by decide) ?_
    refine lv_iadd S.1 S.2.1 dX0_write_16 ?_
    refine lv_aload_n S.1 S.2.1 dX0_write_17 rfl (lv_at hl 1 rfl) ?_
    refine gC_2_lines S hK hP wf_X0_11 dX0_write_18 ?_
    refine nC_7 S hK hP dX0_write_21 ?_
    refine lv_icmp_ge (tgt := 54) S.1 S.2.1 dX0_write_22 (by decide) (fun c3 => ?_) (fun c3 => ?_)
    · rw [if_pos c3] at h
      exact B_54 u h _ _ _ hP hS (lv_sub hl [] rfl)
    · rw [if_neg c3] at h
      refine lv_aload_n S.1 S.2.1 dX0_write_25 rfl (lv_at hl 1 rfl) ?_
      refine gC_2_lines S hK hP wf_X0_11 dX0_write_26 ?_
      refine lv_iload S.1 S.2.1 dX0_write_29 (lv_at hl 0 rfl) ?_
      refine lv_iload_n S.1 S.2.1 dX0_write_31 rfl (lv_at hl 3 rfl) ?_
      obtain ⟨q4, h⟩ := gi_some h
      obtain ⟨u5, hu5, h⟩ := bw_some h
      refine tC_7 S hK hap hP hS q4 dX0_write_32 hu5 (fun H locs hP hS => ?_)
      refine lv_aload_n S.1 S.2.1 dX0_write_33 rfl (lv_at hl 1 rfl) ?_
      refine gC_2_lines S hK hP wf_X0_11 dX0_write_34 ?_
      refine lv_iload S.1 S.2.1 dX0_write_37 (lv_at hl 0 rfl) ?_
      refine lv_iconst (v := (1 : Int32)) S.1 S.2.1 dX0_write_39 (by decide) ?_
      refine lv_iadd S.1 S.2.1 dX0_write_40 ?_
      refine lv_iload_n S.1 S.2.1 dX0_write_41 rfl (lv_at hl 4 rfl) ?_
      obtain ⟨q6, h⟩ := gi_some h
      obtain ⟨u7, hu7, h⟩ := bw_some h
      refine tC_7 S hK hap hP hS q6 dX0_write_42 hu7 (fun H locs hP hS => ?_)
      refine lv_aload_n S.1 S.2.1 dX0_write_43 rfl (lv_at hl 1 rfl) ?_
      refine gC_2_lines S hK hP wf_X0_11 dX0_write_44 ?_
      refine lv_iload S.1 S.2.1 dX0_write_47 (lv_at hl 0 rfl) ?_
      refine lv_iconst (v := (2 : Int32)) S.1 S.2.1 dX0_write_49 (by decide) ?_
      refine lv_iadd S.1 S.2.1 dX0_write_50 ?_
      refine lv_iload S.1 S.2.1 dX0_write_51 (lv_at hl 5 rfl) ?_
      obtain ⟨q8, h⟩ := gi_some h
      obtain ⟨u9, hu9, h⟩ := bw_some h
      refine tC_7 S hK hap hP hS q8 dX0_write_53 hu9 (fun H locs hP hS => ?_)
      exact B_54 u9 h _ _ _ hP hS (lv_sub hl [] rfl)
theorem hy_X4_enter : yX4_enter.cls ≠ "java/lang/invoke/MethodHandle" ∧ yX4_enter.cls ≠ "java/lang/invoke/VarHandle" ∧ (parseMethodDescriptor yX4_enter.desc).map (fun d => d.parameters.length) = some 1 := by decide +kernel
set_option maxHeartbeats 4000000 in
set_option maxRecDepth 100000 in
theorem k_X4_enter {l : Launch} {dC : Nat → ClassId} {dI : Nat → Nat → Nat} {ad : Nat → Nat} {cI : ClassId} (hap : AP ad 14) {x1 : Int32} {u uf : Wo} {rf : Int32} (h : fX4_enter x1 u = some (rf, uf)) : CV l dC dI cI (WC ad cI) (AF ad 14) yX4_enter cX4_enter 3 none 2 45 [.ref (ad 3), .int x1] u uf := by
  refine cv_begin (by decide) (Nat.le_of_ble_eq_true rfl) ?_
  intro p e s m args below meth c S hr hlk hK
  have B_71 : ∀ (u : Wo), fX4_enter_71 u = some (rf, uf) → J p l e (rmk 2 45) s m args below meth c dC dI (WC ad cI) (AF ad 14) (MQ below (QV dC dI cI (WC ad cI) (AF ad 14) uf) args s 0 0 (AF ad 14)) u 71 3 [] [] := by
    intro u h H locs ls hP hS hl
    unfold fX4_enter_71 at h
    exact x_vret S hr hlk hK hP hS h dX4_enter_71
  intro H locs ls hP hS hl
  have hl : lv_has ls 3 [(0, .ref (ad 3)), (1, .int x1)] := hl
  unfold fX4_enter at h
  refine lv_aload_n S.1 S.2.1 dX4_enter_0 rfl (lv_at hl 0 rfl) ?_
  refine gC_3_stand S hK hP wf_X4_9 dX4_enter_1 ?_
  refine lv_iload_n S.1 S.2.1 dX4_enter_4 rfl (lv_at hl 1 rfl) ?_
  refine lv_iconst (v := (0 : Int32)) S.1 S.2.1 dX4_enter_5 (by decide) ?_
  refine lv_iconst (v := (2 : Int32)) S.1 S.2.1 dX4_enter_6 (by decide) ?_
  obtain ⟨r2, u3, q1, h⟩ := bd_some h
  refine x_vv (Wf := WC ad cI) (q0 := 1) (ci := 3) (As := [.int x1, .int (0 : Int32), .int (2 : Int32)]) (rest := []) S hK hP hS (k_X3_set hap q1) rfl rfl wl_X4_28 wi_X3_set ws_X3_set wz_X3 wc_X3_set hy_X3_set ⟨Nat.le_of_ble_eq_true rfl, Nat.le_of_ble_eq_true rfl⟩ hl.1 rfl (Nat.le_of_ble_eq_true rfl) dX4_enter_7 (fun H locs hP hS => ?_)
  refine lv_aload_n S.1 S.2.1 dX4_enter_10 rfl (lv_at hl 0 rfl) ?_
  refine gC_3_writing S hK hP wf_X4_19 dX4_enter_11 ?_
  refine lv_if_eq (tgt := 71) S.1 S.2.1 dX4_enter_14 (by decide) (fun c4 => ?_) (fun c4 => ?_)
  · rw [if_pos c4] at h
    exact B_71 u3 h _ _ _ hP hS (lv_sub hl [] rfl)
  · rw [if_neg c4] at h
    refine lv_aload_n S.1 S.2.1 dX4_enter_17 rfl (lv_at hl 0 rfl) ?_
    refine gC_3_stand S hK hP wf_X4_9 dX4_enter_18 ?_
    refine lv_sipush (v := (611 : Int32)) S.1 S.2.1 dX4_enter_21 (by decide) ?_
    obtain ⟨r6, u7, q5, h⟩ := bd_some h
    refine x_vi (Wf := WC ad cI) (q0 := 1) (ci := 3) (As := [.int (611 : Int32)]) (rest := []) S hK hP hS (k_X3_get hap q5) rfl rfl wl_X4_32 wi_X3_get ws_X3_get wz_X3 wc_X3_get hy_X3_get ⟨Nat.le_of_ble_eq_true rfl, Nat.le_of_ble_eq_true rfl⟩ hl.1 rfl (Nat.le_of_ble_eq_true rfl) dX4_enter_24 (fun H locs hP hS => ?_)
    refine lv_istore_n (lv' := [(2, .int r6), (0, .ref (ad 3)), (1, .int x1)]) S.1 S.2.1 dX4_enter_27 rfl hl (by decide) rfl (fun ls hl => ?_)
    refine lv_aload_n S.1 S.2.1 dX4_enter_28 rfl (lv_at hl 1 rfl) ?_
    refine gC_3_book S hK hP wf_X4_15 dX4_enter_29 ?_
    refine lv_iload_n S.1 S.2.1 dX4_enter_32 rfl (lv_at hl 0 rfl) ?_
    refine lv_iload_n S.1 S.2.1 dX4_enter_33 rfl (lv_at hl 2 rfl) ?_
    refine lv_iload_n S.1 S.2.1 dX4_enter_34 rfl (lv_at hl 0 rfl) ?_
    refine lv_aload_n S.1 S.2.1 dX4_enter_35 rfl (lv_at hl 1 rfl) ?_
    refine gC_3_stand S hK hP wf_X4_9 dX4_enter_36 ?_
    refine lv_sipush (v := (612 : Int32)) S.1 S.2.1 dX4_enter_39 (by decide) ?_
    refine lv_iload_n S.1 S.2.1 dX4_enter_42 rfl (lv_at hl 2 rfl) ?_
    refine lv_iadd S.1 S.2.1 dX4_enter_43 ?_
    obtain ⟨r9, u10, q8, h⟩ := bd_some h
    refine x_vi (Wf := WC ad cI) (q0 := 1) (ci := 3) (As := [.int ((612 : Int32) + x1)]) (rest := [.int r6, .int x1, .int r6, .ref (ad 2)]) S hK hP hS (k_X3_get hap q8) rfl rfl wl_X4_32 wi_X3_get ws_X3_get wz_X3 wc_X3_get hy_X3_get ⟨Nat.le_of_ble_eq_true rfl, Nat.le_of_ble_eq_true rfl⟩ hl.1 rfl (Nat.le_of_ble_eq_true rfl) dX4_enter_44 (fun H locs hP hS => ?_)
    refine lv_isub S.1 S.2.1 dX4_enter_47 ?_
    refine lv_aload_n S.1 S.2.1 dX4_enter_48 rfl (lv_at hl 1 rfl) ?_
    refine gC_3_stand S hK hP wf_X4_9 dX4_enter_49 ?_
    obtain ⟨r12, u13, q11, h⟩ := bd_some h
    refine x_vi (Wf := WC ad cI) (q0 := 1) (ci := 3) (As := []) (rest := [.int (r6 - r9), .int x1, .int r6, .ref (ad 2)]) S hK hP hS (k_X3_sentInAll hap q11) rfl rfl wl_X4_96 wi_X3_sentInAll ws_X3_sentInAll wz_X3 wc_X3_sentInAll hy_X3_sentInAll ⟨Nat.le_of_ble_eq_true rfl, Nat.le_of_ble_eq_true rfl⟩ hl.1 rfl (Nat.le_of_ble_eq_true rfl) dX4_enter_52 (fun H locs hP hS => ?_)
    obtain ⟨r15, u16, q14, h⟩ := bd_some h
    refine x_vv (Wf := WC ad cI) (q0 := 2) (ci := 0) (As := [.int r6, .int x1, .int (r6 - r9), .int r12]) (rest := []) S hK hP hS (k_X0_write hap q14) rfl rfl wl_X4_100 wi_X0_write ws_X0_write wz_X0 wc_X0_write hy_X0_write ⟨Nat.le_of_ble_eq_true rfl, Nat.le_of_ble_eq_true rfl⟩ hl.1 rfl (Nat.le_of_ble_eq_true rfl) dX4_enter_55 (fun H locs hP hS => ?_)
    refine lv_aload_n S.1 S.2.1 dX4_enter_58 rfl (lv_at hl 1 rfl) ?_
    refine gC_3_stand S hK hP wf_X4_9 dX4_enter_59 ?_
    refine lv_sipush (v := (611 : Int32)) S.1 S.2.1 dX4_enter_62 (by decide) ?_
    refine lv_iload_n S.1 S.2.1 dX4_enter_65 rfl (lv_at hl 0 rfl) ?_
    refine lv_iconst (v := (1 : Int32)) S.1 S.2.1 dX4_enter_66 (by decide) ?_
    refine lv_iadd S.1 S.2.1 dX4_enter_67 ?_
    obtain ⟨r18, u19, q17, h⟩ := bd_some h
    refine x_vv (Wf := WC ad cI) (q0 := 1) (ci := 3) (As := [.int (611 : Int32), .int (r6 + (1 : Int32))]) (rest := []) S hK hP hS (k_X3_put hap q17) rfl rfl wl_X4_36 wi_X3_put ws_X3_put wz_X3 wc_X3_put hy_X3_put ⟨Nat.le_of_ble_eq_true rfl, Nat.le_of_ble_eq_true rfl⟩ hl.1 rfl (Nat.le_of_ble_eq_true rfl) dX4_enter_68 (fun H locs hP hS => ?_)
    exact B_71 u19 h _ _ _ hP hS (lv_sub hl [] rfl)
theorem hy_X4_followRules : yX4_followRules.cls ≠ "java/lang/invoke/MethodHandle" ∧ yX4_followRules.cls ≠ "java/lang/invoke/VarHandle" ∧ (parseMethodDescriptor yX4_followRules.desc).map (fun d => d.parameters.length) = some 1 := by decide +kernel
set_option maxHeartbeats 4000000 in
set_option maxRecDepth 100000 in
theorem k_X4_followRules {l : Launch} {dC : Nat → ClassId} {dI : Nat → Nat → Nat} {ad : Nat → Nat} {cI : ClassId} (hap : AP ad 14) {x1 : Int32} {u uf : Wo} {rf : Int32} (h : fX4_followRules x1 u = some (rf, uf)) : CV l dC dI cI (WC ad cI) (AF ad 14) yX4_followRules cX4_followRules 4 none 3 67 [.ref (ad 3), .int x1] u uf := by
  refine cv_begin (by decide) (Nat.le_of_ble_eq_true rfl) ?_
  intro p e s m args below meth c S hr hlk hK
  have B_187 : ∀ (u : Wo), fX4_followRules_187 u = some (rf, uf) → J p l e (rmk 3 67) s m args below meth c dC dI (WC ad cI) (AF ad 14) (MQ below (QV dC dI cI (WC ad cI) (AF ad 14) uf) args s 0 0 (AF ad 14)) u 187 4 [] [] := by
    intro u h H locs ls hP hS hl
    unfold fX4_followRules_187 at h
    exact x_vret S hr hlk hK hP hS h dX4_followRules_187
  have B_126 : ∀ (x1 : Int32) (s0 : Int32) (u : Wo), fX4_followRules_126 x1 s0 u = some (rf, uf) → J p l e (rmk 3 67) s m args below meth c dC dI (WC ad cI) (AF ad 14) (MQ below (QV dC dI cI (WC ad cI) (AF ad 14) uf) args s 0 0 (AF ad 14)) u 126 4 [(0, .ref (ad 3)), (1, .int x1)] [.int s0] := by
    intro x1 s0 u h H locs ls hP hS hl
    unfold fX4_followRules_126 at h
    refine lv_istore_n (lv' := [(3, .int s0), (0, .ref (ad 3)), (1, .int x1)]) S.1 S.2.1 dX4_followRules_126 rfl hl (by decide) rfl (fun ls hl => ?_)
    refine lv_aload_n S.1 S.2.1 dX4_followRules_127 rfl (lv_at hl 1 rfl) ?_
    refine gC_3_stand S hK hP wf_X4_9 dX4_followRules_128 ?_
    refine lv_iload_n S.1 S.2.1 dX4_followRules_131 rfl (lv_at hl 2 rfl) ?_
    obtain ⟨r14, u15, q13, h⟩ := bd_some h
    refine x_vi (Wf := WC ad cI) (q0 := 1) (ci := 3) (As := [.int x1]) (rest := []) S hK hP hS (k_X3_hasToken hap q13) rfl rfl wl_X4_124 wi_X3_hasToken ws_X3_hasToken wz_X3 wc_X3_hasToken hy_X3_hasToken ⟨Nat.le_of_ble_eq_true rfl, Nat.le_of_ble_eq_true rfl⟩ hl.1 rfl (Nat.le_of_ble_eq_true rfl) dX4_followRules_132 (fun H locs hP hS => ?_)
    refine lv_if_ne (tgt := 187) S.1 S.2.1 dX4_followRules_135 (by decide) (fun c16 => ?_) (fun c16 => ?_)
    · rw [if_neg c16] at h
      exact B_187 u15 h _ _ _ hP hS (lv_sub hl [] rfl)
    · rw [if_pos c16] at h
      refine lv_aload_n S.1 S.2.1 dX4_followRules_138 rfl (lv_at hl 1 rfl) ?_
      refine gC_3_stand S hK hP wf_X4_9 dX4_followRules_139 ?_
      refine lv_iload_n S.1 S.2.1 dX4_followRules_142 rfl (lv_at hl 2 rfl) ?_
      obtain ⟨r18, u19, q17, h⟩ := bd_some h
      refine x_si (Wf := WC ad cI) (As := [.int x1]) (rest := [.ref (ad 1)]) S hK hP hS (k_X3_queueOf hap q17) wl_X4_150 wt_X3_queueOf wz_X3 wc_X3_queueOf hy_X3_queueOf ⟨Nat.le_of_ble_eq_true rfl, Nat.le_of_ble_eq_true rfl⟩ hl.1 rfl (Nat.le_of_ble_eq_true rfl) dX4_followRules_143 (fun H locs hP hS => ?_)
      obtain ⟨r21, u22, q20, h⟩ := bd_some h
      refine x_vi (Wf := WC ad cI) (q0 := 1) (ci := 3) (As := [.int r18]) (rest := []) S hK hP hS (k_X3_get hap q20) rfl rfl wl_X4_32 wi_X3_get ws_X3_get wz_X3 wc_X3_get hy_X3_get ⟨Nat.le_of_ble_eq_true rfl, Nat.le_of_ble_eq_true rfl⟩ hl.1 rfl (Nat.le_of_ble_eq_true rfl) dX4_followRules_146 (fun H locs hP hS => ?_)
      refine lv_if_le (tgt := 187) S.1 S.2.1 dX4_followRules_149 (by decide) (fun c23 => ?_) (fun c23 => ?_)
      · rw [if_pos c23] at h
        exact B_187 u22 h _ _ _ hP hS (lv_sub hl [] rfl)
      · rw [if_neg c23] at h
        refine lv_iload_n S.1 S.2.1 dX4_followRules_152 rfl (lv_at hl 0 rfl) ?_
        refine lv_if_ne (tgt := 187) S.1 S.2.1 dX4_followRules_153 (by decide) (fun c24 => ?_) (fun c24 => ?_)
        · rw [if_neg c24] at h
          exact B_187 u22 h _ _ _ hP hS (lv_sub hl [] rfl)
        · rw [if_pos c24] at h
          refine lv_aload_n S.1 S.2.1 dX4_followRules_156 rfl (lv_at hl 1 rfl) ?_
          refine gC_3_stand S hK hP wf_X4_9 dX4_followRules_157 ?_
          refine lv_iload_n S.1 S.2.1 dX4_followRules_160 rfl (lv_at hl 2 rfl) ?_
          refine lv_aload_n S.1 S.2.1 dX4_followRules_161 rfl (lv_at hl 1 rfl) ?_
          refine gC_3_stand S hK hP wf_X4_9 dX4_followRules_162 ?_
          refine lv_iload_n S.1 S.2.1 dX4_followRules_165 rfl (lv_at hl 2 rfl) ?_
          refine lv_bipush (v := (86 : Int32)) S.1 S.2.1 dX4_followRules_166 (by decide) ?_
          obtain ⟨r26, u27, q25, h⟩ := bd_some h
          refine x_vi (Wf := WC ad cI) (q0 := 1) (ci := 3) (As := [.int x1, .int (86 : Int32)]) (rest := [.int x1, .ref (ad 1)]) S hK hP hS (k_X3_of hap q25) rfl rfl wl_X4_85 wi_X3_of ws_X3_of wz_X3 wc_X3_of hy_X3_of ⟨Nat.le_of_ble_eq_true rfl, Nat.le_of_ble_eq_true rfl⟩ hl.1 rfl (Nat.le_of_ble_eq_true rfl) dX4_followRules_168 (fun H locs hP hS => ?_)
          refine lv_iconst (v := (0 : Int32)) S.1 S.2.1 dX4_followRules_171 (by decide) ?_
          refine lv_iconst (v := (0 : Int32)) S.1 S.2.1 dX4_followRules_172 (by decide) ?_
          obtain ⟨r29, u30, q28, h⟩ := bd_some h
          refine x_vv (Wf := WC ad cI) (q0 := 1) (ci := 3) (As := [.int x1, .int r26, .int (0 : Int32), .int (0 : Int32)]) (rest := []) S hK hP hS (k_X3_send hap q28) rfl rfl wl_X4_118 wi_X3_send ws_X3_send wz_X3 wc_X3_send hy_X3_send ⟨Nat.le_of_ble_eq_true rfl, Nat.le_of_ble_eq_true rfl⟩ hl.1 rfl (Nat.le_of_ble_eq_true rfl) dX4_followRules_173 (fun H locs hP hS => ?_)
          refine lv_aload_n S.1 S.2.1 dX4_followRules_176 rfl (lv_at hl 1 rfl) ?_
          refine gC_3_stand S hK hP wf_X4_9 dX4_followRules_177 ?_
          refine lv_iload_n S.1 S.2.1 dX4_followRules_180 rfl (lv_at hl 2 rfl) ?_
          refine lv_bipush (v := (92 : Int32)) S.1 S.2.1 dX4_followRules_181 (by decide) ?_
          refine lv_iconst (v := (1 : Int32)) S.1 S.2.1 dX4_followRules_183 (by decide) ?_
          obtain ⟨r32, u33, q31, h⟩ := bd_some h
          refine x_vv (Wf := WC ad cI) (q0 := 1) (ci := 3) (As := [.int x1, .int (92 : Int32), .int (1 : Int32)]) (rest := []) S hK hP hS (k_X3_set hap q31) rfl rfl wl_X4_28 wi_X3_set ws_X3_set wz_X3 wc_X3_set hy_X3_set ⟨Nat.le_of_ble_eq_true rfl, Nat.le_of_ble_eq_true rfl⟩ hl.1 rfl (Nat.le_of_ble_eq_true rfl) dX4_followRules_184 (fun H locs hP hS => ?_)
          exact B_187 u33 h _ _ _ hP hS (lv_sub hl [] rfl)
  have B_108 : ∀ (x1 : Int32) (u : Wo), fX4_followRules_108 x1 u = some (rf, uf) → J p l e (rmk 3 67) s m args below meth c dC dI (WC ad cI) (AF ad 14) (MQ below (QV dC dI cI (WC ad cI) (AF ad 14) uf) args s 0 0 (AF ad 14)) u 108 4 [(0, .ref (ad 3)), (1, .int x1)] [] := by
    intro x1 u h H locs ls hP hS hl
    unfold fX4_followRules_108 at h
    refine lv_aload_n S.1 S.2.1 dX4_followRules_108 rfl (lv_at hl 0 rfl) ?_
    refine gC_3_stand S hK hP wf_X4_9 dX4_followRules_109 ?_
    refine lv_iload_n S.1 S.2.1 dX4_followRules_112 rfl (lv_at hl 1 rfl) ?_
    refine lv_bipush (v := (92 : Int32)) S.1 S.2.1 dX4_followRules_113 (by decide) ?_
    obtain ⟨r10, u11, q9, h⟩ := bd_some h
    refine x_vi (Wf := WC ad cI) (q0 := 1) (ci := 3) (As := [.int x1, .int (92 : Int32)]) (rest := []) S hK hP hS (k_X3_of hap q9) rfl rfl wl_X4_85 wi_X3_of ws_X3_of wz_X3 wc_X3_of hy_X3_of ⟨Nat.le_of_ble_eq_true rfl, Nat.le_of_ble_eq_true rfl⟩ hl.1 rfl (Nat.le_of_ble_eq_true rfl) dX4_followRules_115 (fun H locs hP hS => ?_)
    refine lv_if_eq (tgt := 125) S.1 S.2.1 dX4_followRules_118 (by decide) (fun c12 => ?_) (fun c12 => ?_)
    · rw [if_pos c12] at h
      refine lv_iconst (v := (0 : Int32)) S.1 S.2.1 dX4_followRules_125 (by decide) ?_
      exact B_126 _ _ u11 h _ _ _ hP hS (lv_sub hl [0, 1] rfl)
    · rw [if_neg c12] at h
      refine lv_iconst (v := (1 : Int32)) S.1 S.2.1 dX4_followRules_121 (by decide) ?_
      refine lv_goto (tgt := 126) S.1 S.2.1 dX4_followRules_122 (by decide) ?_
      exact B_126 _ _ u11 h _ _ _ hP hS (lv_sub hl [0, 1] rfl)
  have B_18 : ∀ (x1 : Int32) (s0 : Int32) (u : Wo), fX4_followRules_18 x1 s0 u = some (rf, uf) → J p l e (rmk 3 67) s m args below meth c dC dI (WC ad cI) (AF ad 14) (MQ below (QV dC dI cI (WC ad cI) (AF ad 14) uf) args s 0 0 (AF ad 14)) u 18 4 [(0, .ref (ad 3)), (1, .int x1)] [.int s0] := by
    intro x1 s0 u h H locs ls hP hS hl
    unfold fX4_followRules_18 at h
    refine lv_istore_n (lv' := [(2, .int s0), (0, .ref (ad 3)), (1, .int x1)]) S.1 S.2.1 dX4_followRules_18 rfl hl (by decide) rfl (fun ls hl => ?_)
    refine lv_aload_n S.1 S.2.1 dX4_followRules_19 rfl (lv_at hl 1 rfl) ?_
    refine gC_3_stand S hK hP wf_X4_9 dX4_followRules_20 ?_
    refine lv_iload_n S.1 S.2.1 dX4_followRules_23 rfl (lv_at hl 2 rfl) ?_
    obtain ⟨r6, u7, q5, h⟩ := bd_some h
    refine x_vi (Wf := WC ad cI) (q0 := 1) (ci := 3) (As := [.int x1]) (rest := []) S hK hP hS (k_X3_hasToken hap q5) rfl rfl wl_X4_124 wi_X3_hasToken ws_X3_hasToken wz_X3 wc_X3_hasToken hy_X3_hasToken ⟨Nat.le_of_ble_eq_true rfl, Nat.le_of_ble_eq_true rfl⟩ hl.1 rfl (Nat.le_of_ble_eq_true rfl) dX4_followRules_24 (fun H locs hP hS => ?_)
    refine lv_if_eq (tgt := 108) S.1 S.2.1 dX4_followRules_27 (by decide) (fun c8 => ?_) (fun c8 => ?_)
    · rw [if_pos c8] at h
      exact B_108 _ u7 h _ _ _ hP hS (lv_sub hl [1, 2] rfl)
    · rw [if_neg c8] at h
      refine lv_iload_n S.1 S.2.1 dX4_followRules_30 rfl (lv_at hl 0 rfl) ?_
      refine lv_if_ne (tgt := 108) S.1 S.2.1 dX4_followRules_31 (by decide) (fun c34 => ?_) (fun c34 => ?_)
      · rw [if_neg c34] at h
        exact B_108 _ u7 h _ _ _ hP hS (lv_sub hl [1, 2] rfl)
      · rw [if_pos c34] at h
        refine lv_aload_n S.1 S.2.1 dX4_followRules_34 rfl (lv_at hl 1 rfl) ?_
        refine gC_3_stand S hK hP wf_X4_9 dX4_followRules_35 ?_
        refine lv_iload_n S.1 S.2.1 dX4_followRules_38 rfl (lv_at hl 2 rfl) ?_
        obtain ⟨r36, u37, q35, h⟩ := bd_some h
        refine x_si (Wf := WC ad cI) (As := [.int x1]) (rest := [.ref (ad 1)]) S hK hP hS (k_X3_queueOf hap q35) wl_X4_150 wt_X3_queueOf wz_X3 wc_X3_queueOf hy_X3_queueOf ⟨Nat.le_of_ble_eq_true rfl, Nat.le_of_ble_eq_true rfl⟩ hl.1 rfl (Nat.le_of_ble_eq_true rfl) dX4_followRules_39 (fun H locs hP hS => ?_)
        obtain ⟨r39, u40, q38, h⟩ := bd_some h
        refine x_vi (Wf := WC ad cI) (q0 := 1) (ci := 3) (As := [.int r36]) (rest := []) S hK hP hS (k_X3_get hap q38) rfl rfl wl_X4_32 wi_X3_get ws_X3_get wz_X3 wc_X3_get hy_X3_get ⟨Nat.le_of_ble_eq_true rfl, Nat.le_of_ble_eq_true rfl⟩ hl.1 rfl (Nat.le_of_ble_eq_true rfl) dX4_followRules_42 (fun H locs hP hS => ?_)
        refine lv_if_le (tgt := 108) S.1 S.2.1 dX4_followRules_45 (by decide) (fun c41 => ?_) (fun c41 => ?_)
        · rw [if_pos c41] at h
          exact B_108 _ u40 h _ _ _ hP hS (lv_sub hl [1, 2] rfl)
        · rw [if_neg c41] at h
          refine lv_aload_n S.1 S.2.1 dX4_followRules_48 rfl (lv_at hl 1 rfl) ?_
          refine gC_3_stand S hK hP wf_X4_9 dX4_followRules_49 ?_
          refine lv_iload_n S.1 S.2.1 dX4_followRules_52 rfl (lv_at hl 2 rfl) ?_
          obtain ⟨r43, u44, q42, h⟩ := bd_some h
          refine x_si (Wf := WC ad cI) (As := [.int x1]) (rest := [.ref (ad 1)]) S hK hP hS (k_X3_queueOf hap q42) wl_X4_150 wt_X3_queueOf wz_X3 wc_X3_queueOf hy_X3_queueOf ⟨Nat.le_of_ble_eq_true rfl, Nat.le_of_ble_eq_true rfl⟩ hl.1 rfl (Nat.le_of_ble_eq_true rfl) dX4_followRules_53 (fun H locs hP hS => ?_)
          refine lv_bipush (v := (6 : Int32)) S.1 S.2.1 dX4_followRules_56 (by decide) ?_
          obtain ⟨r46, u47, q45, h⟩ := bd_some h
          refine x_vi (Wf := WC ad cI) (q0 := 1) (ci := 3) (As := [.int r43, .int (6 : Int32)]) (rest := []) S hK hP hS (k_X3_takeFirst hap q45) rfl rfl wl_X4_147 wi_X3_takeFirst ws_X3_takeFirst wz_X3 wc_X3_takeFirst hy_X3_takeFirst ⟨Nat.le_of_ble_eq_true rfl, Nat.le_of_ble_eq_true rfl⟩ hl.1 rfl (Nat.le_of_ble_eq_true rfl) dX4_followRules_58 (fun H locs hP hS => ?_)
          refine lv_istore_n (lv' := [(3, .int r46), (2, .int s0), (0, .ref (ad 3)), (1, .int x1)]) S.1 S.2.1 dX4_followRules_61 rfl hl (by decide) rfl (fun ls hl => ?_)
          refine lv_aload_n S.1 S.2.1 dX4_followRules_62 rfl (lv_at hl 2 rfl) ?_
          refine gC_3_stand S hK hP wf_X4_9 dX4_followRules_63 ?_
          refine lv_iload_n S.1 S.2.1 dX4_followRules_66 rfl (lv_at hl 3 rfl) ?_
          refine lv_bipush (v := (86 : Int32)) S.1 S.2.1 dX4_followRules_67 (by decide) ?_
          refine lv_iload_n S.1 S.2.1 dX4_followRules_69 rfl (lv_at hl 0 rfl) ?_
          obtain ⟨r49, u50, q48, h⟩ := bd_some h
          refine x_vv (Wf := WC ad cI) (q0 := 1) (ci := 3) (As := [.int x1, .int (86 : Int32), .int r46]) (rest := []) S hK hP hS (k_X3_set hap q48) rfl rfl wl_X4_28 wi_X3_set ws_X3_set wz_X3 wc_X3_set hy_X3_set ⟨Nat.le_of_ble_eq_true rfl, Nat.le_of_ble_eq_true rfl⟩ hl.1 rfl (Nat.le_of_ble_eq_true rfl) dX4_followRules_70 (fun H locs hP hS => ?_)
          refine lv_aload_n S.1 S.2.1 dX4_followRules_73 rfl (lv_at hl 2 rfl) ?_
          refine gC_3_stand S hK hP wf_X4_9 dX4_followRules_74 ?_
          refine lv_iload_n S.1 S.2.1 dX4_followRules_77 rfl (lv_at hl 3 rfl) ?_
          refine lv_bipush (v := (92 : Int32)) S.1 S.2.1 dX4_followRules_78 (by decide) ?_
          refine lv_iconst (v := (0 : Int32)) S.1 S.2.1 dX4_followRules_80 (by decide) ?_
          obtain ⟨r52, u53, q51, h⟩ := bd_some h
          refine x_vv (Wf := WC ad cI) (q0 := 1) (ci := 3) (As := [.int x1, .int (92 : Int32), .int (0 : Int32)]) (rest := []) S hK hP hS (k_X3_set hap q51) rfl rfl wl_X4_28 wi_X3_set ws_X3_set wz_X3 wc_X3_set hy_X3_set ⟨Nat.le_of_ble_eq_true rfl, Nat.le_of_ble_eq_true rfl⟩ hl.1 rfl (Nat.le_of_ble_eq_true rfl) dX4_followRules_81 (fun H locs hP hS => ?_)
          refine lv_iload_n S.1 S.2.1 dX4_followRules_84 rfl (lv_at hl 0 rfl) ?_
          refine lv_iload_n S.1 S.2.1 dX4_followRules_85 rfl (lv_at hl 3 rfl) ?_
          refine lv_icmp_ne (tgt := 97) S.1 S.2.1 dX4_followRules_86 (by decide) (fun c54 => ?_) (fun c54 => ?_)
          · rw [if_neg c54] at h
            refine lv_aload_n S.1 S.2.1 dX4_followRules_97 rfl (lv_at hl 2 rfl) ?_
            refine gC_3_stand S hK hP wf_X4_9 dX4_followRules_98 ?_
            refine lv_iload_n S.1 S.2.1 dX4_followRules_101 rfl (lv_at hl 3 rfl) ?_
            refine lv_iload_n S.1 S.2.1 dX4_followRules_102 rfl (lv_at hl 0 rfl) ?_
            refine lv_iconst (v := (2 : Int32)) S.1 S.2.1 dX4_followRules_103 (by decide) ?_
            refine lv_iconst (v := (0 : Int32)) S.1 S.2.1 dX4_followRules_104 (by decide) ?_
            obtain ⟨r56, u57, q55, h⟩ := bd_some h
            refine x_vv (Wf := WC ad cI) (q0 := 1) (ci := 3) (As := [.int x1, .int r46, .int (2 : Int32), .int (0 : Int32)]) (rest := []) S hK hP hS (k_X3_send hap q55) rfl rfl wl_X4_118 wi_X3_send ws_X3_send wz_X3 wc_X3_send hy_X3_send ⟨Nat.le_of_ble_eq_true rfl, Nat.le_of_ble_eq_true rfl⟩ hl.1 rfl (Nat.le_of_ble_eq_true rfl) dX4_followRules_105 (fun H locs hP hS => ?_)
            exact B_108 _ u57 h _ _ _ hP hS (lv_sub hl [2, 3] rfl)
          · rw [if_pos c54] at h
            refine lv_aload_n S.1 S.2.1 dX4_followRules_89 rfl (lv_at hl 2 rfl) ?_
            refine lv_iload_n S.1 S.2.1 dX4_followRules_90 rfl (lv_at hl 3 rfl) ?_
            obtain ⟨r59, u60, q58, h⟩ := bd_some h
            refine x_vv (Wf := WC ad cI) (q0 := 3) (ci := 4) (As := [.int x1]) (rest := []) S hK hP hS (k_X4_enter hap q58) rfl rfl wl_X4_82 wi_X4_enter ws_X4_enter wz_X4 wc_X4_enter hy_X4_enter ⟨Nat.le_of_ble_eq_true rfl, Nat.le_of_ble_eq_true rfl⟩ hl.1 rfl (Nat.le_of_ble_eq_true rfl) dX4_followRules_91 (fun H locs hP hS => ?_)
            refine lv_goto (tgt := 108) S.1 S.2.1 dX4_followRules_94 (by decide) ?_
            exact B_108 _ u60 h _ _ _ hP hS (lv_sub hl [2, 3] rfl)
  intro H locs ls hP hS hl
  have hl : lv_has ls 4 [(0, .ref (ad 3)), (1, .int x1)] := hl
  unfold fX4_followRules at h
  refine lv_aload_n S.1 S.2.1 dX4_followRules_0 rfl (lv_at hl 0 rfl) ?_
  refine gC_3_stand S hK hP wf_X4_9 dX4_followRules_1 ?_
  refine lv_iload_n S.1 S.2.1 dX4_followRules_4 rfl (lv_at hl 1 rfl) ?_
  refine lv_iconst (v := (0 : Int32)) S.1 S.2.1 dX4_followRules_5 (by decide) ?_
  obtain ⟨r2, u3, q1, h⟩ := bd_some h
  refine x_vi (Wf := WC ad cI) (q0 := 1) (ci := 3) (As := [.int x1, .int (0 : Int32)]) (rest := []) S hK hP hS (k_X3_of hap q1) rfl rfl wl_X4_85 wi_X3_of ws_X3_of wz_X3 wc_X3_of hy_X3_of ⟨Nat.le_of_ble_eq_true rfl, Nat.le_of_ble_eq_true rfl⟩ hl.1 rfl (Nat.le_of_ble_eq_true rfl) dX4_followRules_6 (fun H locs hP hS => ?_)
  refine lv_iconst (v := (2 : Int32)) S.1 S.2.1 dX4_followRules_9 (by decide) ?_
  refine lv_icmp_ne (tgt := 17) S.1 S.2.1 dX4_followRules_10 (by decide) (fun c4 => ?_) (fun c4 => ?_)
  · rw [if_neg c4] at h
    refine lv_iconst (v := (0 : Int32)) S.1 S.2.1 dX4_followRules_17 (by decide) ?_
    exact B_18 _ _ u3 h _ _ _ hP hS (lv_sub hl [0, 1] rfl)
  · rw [if_pos c4] at h
    refine lv_iconst (v := (1 : Int32)) S.1 S.2.1 dX4_followRules_13 (by decide) ?_
    refine lv_goto (tgt := 18) S.1 S.2.1 dX4_followRules_14 (by decide) ?_
    exact B_18 _ _ u3 h _ _ _ hP hS (lv_sub hl [0, 1] rfl)
theorem hy_X3_known : yX3_known.cls ≠ "java/lang/invoke/MethodHandle" ∧ yX3_known.cls ≠ "java/lang/invoke/VarHandle" ∧ (parseMethodDescriptor yX3_known.desc).map (fun d => d.parameters.length) = some 2 := by decide +kernel
set_option maxHeartbeats 4000000 in
set_option maxRecDepth 100000 in
theorem k_X3_known {l : Launch} {dC : Nat → ClassId} {dI : Nat → Nat → Nat} {ad : Nat → Nat} {cI : ClassId} (hap : AP ad 14) {x1 x2 : Int32} {u uf : Wo} {rf : Int32} (h : fX3_known x1 x2 u = some (rf, uf)) : CI l dC dI cI (WC ad cI) (AF ad 14) yX3_known cX3_known 3 (some .int) 1 21 [.ref (ad 1), .int x1, .int x2] u rf uf := by
  refine ci_begin (by decide) (Nat.le_of_ble_eq_true rfl) ?_
  intro p e s m args below meth c S hr hlk hK
  intro H locs ls hP hS hl
  have hl : lv_has ls 3 [(0, .ref (ad 1)), (1, .int x1), (2, .int x2)] := hl
  unfold fX3_known at h
  refine lv_aload_n S.1 S.2.1 dX3_known_0 rfl (lv_at hl 0 rfl) ?_
  refine lv_bipush (v := (44 : Int32)) S.1 S.2.1 dX3_known_1 (by decide) ?_
  refine lv_iload_n S.1 S.2.1 dX3_known_3 rfl (lv_at hl 1 rfl) ?_
  refine lv_bipush (v := (6 : Int32)) S.1 S.2.1 dX3_known_4 (by decide) ?_
  refine lv_imul S.1 S.2.1 dX3_known_6 ?_
  refine lv_iadd S.1 S.2.1 dX3_known_7 ?_
  refine lv_iload_n S.1 S.2.1 dX3_known_8 rfl (lv_at hl 2 rfl) ?_
  refine lv_iadd S.1 S.2.1 dX3_known_9 ?_
  obtain ⟨r2, u3, q1, h⟩ := bd_some h
  refine x_vi (Wf := WC ad cI) (q0 := 1) (ci := 3) (As := [.int (((44 : Int32) + (x1 * (6 : Int32))) + x2)]) (rest := []) S hK hP hS (k_X3_get hap q1) rfl rfl wl_X3_36 wi_X3_get ws_X3_get wz_X3 wc_X3_get hy_X3_get ⟨Nat.le_of_ble_eq_true rfl, Nat.le_of_ble_eq_true rfl⟩ hl.1 rfl (Nat.le_of_ble_eq_true rfl) dX3_known_10 (fun H locs hP hS => ?_)
  exact x_iret S hr hlk hK hP hS h dX3_known_13
theorem hy_X3_setKnown : yX3_setKnown.cls ≠ "java/lang/invoke/MethodHandle" ∧ yX3_setKnown.cls ≠ "java/lang/invoke/VarHandle" ∧ (parseMethodDescriptor yX3_setKnown.desc).map (fun d => d.parameters.length) = some 3 := by decide +kernel
set_option maxHeartbeats 4000000 in
set_option maxRecDepth 100000 in
theorem k_X3_setKnown {l : Launch} {dC : Nat → ClassId} {dI : Nat → Nat → Nat} {ad : Nat → Nat} {cI : ClassId} (hap : AP ad 14) {x1 x2 x3 : Int32} {u uf : Wo} {rf : Int32} (h : fX3_setKnown x1 x2 x3 u = some (rf, uf)) : CV l dC dI cI (WC ad cI) (AF ad 14) yX3_setKnown cX3_setKnown 4 none 1 22 [.ref (ad 1), .int x1, .int x2, .int x3] u uf := by
  refine cv_begin (by decide) (Nat.le_of_ble_eq_true rfl) ?_
  intro p e s m args below meth c S hr hlk hK
  intro H locs ls hP hS hl
  have hl : lv_has ls 4 [(0, .ref (ad 1)), (1, .int x1), (2, .int x2), (3, .int x3)] := hl
  unfold fX3_setKnown at h
  refine lv_aload_n S.1 S.2.1 dX3_setKnown_0 rfl (lv_at hl 0 rfl) ?_
  refine lv_bipush (v := (44 : Int32)) S.1 S.2.1 dX3_setKnown_1 (by decide) ?_
  refine lv_iload_n S.1 S.2.1 dX3_setKnown_3 rfl (lv_at hl 1 rfl) ?_
  refine lv_bipush (v := (6 : Int32)) S.1 S.2.1 dX3_setKnown_4 (by decide) ?_
  refine lv_imul S.1 S.2.1 dX3_setKnown_6 ?_
  refine lv_iadd S.1 S.2.1 dX3_setKnown_7 ?_
  refine lv_iload_n S.1 S.2.1 dX3_setKnown_8 rfl (lv_at hl 2 rfl) ?_
  refine lv_iadd S.1 S.2.1 dX3_setKnown_9 ?_
  refine lv_iload_n S.1 S.2.1 dX3_setKnown_10 rfl (lv_at hl 3 rfl) ?_
  obtain ⟨r2, u3, q1, h⟩ := bd_some h
  refine x_vv (Wf := WC ad cI) (q0 := 1) (ci := 3) (As := [.int (((44 : Int32) + (x1 * (6 : Int32))) + x2), .int x3]) (rest := []) S hK hP hS (k_X3_put hap q1) rfl rfl wl_X3_40 wi_X3_put ws_X3_put wz_X3 wc_X3_put hy_X3_put ⟨Nat.le_of_ble_eq_true rfl, Nat.le_of_ble_eq_true rfl⟩ hl.1 rfl (Nat.le_of_ble_eq_true rfl) dX3_setKnown_11 (fun H locs hP hS => ?_)
  exact x_vret S hr hlk hK hP hS h dX3_setKnown_14
theorem hy_X3_sendToOthers : yX3_sendToOthers.cls ≠ "java/lang/invoke/MethodHandle" ∧ yX3_sendToOthers.cls ≠ "java/lang/invoke/VarHandle" ∧ (parseMethodDescriptor yX3_sendToOthers.desc).map (fun d => d.parameters.length) = some 3 := by decide +kernel
set_option maxHeartbeats 4000000 in
set_option maxRecDepth 100000 in
theorem k_X3_sendToOthers {l : Launch} {dC : Nat → ClassId} {dI : Nat → Nat → Nat} {ad : Nat → Nat} {cI : ClassId} (hap : AP ad 14) {x1 x2 x3 : Int32} {u uf : Wo} {rf : Int32} (h : fX3_sendToOthers x1 x2 x3 u = some (rf, uf)) : CV l dC dI cI (WC ad cI) (AF ad 14) yX3_sendToOthers cX3_sendToOthers 5 none 2 48 [.ref (ad 1), .int x1, .int x2, .int x3] u uf := by
  refine cv_begin (by decide) (Nat.le_of_ble_eq_true rfl) ?_
  intro p e s m args below meth c S hr hlk hK
  have B_27 : ∀ (k3 : Int32 → Int32 → Int32 → Int32 → Wo → Re) (hk3 : ∀ (x1 : Int32) (x2 : Int32) (x3 : Int32) (x4 : Int32) (u : Wo), k3 x1 x2 x3 x4 u = some (rf, uf) → J p l e (rmk 2 48) s m args below meth c dC dI (WC ad cI) (AF ad 14) (MQ below (QV dC dI cI (WC ad cI) (AF ad 14) uf) args s 0 0 (AF ad 14)) u 3 5 [(0, .ref (ad 1)), (1, .int x1), (2, .int x2), (3, .int x3), (4, .int x4)] []) (x1 : Int32) (x2 : Int32) (x3 : Int32) (x4 : Int32) (u : Wo), fX3_sendToOthers_27 k3 x1 x2 x3 x4 u = some (rf, uf) → J p l e (rmk 2 48) s m args below meth c dC dI (WC ad cI) (AF ad 14) (MQ below (QV dC dI cI (WC ad cI) (AF ad 14) uf) args s 0 0 (AF ad 14)) u 27 5 [(0, .ref (ad 1)), (1, .int x1), (2, .int x2), (3, .int x3), (4, .int x4)] [] := by
    intro k3 hk3 x1 x2 x3 x4 u h H locs ls hP hS hl
    unfold fX3_sendToOthers_27 at h
    refine lv_iinc (v := (x4 + (1 : Int32))) (lv' := [(4, .int (x4 + (1 : Int32))), (0, .ref (ad 1)), (1, .int x1), (2, .int x2), (3, .int x3)]) S.1 S.2.1 dX3_sendToOthers_27 hl (k := 4) rfl rfl (by decide) rfl (fun ls hl => ?_)
    refine lv_goto (tgt := 3) S.1 S.2.1 dX3_sendToOthers_30 (by decide) ?_
    exact hk3 _ _ _ _ u h _ _ _ hP hS (lv_sub hl [1, 2, 3, 4, 0] rfl)
  have B_3 : ∀ (k33 : Wo → Re) (hk33 : ∀ (u : Wo), k33  u = some (rf, uf) → J p l e (rmk 2 48) s m args below meth c dC dI (WC ad cI) (AF ad 14) (MQ below (QV dC dI cI (WC ad cI) (AF ad 14) uf) args s 0 0 (AF ad 14)) u 33 5 [] []) (n : Nat) (x1 : Int32) (x2 : Int32) (x3 : Int32) (x4 : Int32) (u : Wo), fX3_sendToOthers_3 k33 n x1 x2 x3 x4 u = some (rf, uf) → J p l e (rmk 2 48) s m args below meth c dC dI (WC ad cI) (AF ad 14) (MQ below (QV dC dI cI (WC ad cI) (AF ad 14) uf) args s 0 0 (AF ad 14)) u 3 5 [(0, .ref (ad 1)), (1, .int x1), (2, .int x2), (3, .int x3), (4, .int x4)] [] := by
    intro k33 hk33
    intro n
    induction n with
    | zero => intro x1 x2 x3 x4 u h; cases h
    | succ n ih =>
      intro x1 x2 x3 x4 u h H locs ls hP hS hl
      rw [fX3_sendToOthers_3.eq_2] at h
      refine lv_iload S.1 S.2.1 dX3_sendToOthers_3 (lv_at hl 4 rfl) ?_
      refine lv_aload_n S.1 S.2.1 dX3_sendToOthers_5 rfl (lv_at hl 0 rfl) ?_
      refine gC_1_n S hK hP wf_X3_19 dX3_sendToOthers_6 ?_
      refine lv_icmp_ge (tgt := 33) S.1 S.2.1 dX3_sendToOthers_9 (by decide) (fun c1 => ?_) (fun c1 => ?_)
      · rw [if_pos c1] at h
        exact hk33 u h _ _ _ hP hS (lv_sub hl [] rfl)
      · rw [if_neg c1] at h
        refine lv_iload S.1 S.2.1 dX3_sendToOthers_12 (lv_at hl 4 rfl) ?_
        refine lv_iload_n S.1 S.2.1 dX3_sendToOthers_14 rfl (lv_at hl 1 rfl) ?_
        refine lv_icmp_eq (tgt := 27) S.1 S.2.1 dX3_sendToOthers_15 (by decide) (fun c2 => ?_) (fun c2 => ?_)
        · rw [if_pos c2] at h
          exact B_27 _ ih _ _ _ _ u h _ _ _ hP hS (lv_sub hl [0, 1, 2, 3, 4] rfl)
        · rw [if_neg c2] at h
          refine lv_aload_n S.1 S.2.1 dX3_sendToOthers_18 rfl (lv_at hl 0 rfl) ?_
          refine lv_iload_n S.1 S.2.1 dX3_sendToOthers_19 rfl (lv_at hl 1 rfl) ?_
          refine lv_iload S.1 S.2.1 dX3_sendToOthers_20 (lv_at hl 4 rfl) ?_
          refine lv_iload_n S.1 S.2.1 dX3_sendToOthers_22 rfl (lv_at hl 2 rfl) ?_
          refine lv_iload_n S.1 S.2.1 dX3_sendToOthers_23 rfl (lv_at hl 3 rfl) ?_
          obtain ⟨r4, u5, q3, h⟩ := bd_some h
          refine x_vv (Wf := WC ad cI) (q0 := 1) (ci := 3) (As := [.int x1, .int x4, .int x2, .int x3]) (rest := []) S hK hP hS (k_X3_send hap q3) rfl rfl wl_X3_56 wi_X3_send ws_X3_send wz_X3 wc_X3_send hy_X3_send ⟨Nat.le_of_ble_eq_true rfl, Nat.le_of_ble_eq_true rfl⟩ hl.1 rfl (Nat.le_of_ble_eq_true rfl) dX3_sendToOthers_24 (fun H locs hP hS => ?_)
          exact B_27 _ ih _ _ _ _ u5 h _ _ _ hP hS (lv_sub hl [0, 1, 2, 3, 4] rfl)
  have B_33 : ∀ (u : Wo), fX3_sendToOthers_33 u = some (rf, uf) → J p l e (rmk 2 48) s m args below meth c dC dI (WC ad cI) (AF ad 14) (MQ below (QV dC dI cI (WC ad cI) (AF ad 14) uf) args s 0 0 (AF ad 14)) u 33 5 [] [] := by
    intro u h H locs ls hP hS hl
    unfold fX3_sendToOthers_33 at h
    exact x_vret S hr hlk hK hP hS h dX3_sendToOthers_33
  intro H locs ls hP hS hl
  have hl : lv_has ls 5 [(0, .ref (ad 1)), (1, .int x1), (2, .int x2), (3, .int x3)] := hl
  unfold fX3_sendToOthers at h
  refine lv_iconst (v := (0 : Int32)) S.1 S.2.1 dX3_sendToOthers_0 (by decide) ?_
  refine lv_istore (lv' := [(4, .int (0 : Int32)), (0, .ref (ad 1)), (1, .int x1), (2, .int x2), (3, .int x3)]) S.1 S.2.1 dX3_sendToOthers_1 hl (by decide) rfl (fun ls hl => ?_)
  exact B_3 _ B_33 FU _ _ _ _ u h _ _ _ hP hS (lv_sub hl [1, 2, 3, 4, 0] rfl)
theorem hy_X4_wantedByToken : yX4_wantedByToken.cls ≠ "java/lang/invoke/MethodHandle" ∧ yX4_wantedByToken.cls ≠ "java/lang/invoke/VarHandle" ∧ (parseMethodDescriptor yX4_wantedByToken.desc).map (fun d => d.parameters.length) = some 1 := by decide +kernel
set_option maxHeartbeats 4000000 in
set_option maxRecDepth 100000 in
theorem k_X4_wantedByToken {l : Launch} {dC : Nat → ClassId} {dI : Nat → Nat → Nat} {ad : Nat → Nat} {cI : ClassId} (hap : AP ad 14) {x1 : Int32} {u uf : Wo} {rf : Int32} (h : fX4_wantedByToken x1 u = some (rf, uf)) : CV l dC dI cI (WC ad cI) (AF ad 14) yX4_wantedByToken cX4_wantedByToken 3 none 3 72 [.ref (ad 3), .int x1] u uf := by
  refine cv_begin (by decide) (Nat.le_of_ble_eq_true rfl) ?_
  intro p e s m args below meth c S hr hlk hK
  intro H locs ls hP hS hl
  have hl : lv_has ls 3 [(0, .ref (ad 3)), (1, .int x1)] := hl
  unfold fX4_wantedByToken at h
  refine lv_aload_n S.1 S.2.1 dX4_wantedByToken_0 rfl (lv_at hl 0 rfl) ?_
  refine gC_3_stand S hK hP wf_X4_9 dX4_wantedByToken_1 ?_
  refine lv_iload_n S.1 S.2.1 dX4_wantedByToken_4 rfl (lv_at hl 1 rfl) ?_
  obtain ⟨r2, u3, q1, h⟩ := bd_some h
  refine x_vi (Wf := WC ad cI) (q0 := 1) (ci := 3) (As := [.int x1]) (rest := []) S hK hP hS (k_X3_hasToken hap q1) rfl rfl wl_X4_124 wi_X3_hasToken ws_X3_hasToken wz_X3 wc_X3_hasToken hy_X3_hasToken ⟨Nat.le_of_ble_eq_true rfl, Nat.le_of_ble_eq_true rfl⟩ hl.1 rfl (Nat.le_of_ble_eq_true rfl) dX4_wantedByToken_5 (fun H locs hP hS => ?_)
  refine lv_if_eq (tgt := 17) S.1 S.2.1 dX4_wantedByToken_8 (by decide) (fun c4 => ?_) (fun c4 => ?_)
  · rw [if_pos c4] at h
    refine lv_aload_n S.1 S.2.1 dX4_wantedByToken_17 rfl (lv_at hl 0 rfl) ?_
    refine gC_3_stand S hK hP wf_X4_9 dX4_wantedByToken_18 ?_
    refine lv_iload_n S.1 S.2.1 dX4_wantedByToken_21 rfl (lv_at hl 1 rfl) ?_
    refine lv_iload_n S.1 S.2.1 dX4_wantedByToken_22 rfl (lv_at hl 1 rfl) ?_
    obtain ⟨r6, u7, q5, h⟩ := bd_some h
    refine x_vi (Wf := WC ad cI) (q0 := 1) (ci := 3) (As := [.int x1, .int x1]) (rest := []) S hK hP hS (k_X3_known hap q5) rfl rfl wl_X4_128 wi_X3_known ws_X3_known wz_X3 wc_X3_known hy_X3_known ⟨Nat.le_of_ble_eq_true rfl, Nat.le_of_ble_eq_true rfl⟩ hl.1 rfl (Nat.le_of_ble_eq_true rfl) dX4_wantedByToken_23 (fun H locs hP hS => ?_)
    refine lv_iconst (v := (1 : Int32)) S.1 S.2.1 dX4_wantedByToken_26 (by decide) ?_
    refine lv_iadd S.1 S.2.1 dX4_wantedByToken_27 ?_
    refine lv_istore_n (lv' := [(2, .int (r6 + (1 : Int32))), (0, .ref (ad 3)), (1, .int x1)]) S.1 S.2.1 dX4_wantedByToken_28 rfl hl (by decide) rfl (fun ls hl => ?_)
    refine lv_aload_n S.1 S.2.1 dX4_wantedByToken_29 rfl (lv_at hl 1 rfl) ?_
    refine gC_3_stand S hK hP wf_X4_9 dX4_wantedByToken_30 ?_
    refine lv_iload_n S.1 S.2.1 dX4_wantedByToken_33 rfl (lv_at hl 2 rfl) ?_
    refine lv_iload_n S.1 S.2.1 dX4_wantedByToken_34 rfl (lv_at hl 2 rfl) ?_
    refine lv_iload_n S.1 S.2.1 dX4_wantedByToken_35 rfl (lv_at hl 0 rfl) ?_
    obtain ⟨r9, u10, q8, h⟩ := bd_some h
    refine x_vv (Wf := WC ad cI) (q0 := 1) (ci := 3) (As := [.int x1, .int x1, .int (r6 + (1 : Int32))]) (rest := []) S hK hP hS (k_X3_setKnown hap q8) rfl rfl wl_X4_131 wi_X3_setKnown ws_X3_setKnown wz_X3 wc_X3_setKnown hy_X3_setKnown ⟨Nat.le_of_ble_eq_true rfl, Nat.le_of_ble_eq_true rfl⟩ hl.1 rfl (Nat.le_of_ble_eq_true rfl) dX4_wantedByToken_36 (fun H locs hP hS => ?_)
    refine lv_aload_n S.1 S.2.1 dX4_wantedByToken_39 rfl (lv_at hl 1 rfl) ?_
    refine gC_3_stand S hK hP wf_X4_9 dX4_wantedByToken_40 ?_
    refine lv_iload_n S.1 S.2.1 dX4_wantedByToken_43 rfl (lv_at hl 2 rfl) ?_
    refine lv_iconst (v := (0 : Int32)) S.1 S.2.1 dX4_wantedByToken_44 (by decide) ?_
    refine lv_iload_n S.1 S.2.1 dX4_wantedByToken_45 rfl (lv_at hl 0 rfl) ?_
    obtain ⟨r12, u13, q11, h⟩ := bd_some h
    refine x_vv (Wf := WC ad cI) (q0 := 1) (ci := 3) (As := [.int x1, .int (0 : Int32), .int (r6 + (1 : Int32))]) (rest := []) S hK hP hS (k_X3_sendToOthers hap q11) rfl rfl wl_X4_106 wi_X3_sendToOthers ws_X3_sendToOthers wz_X3 wc_X3_sendToOthers hy_X3_sendToOthers ⟨Nat.le_of_ble_eq_true rfl, Nat.le_of_ble_eq_true rfl⟩ hl.1 rfl (Nat.le_of_ble_eq_true rfl) dX4_wantedByToken_46 (fun H locs hP hS => ?_)
    exact x_vret S hr hlk hK hP hS h dX4_wantedByToken_49
  · rw [if_neg c4] at h
    refine lv_aload_n S.1 S.2.1 dX4_wantedByToken_11 rfl (lv_at hl 0 rfl) ?_
    refine lv_iload_n S.1 S.2.1 dX4_wantedByToken_12 rfl (lv_at hl 1 rfl) ?_
    obtain ⟨r15, u16, q14, h⟩ := bd_some h
    refine x_vv (Wf := WC ad cI) (q0 := 3) (ci := 4) (As := [.int x1]) (rest := []) S hK hP hS (k_X4_enter hap q14) rfl rfl wl_X4_82 wi_X4_enter ws_X4_enter wz_X4 wc_X4_enter hy_X4_enter ⟨Nat.le_of_ble_eq_true rfl, Nat.le_of_ble_eq_true rfl⟩ hl.1 rfl (Nat.le_of_ble_eq_true rfl) dX4_wantedByToken_13 (fun H locs hP hS => ?_)
    exact x_vret S hr hlk hK hP hS h dX4_wantedByToken_16
theorem hy_X4_wantedByAsking : yX4_wantedByAsking.cls ≠ "java/lang/invoke/MethodHandle" ∧ yX4_wantedByAsking.cls ≠ "java/lang/invoke/VarHandle" ∧ (parseMethodDescriptor yX4_wantedByAsking.desc).map (fun d => d.parameters.length) = some 1 := by decide +kernel
set_option maxHeartbeats 4000000 in
set_option maxRecDepth 100000 in
theorem k_X4_wantedByAsking {l : Launch} {dC : Nat → ClassId} {dI : Nat → Nat → Nat} {ad : Nat → Nat} {cI : ClassId} (hap : AP ad 14) {x1 : Int32} {u uf : Wo} {rf : Int32} (h : fX4_wantedByAsking x1 u = some (rf, uf)) : CV l dC dI cI (WC ad cI) (AF ad 14) yX4_wantedByAsking cX4_wantedByAsking 3 none 3 72 [.ref (ad 3), .int x1] u uf := by
  refine cv_begin (by decide) (Nat.le_of_ble_eq_true rfl) ?_
  intro p e s m args below meth c S hr hlk hK
  intro H locs ls hP hS hl
  have hl : lv_has ls 3 [(0, .ref (ad 3)), (1, .int x1)] := hl
  unfold fX4_wantedByAsking at h
  refine lv_aload_n S.1 S.2.1 dX4_wantedByAsking_0 rfl (lv_at hl 0 rfl) ?_
  refine gC_3_stand S hK hP wf_X4_9 dX4_wantedByAsking_1 ?_
  refine lv_iload_n S.1 S.2.1 dX4_wantedByAsking_4 rfl (lv_at hl 1 rfl) ?_
  refine lv_bipush (v := (6 : Int32)) S.1 S.2.1 dX4_wantedByAsking_5 (by decide) ?_
  obtain ⟨r2, u3, q1, h⟩ := bd_some h
  refine x_vi (Wf := WC ad cI) (q0 := 1) (ci := 3) (As := [.int x1, .int (6 : Int32)]) (rest := []) S hK hP hS (k_X3_of hap q1) rfl rfl wl_X4_85 wi_X3_of ws_X3_of wz_X3 wc_X3_of hy_X3_of ⟨Nat.le_of_ble_eq_true rfl, Nat.le_of_ble_eq_true rfl⟩ hl.1 rfl (Nat.le_of_ble_eq_true rfl) dX4_wantedByAsking_7 (fun H locs hP hS => ?_)
  refine lv_iconst (v := (1 : Int32)) S.1 S.2.1 dX4_wantedByAsking_10 (by decide) ?_
  refine lv_iadd S.1 S.2.1 dX4_wantedByAsking_11 ?_
  refine lv_istore_n (lv' := [(2, .int (r2 + (1 : Int32))), (0, .ref (ad 3)), (1, .int x1)]) S.1 S.2.1 dX4_wantedByAsking_12 rfl hl (by decide) rfl (fun ls hl => ?_)
  refine lv_aload_n S.1 S.2.1 dX4_wantedByAsking_13 rfl (lv_at hl 1 rfl) ?_
  refine gC_3_stand S hK hP wf_X4_9 dX4_wantedByAsking_14 ?_
  refine lv_iload_n S.1 S.2.1 dX4_wantedByAsking_17 rfl (lv_at hl 2 rfl) ?_
  refine lv_bipush (v := (6 : Int32)) S.1 S.2.1 dX4_wantedByAsking_18 (by decide) ?_
  refine lv_iload_n S.1 S.2.1 dX4_wantedByAsking_20 rfl (lv_at hl 0 rfl) ?_
  obtain ⟨r5, u6, q4, h⟩ := bd_some h
  refine x_vv (Wf := WC ad cI) (q0 := 1) (ci := 3) (As := [.int x1, .int (6 : Int32), .int (r2 + (1 : Int32))]) (rest := []) S hK hP hS (k_X3_set hap q4) rfl rfl wl_X4_28 wi_X3_set ws_X3_set wz_X3 wc_X3_set hy_X3_set ⟨Nat.le_of_ble_eq_true rfl, Nat.le_of_ble_eq_true rfl⟩ hl.1 rfl (Nat.le_of_ble_eq_true rfl) dX4_wantedByAsking_21 (fun H locs hP hS => ?_)
  refine lv_aload_n S.1 S.2.1 dX4_wantedByAsking_24 rfl (lv_at hl 1 rfl) ?_
  refine gC_3_stand S hK hP wf_X4_9 dX4_wantedByAsking_25 ?_
  refine lv_iload_n S.1 S.2.1 dX4_wantedByAsking_28 rfl (lv_at hl 2 rfl) ?_
  refine lv_bipush (v := (12 : Int32)) S.1 S.2.1 dX4_wantedByAsking_29 (by decide) ?_
  refine lv_iload_n S.1 S.2.1 dX4_wantedByAsking_31 rfl (lv_at hl 0 rfl) ?_
  obtain ⟨r8, u9, q7, h⟩ := bd_some h
  refine x_vv (Wf := WC ad cI) (q0 := 1) (ci := 3) (As := [.int x1, .int (12 : Int32), .int (r2 + (1 : Int32))]) (rest := []) S hK hP hS (k_X3_set hap q7) rfl rfl wl_X4_28 wi_X3_set ws_X3_set wz_X3 wc_X3_set hy_X3_set ⟨Nat.le_of_ble_eq_true rfl, Nat.le_of_ble_eq_true rfl⟩ hl.1 rfl (Nat.le_of_ble_eq_true rfl) dX4_wantedByAsking_32 (fun H locs hP hS => ?_)
  refine lv_aload_n S.1 S.2.1 dX4_wantedByAsking_35 rfl (lv_at hl 1 rfl) ?_
  refine gC_3_stand S hK hP wf_X4_9 dX4_wantedByAsking_36 ?_
  refine lv_iload_n S.1 S.2.1 dX4_wantedByAsking_39 rfl (lv_at hl 2 rfl) ?_
  refine lv_bipush (v := (18 : Int32)) S.1 S.2.1 dX4_wantedByAsking_40 (by decide) ?_
  refine lv_iconst (v := (0 : Int32)) S.1 S.2.1 dX4_wantedByAsking_42 (by decide) ?_
  obtain ⟨r11, u12, q10, h⟩ := bd_some h
  refine x_vv (Wf := WC ad cI) (q0 := 1) (ci := 3) (As := [.int x1, .int (18 : Int32), .int (0 : Int32)]) (rest := []) S hK hP hS (k_X3_set hap q10) rfl rfl wl_X4_28 wi_X3_set ws_X3_set wz_X3 wc_X3_set hy_X3_set ⟨Nat.le_of_ble_eq_true rfl, Nat.le_of_ble_eq_true rfl⟩ hl.1 rfl (Nat.le_of_ble_eq_true rfl) dX4_wantedByAsking_43 (fun H locs hP hS => ?_)
  refine lv_aload_n S.1 S.2.1 dX4_wantedByAsking_46 rfl (lv_at hl 1 rfl) ?_
  refine gC_3_stand S hK hP wf_X4_9 dX4_wantedByAsking_47 ?_
  refine lv_iload_n S.1 S.2.1 dX4_wantedByAsking_50 rfl (lv_at hl 2 rfl) ?_
  refine lv_iconst (v := (0 : Int32)) S.1 S.2.1 dX4_wantedByAsking_51 (by decide) ?_
  refine lv_iload_n S.1 S.2.1 dX4_wantedByAsking_52 rfl (lv_at hl 0 rfl) ?_
  obtain ⟨r14, u15, q13, h⟩ := bd_some h
  refine x_vv (Wf := WC ad cI) (q0 := 1) (ci := 3) (As := [.int x1, .int (0 : Int32), .int (r2 + (1 : Int32))]) (rest := []) S hK hP hS (k_X3_sendToOthers hap q13) rfl rfl wl_X4_106 wi_X3_sendToOthers ws_X3_sendToOthers wz_X3 wc_X3_sendToOthers hy_X3_sendToOthers ⟨Nat.le_of_ble_eq_true rfl, Nat.le_of_ble_eq_true rfl⟩ hl.1 rfl (Nat.le_of_ble_eq_true rfl) dX4_wantedByAsking_53 (fun H locs hP hS => ?_)
  exact x_vret S hr hlk hK hP hS h dX4_wantedByAsking_56
theorem hy_X4_wanted : yX4_wanted.cls ≠ "java/lang/invoke/MethodHandle" ∧ yX4_wanted.cls ≠ "java/lang/invoke/VarHandle" ∧ (parseMethodDescriptor yX4_wanted.desc).map (fun d => d.parameters.length) = some 1 := by decide +kernel
set_option maxHeartbeats 4000000 in
set_option maxRecDepth 100000 in
theorem k_X4_wanted {l : Launch} {dC : Nat → ClassId} {dI : Nat → Nat → Nat} {ad : Nat → Nat} {cI : ClassId} (hap : AP ad 14) {x1 : Int32} {u uf : Wo} {rf : Int32} (h : fX4_wanted x1 u = some (rf, uf)) : CV l dC dI cI (WC ad cI) (AF ad 14) yX4_wanted cX4_wanted 2 none 4 94 [.ref (ad 3), .int x1] u uf := by
  refine cv_begin (by decide) (Nat.le_of_ble_eq_true rfl) ?_
  intro p e s m args below meth c S hr hlk hK
  have B_88 : ∀ (u : Wo), fX4_wanted_88 u = some (rf, uf) → J p l e (rmk 4 94) s m args below meth c dC dI (WC ad cI) (AF ad 14) (MQ below (QV dC dI cI (WC ad cI) (AF ad 14) uf) args s 0 0 (AF ad 14)) u 88 2 [] [] := by
    intro u h H locs ls hP hS hl
    unfold fX4_wanted_88 at h
    exact x_vret S hr hlk hK hP hS h dX4_wanted_88
  intro H locs ls hP hS hl
  have hl : lv_has ls 2 [(0, .ref (ad 3)), (1, .int x1)] := hl
  unfold fX4_wanted at h
  refine lv_aload_n S.1 S.2.1 dX4_wanted_0 rfl (lv_at hl 0 rfl) ?_
  refine gC_3_stand S hK hP wf_X4_9 dX4_wanted_1 ?_
  refine lv_iconst (v := (0 : Int32)) S.1 S.2.1 dX4_wanted_4 (by decide) ?_
  obtain ⟨u1, hu1, h⟩ := bw_some h
  refine pC_1_tooMany S hK hap hP hS wf_X4_23 dX4_wanted_5 (by decide) hu1 (fun H locs hP hS => ?_)
  refine lv_aload_n S.1 S.2.1 dX4_wanted_8 rfl (lv_at hl 0 rfl) ?_
  refine gC_3_stand S hK hP wf_X4_9 dX4_wanted_9 ?_
  refine lv_iload_n S.1 S.2.1 dX4_wanted_12 rfl (lv_at hl 1 rfl) ?_
  refine lv_iconst (v := (0 : Int32)) S.1 S.2.1 dX4_wanted_13 (by decide) ?_
  refine lv_iconst (v := (1 : Int32)) S.1 S.2.1 dX4_wanted_14 (by decide) ?_
  obtain ⟨r3, u4, q2, h⟩ := bd_some h
  refine x_vv (Wf := WC ad cI) (q0 := 1) (ci := 3) (As := [.int x1, .int (0 : Int32), .int (1 : Int32)]) (rest := []) S hK hP hS (k_X3_set hap q2) rfl rfl wl_X4_28 wi_X3_set ws_X3_set wz_X3 wc_X3_set hy_X3_set ⟨Nat.le_of_ble_eq_true rfl, Nat.le_of_ble_eq_true rfl⟩ hl.1 rfl (Nat.le_of_ble_eq_true rfl) dX4_wanted_15 (fun H locs hP hS => ?_)
  refine lv_aload_n S.1 S.2.1 dX4_wanted_18 rfl (lv_at hl 0 rfl) ?_
  refine gC_3_stand S hK hP wf_X4_9 dX4_wanted_19 ?_
  refine lv_sipush (v := (612 : Int32)) S.1 S.2.1 dX4_wanted_22 (by decide) ?_
  refine lv_iload_n S.1 S.2.1 dX4_wanted_25 rfl (lv_at hl 1 rfl) ?_
  refine lv_iadd S.1 S.2.1 dX4_wanted_26 ?_
  refine lv_aload_n S.1 S.2.1 dX4_wanted_27 rfl (lv_at hl 0 rfl) ?_
  refine gC_3_stand S hK hP wf_X4_9 dX4_wanted_28 ?_
  refine lv_sipush (v := (611 : Int32)) S.1 S.2.1 dX4_wanted_31 (by decide) ?_
  obtain ⟨r6, u7, q5, h⟩ := bd_some h
  refine x_vi (Wf := WC ad cI) (q0 := 1) (ci := 3) (As := [.int (611 : Int32)]) (rest := [.int ((612 : Int32) + x1), .ref (ad 1)]) S hK hP hS (k_X3_get hap q5) rfl rfl wl_X4_32 wi_X3_get ws_X3_get wz_X3 wc_X3_get hy_X3_get ⟨Nat.le_of_ble_eq_true rfl, Nat.le_of_ble_eq_true rfl⟩ hl.1 rfl (Nat.le_of_ble_eq_true rfl) dX4_wanted_34 (fun H locs hP hS => ?_)
  obtain ⟨r9, u10, q8, h⟩ := bd_some h
  refine x_vv (Wf := WC ad cI) (q0 := 1) (ci := 3) (As := [.int ((612 : Int32) + x1), .int r6]) (rest := []) S hK hP hS (k_X3_put hap q8) rfl rfl wl_X4_36 wi_X3_put ws_X3_put wz_X3 wc_X3_put hy_X3_put ⟨Nat.le_of_ble_eq_true rfl, Nat.le_of_ble_eq_true rfl⟩ hl.1 rfl (Nat.le_of_ble_eq_true rfl) dX4_wanted_37 (fun H locs hP hS => ?_)
  refine lv_aload_n S.1 S.2.1 dX4_wanted_40 rfl (lv_at hl 0 rfl) ?_
  refine gC_3_stand S hK hP wf_X4_9 dX4_wanted_41 ?_
  refine gC_1_way S hK hP wf_X4_40 dX4_wanted_44 ?_
  refine lv_if_ne (tgt := 58) S.1 S.2.1 dX4_wanted_47 (by decide) (fun c11 => ?_) (fun c11 => ?_)
  · rw [if_neg c11] at h
    refine lv_aload_n S.1 S.2.1 dX4_wanted_58 rfl (lv_at hl 0 rfl) ?_
    refine gC_3_stand S hK hP wf_X4_9 dX4_wanted_59 ?_
    refine gC_1_way S hK hP wf_X4_40 dX4_wanted_62 ?_
    refine lv_iconst (v := (1 : Int32)) S.1 S.2.1 dX4_wanted_65 (by decide) ?_
    refine lv_icmp_ne (tgt := 77) S.1 S.2.1 dX4_wanted_66 (by decide) (fun c12 => ?_) (fun c12 => ?_)
    · rw [if_neg c12] at h
      refine lv_aload_n S.1 S.2.1 dX4_wanted_77 rfl (lv_at hl 0 rfl) ?_
      refine lv_iload_n S.1 S.2.1 dX4_wanted_78 rfl (lv_at hl 1 rfl) ?_
      refine lv_iload_n S.1 S.2.1 dX4_wanted_79 rfl (lv_at hl 1 rfl) ?_
      obtain ⟨r14, u15, q13, h⟩ := bd_some h
      refine x_vv (Wf := WC ad cI) (q0 := 3) (ci := 4) (As := [.int x1, .int x1]) (rest := []) S hK hP hS (k_X4_queue hap q13) rfl rfl wl_X4_51 wi_X4_queue ws_X4_queue wz_X4 wc_X4_queue hy_X4_queue ⟨Nat.le_of_ble_eq_true rfl, Nat.le_of_ble_eq_true rfl⟩ hl.1 rfl (Nat.le_of_ble_eq_true rfl) dX4_wanted_80 (fun H locs hP hS => ?_)
      refine lv_aload_n S.1 S.2.1 dX4_wanted_83 rfl (lv_at hl 0 rfl) ?_
      refine lv_iload_n S.1 S.2.1 dX4_wanted_84 rfl (lv_at hl 1 rfl) ?_
      obtain ⟨r17, u18, q16, h⟩ := bd_some h
      refine x_vv (Wf := WC ad cI) (q0 := 3) (ci := 4) (As := [.int x1]) (rest := []) S hK hP hS (k_X4_followRules hap q16) rfl rfl wl_X4_54 wi_X4_followRules ws_X4_followRules wz_X4 wc_X4_followRules hy_X4_followRules ⟨Nat.le_of_ble_eq_true rfl, Nat.le_of_ble_eq_true rfl⟩ hl.1 rfl (Nat.le_of_ble_eq_true rfl) dX4_wanted_85 (fun H locs hP hS => ?_)
      exact B_88 u18 h _ _ _ hP hS (lv_sub hl [] rfl)
    · rw [if_pos c12] at h
      refine lv_aload_n S.1 S.2.1 dX4_wanted_69 rfl (lv_at hl 0 rfl) ?_
      refine lv_iload_n S.1 S.2.1 dX4_wanted_70 rfl (lv_at hl 1 rfl) ?_
      obtain ⟨r20, u21, q19, h⟩ := bd_some h
      refine x_vv (Wf := WC ad cI) (q0 := 3) (ci := 4) (As := [.int x1]) (rest := []) S hK hP hS (k_X4_wantedByToken hap q19) rfl rfl wl_X4_48 wi_X4_wantedByToken ws_X4_wantedByToken wz_X4 wc_X4_wantedByToken hy_X4_wantedByToken ⟨Nat.le_of_ble_eq_true rfl, Nat.le_of_ble_eq_true rfl⟩ hl.1 rfl (Nat.le_of_ble_eq_true rfl) dX4_wanted_71 (fun H locs hP hS => ?_)
      refine lv_goto (tgt := 88) S.1 S.2.1 dX4_wanted_74 (by decide) ?_
      exact B_88 u21 h _ _ _ hP hS (lv_sub hl [] rfl)
  · rw [if_pos c11] at h
    refine lv_aload_n S.1 S.2.1 dX4_wanted_50 rfl (lv_at hl 0 rfl) ?_
    refine lv_iload_n S.1 S.2.1 dX4_wanted_51 rfl (lv_at hl 1 rfl) ?_
    obtain ⟨r23, u24, q22, h⟩ := bd_some h
    refine x_vv (Wf := WC ad cI) (q0 := 3) (ci := 4) (As := [.int x1]) (rest := []) S hK hP hS (k_X4_wantedByAsking hap q22) rfl rfl wl_X4_44 wi_X4_wantedByAsking ws_X4_wantedByAsking wz_X4 wc_X4_wantedByAsking hy_X4_wantedByAsking ⟨Nat.le_of_ble_eq_true rfl, Nat.le_of_ble_eq_true rfl⟩ hl.1 rfl (Nat.le_of_ble_eq_true rfl) dX4_wanted_52 (fun H locs hP hS => ?_)
    refine lv_goto (tgt := 88) S.1 S.2.1 dX4_wanted_55 (by decide) ?_
    exact B_88 u24 h _ _ _ hP hS (lv_sub hl [] rfl)
theorem hy_X1_keepMark : yX1_keepMark.cls ≠ "java/lang/invoke/MethodHandle" ∧ yX1_keepMark.cls ≠ "java/lang/invoke/VarHandle" ∧ (parseMethodDescriptor yX1_keepMark.desc).map (fun d => d.parameters.length) = some 0 := by decide +kernel
set_option maxHeartbeats 4000000 in
set_option maxRecDepth 100000 in
theorem k_X1_keepMark {l : Launch} {dC : Nat → ClassId} {dI : Nat → Nat → Nat} {ad : Nat → Nat} {cI : ClassId} (hap : AP ad 14) {u uf : Wo} {rf : Int32} (h : fX1_keepMark u = some (rf, uf)) : CV l dC dI cI (WC ad cI) (AF ad 14) yX1_keepMark cX1_keepMark 1 none 1 21 [.ref (ad 4)] u uf := by
  refine cv_begin (by decide) (Nat.le_of_ble_eq_true rfl) ?_
  intro p e s m args below meth c S hr hlk hK
  intro H locs ls hP hS hl
  have hl : lv_has ls 1 [(0, .ref (ad 4))] := hl
  unfold fX1_keepMark at h
  refine lv_aload_n S.1 S.2.1 dX1_keepMark_0 rfl (lv_at hl 0 rfl) ?_
  refine lv_aload_n S.1 S.2.1 dX1_keepMark_1 rfl (lv_at hl 0 rfl) ?_
  refine gC_4_place S hK hP wf_X1_23 dX1_keepMark_2 ?_
  refine lv_iconst (v := (1 : Int32)) S.1 S.2.1 dX1_keepMark_5 (by decide) ?_
  refine lv_iadd S.1 S.2.1 dX1_keepMark_6 ?_
  refine lv_bipush (v := (31 : Int32)) S.1 S.2.1 dX1_keepMark_7 (by decide) ?_
  refine lv_irem S.1 S.2.1 dX1_keepMark_9 (by decide) ?_
  obtain ⟨u1, hu1, h⟩ := bw_some h
  refine pC_4_place S hK hap hP hS wf_X1_23 dX1_keepMark_10 hu1 (fun H locs hP hS => ?_)
  refine lv_aload_n S.1 S.2.1 dX1_keepMark_13 rfl (lv_at hl 0 rfl) ?_
  refine lv_aload_n S.1 S.2.1 dX1_keepMark_14 rfl (lv_at hl 0 rfl) ?_
  refine gC_4_kept S hK hP wf_X1_19 dX1_keepMark_15 ?_
  refine lv_iconst (v := (1 : Int32)) S.1 S.2.1 dX1_keepMark_18 (by decide) ?_
  refine lv_iadd S.1 S.2.1 dX1_keepMark_19 ?_
  refine lv_bipush (v := (30 : Int32)) S.1 S.2.1 dX1_keepMark_20 (by decide) ?_
  refine x_min S wl_X1_33 hl.1 ⟨Nat.le_of_ble_eq_true rfl, Nat.le_of_ble_eq_true rfl⟩ dX1_keepMark_22 ?_
  obtain ⟨u2, hu2, h⟩ := bw_some h
  refine pC_4_kept S hK hap hP hS wf_X1_19 dX1_keepMark_25 hu2 (fun H locs hP hS => ?_)
  exact x_vret S hr hlk hK hP hS h dX1_keepMark_28
theorem hy_X3_copyFrom : yX3_copyFrom.cls ≠ "java/lang/invoke/MethodHandle" ∧ yX3_copyFrom.cls ≠ "java/lang/invoke/VarHandle" ∧ (parseMethodDescriptor yX3_copyFrom.desc).map (fun d => d.parameters.length) = some 3 := by decide +kernel
set_option maxHeartbeats 4000000 in
set_option maxRecDepth 100000 in
theorem k_X3_copyFrom_8 {l : Launch} {dC : Nat → ClassId} {dI : Nat → Nat → Nat} {ad : Nat → Nat} {cI : ClassId} (hap : AP ad 14) {x2 x3 : Int32} {u uf : Wo} {rf : Int32} (h : fX3_copyFrom_8 x2 x3 u = some (rf, uf)) : CV l dC dI cI (WC ad cI) (AF ad 14) yX3_copyFrom cX3_copyFrom 4 none 1 26 [.ref (ad 1), .ref (ad 8), .int x2, .int x3] u uf := by
  refine cv_begin (by decide) (Nat.le_of_ble_eq_true rfl) ?_
  intro p e s m args below meth c S hr hlk hK
  have B_36 : ∀ (u : Wo), fX3_copyFrom_8_36 u = some (rf, uf) → J p l e (rmk 1 26) s m args below meth c dC dI (WC ad cI) (AF ad 14) (MQ below (QV dC dI cI (WC ad cI) (AF ad 14) uf) args s 0 0 (AF ad 14)) u 36 4 [] [] := by
    intro u h H locs ls hP hS hl
    unfold fX3_copyFrom_8_36 at h
    exact x_vret S hr hlk hK hP hS h dX3_copyFrom_36
  intro H locs ls hP hS hl
  have hl : lv_has ls 4 [(0, .ref (ad 1)), (1, .ref (ad 8)), (2, .int x2), (3, .int x3)] := hl
  unfold fX3_copyFrom_8 at h
  refine lv_iload_n S.1 S.2.1 dX3_copyFrom_0 rfl (lv_at hl 2 rfl) ?_
  refine lv_if_lt (tgt := 36) S.1 S.2.1 dX3_copyFrom_1 (by decide) (fun c1 => ?_) (fun c1 => ?_)
  · rw [if_pos c1] at h
    exact B_36 u h _ _ _ hP hS (lv_sub hl [] rfl)
  · rw [if_neg c1] at h
    refine lv_iload_n S.1 S.2.1 dX3_copyFrom_4 rfl (lv_at hl 3 rfl) ?_
    refine lv_if_lt (tgt := 36) S.1 S.2.1 dX3_copyFrom_5 (by decide) (fun c2 => ?_) (fun c2 => ?_)
    · rw [if_pos c2] at h
      exact B_36 u h _ _ _ hP hS (lv_sub hl [] rfl)
    · rw [if_neg c2] at h
      refine lv_iload_n S.1 S.2.1 dX3_copyFrom_8 rfl (lv_at hl 3 rfl) ?_
      refine lv_aload_n S.1 S.2.1 dX3_copyFrom_9 rfl (lv_at hl 0 rfl) ?_
      refine gC_1_row S hK hP wf_X3_11 dX3_copyFrom_10 ?_
      refine nC_6 S hK hP dX3_copyFrom_13 ?_
      refine lv_icmp_gt (tgt := 36) S.1 S.2.1 dX3_copyFrom_14 (by decide) (fun c3 => ?_) (fun c3 => ?_)
      · rw [if_pos c3] at h
        exact B_36 u h _ _ _ hP hS (lv_sub hl [] rfl)
      · rw [if_neg c3] at h
        refine lv_iload_n S.1 S.2.1 dX3_copyFrom_17 rfl (lv_at hl 2 rfl) ?_
        refine lv_aload_n S.1 S.2.1 dX3_copyFrom_18 rfl (lv_at hl 1 rfl) ?_
        refine nC_8 S hK hP dX3_copyFrom_19 ?_
        refine lv_iload_n S.1 S.2.1 dX3_copyFrom_20 rfl (lv_at hl 3 rfl) ?_
        refine lv_isub S.1 S.2.1 dX3_copyFrom_21 ?_
        refine lv_icmp_gt (tgt := 36) S.1 S.2.1 dX3_copyFrom_22 (by decide) (fun c4 => ?_) (fun c4 => ?_)
        · rw [if_pos c4] at h
          exact B_36 u h _ _ _ hP hS (lv_sub hl [] rfl)
        · rw [if_neg c4] at h
          refine lv_aload_n S.1 S.2.1 dX3_copyFrom_25 rfl (lv_at hl 1 rfl) ?_
          refine lv_iload_n S.1 S.2.1 dX3_copyFrom_26 rfl (lv_at hl 2 rfl) ?_
          refine lv_aload_n S.1 S.2.1 dX3_copyFrom_27 rfl (lv_at hl 0 rfl) ?_
          refine gC_1_row S hK hP wf_X3_11 dX3_copyFrom_28 ?_
          refine lv_iconst (v := (0 : Int32)) S.1 S.2.1 dX3_copyFrom_31 (by decide) ?_
          refine lv_iload_n S.1 S.2.1 dX3_copyFrom_32 rfl (lv_at hl 3 rfl) ?_
          obtain ⟨q5, h⟩ := gi_some h
          obtain ⟨u6, hu6, h⟩ := bw_some h
          refine x_cpy (Wf := WC ad cI) S hK hP (WC_D hap u) hS wl_X3_83 hl.1 (hC_8 u) (hC_6 u) q5 ⟨Nat.le_of_ble_eq_true rfl, Nat.le_of_ble_eq_true rfl⟩ dX3_copyFrom_33 hu6 (cC_8_6 u _ _ _) (fun H locs hP hS => ?_)
          exact B_36 u6 h _ _ _ hP hS (lv_sub hl [] rfl)
theorem hy_X1_backToMark : yX1_backToMark.cls ≠ "java/lang/invoke/MethodHandle" ∧ yX1_backToMark.cls ≠ "java/lang/invoke/VarHandle" ∧ (parseMethodDescriptor yX1_backToMark.desc).map (fun d => d.parameters.length) = some 0 := by decide +kernel
set_option maxHeartbeats 4000000 in
set_option maxRecDepth 100000 in
theorem k_X1_backToMark {l : Launch} {dC : Nat → ClassId} {dI : Nat → Nat → Nat} {ad : Nat → Nat} {cI : ClassId} (hap : AP ad 14) {u uf : Wo} {rf : Int32} (h : fX1_backToMark u = some (rf, uf)) : CV l dC dI cI (WC ad cI) (AF ad 14) yX1_backToMark cX1_backToMark 1 none 2 49 [.ref (ad 4)] u uf := by
  refine cv_begin (by decide) (Nat.le_of_ble_eq_true rfl) ?_
  intro p e s m args below meth c S hr hlk hK
  intro H locs ls hP hS hl
  have hl : lv_has ls 1 [(0, .ref (ad 4))] := hl
  unfold fX1_backToMark at h
  refine lv_aload_n S.1 S.2.1 dX1_backToMark_0 rfl (lv_at hl 0 rfl) ?_
  refine gC_4_stand S hK hP wf_X1_9 dX1_backToMark_1 ?_
  refine lv_aload_n S.1 S.2.1 dX1_backToMark_4 rfl (lv_at hl 0 rfl) ?_
  refine gC_4_rows S hK hP wf_X1_15 dX1_backToMark_5 ?_
  refine lv_aload_n S.1 S.2.1 dX1_backToMark_8 rfl (lv_at hl 0 rfl) ?_
  refine gC_4_place S hK hP wf_X1_23 dX1_backToMark_9 ?_
  refine lv_sipush (v := (618 : Int32)) S.1 S.2.1 dX1_backToMark_12 (by decide) ?_
  refine lv_imul S.1 S.2.1 dX1_backToMark_15 ?_
  refine lv_sipush (v := (618 : Int32)) S.1 S.2.1 dX1_backToMark_16 (by decide) ?_
  obtain ⟨r2, u3, q1, h⟩ := bd_some h
  refine x_vv (Wf := WC ad cI) (q0 := 1) (ci := 3) (As := [.ref (ad 8), .int ((u 4 2) * (618 : Int32)), .int (618 : Int32)]) (rest := []) S hK hP hS (k_X3_copyFrom_8 hap q1) rfl rfl wl_X1_30 wi_X3_copyFrom ws_X3_copyFrom wz_X3 wc_X3_copyFrom hy_X3_copyFrom ⟨Nat.le_of_ble_eq_true rfl, Nat.le_of_ble_eq_true rfl⟩ hl.1 rfl (Nat.le_of_ble_eq_true rfl) dX1_backToMark_19 (fun H locs hP hS => ?_)
  exact x_vret S hr hlk hK hP hS h dX1_backToMark_22
theorem hy_X5_settled : yX5_settled.cls ≠ "java/lang/invoke/MethodHandle" ∧ yX5_settled.cls ≠ "java/lang/invoke/VarHandle" ∧ (parseMethodDescriptor yX5_settled.desc).map (fun d => d.parameters.length) = some 0 := by decide +kernel
set_option maxHeartbeats 4000000 in
set_option maxRecDepth 100000 in
theorem k_X5_settled {l : Launch} {dC : Nat → ClassId} {dI : Nat → Nat → Nat} {ad : Nat → Nat} {cI : ClassId} (hap : AP ad 14) {u uf : Wo} {rf : Int32} (h : fX5_settled u = some (rf, uf)) : CI l dC dI cI (WC ad cI) (AF ad 14) yX5_settled cX5_settled 1 (some .boolean) 3 69 [.ref (ad 0)] u rf uf := by
  refine ci_begin (by decide) (Nat.le_of_ble_eq_true rfl) ?_
  intro p e s m args below meth c S hr hlk hK
  intro H locs ls hP hS hl
  have hl : lv_has ls 1 [(0, .ref (ad 0))] := hl
  unfold fX5_settled at h
  refine lv_aload_n S.1 S.2.1 dX5_settled_0 rfl (lv_at hl 0 rfl) ?_
  refine gC_0_stand S hK hP wf_X5_10 dX5_settled_1 ?_
  refine gC_1_tooMany S hK hP wf_X5_182 dX5_settled_4 ?_
  refine lv_if_eq (tgt := 19) S.1 S.2.1 dX5_settled_7 (by decide) (fun c1 => ?_) (fun c1 => ?_)
  · rw [if_pos c1] at h
    refine lv_aload_n S.1 S.2.1 dX5_settled_19 rfl (lv_at hl 0 rfl) ?_
    refine gC_0_past S hK hP wf_X5_37 dX5_settled_20 ?_
    obtain ⟨r3, u4, q2, h⟩ := bd_some h
    refine x_vv (Wf := WC ad cI) (q0 := 4) (ci := 1) (As := []) (rest := []) S hK hP hS (k_X1_keepMark hap q2) rfl rfl wl_X5_188 wi_X1_keepMark ws_X1_keepMark wz_X1 wc_X1_keepMark hy_X1_keepMark ⟨Nat.le_of_ble_eq_true rfl, Nat.le_of_ble_eq_true rfl⟩ hl.1 rfl (Nat.le_of_ble_eq_true rfl) dX5_settled_23 (fun H locs hP hS => ?_)
    refine lv_aload_n S.1 S.2.1 dX5_settled_26 rfl (lv_at hl 0 rfl) ?_
    refine lv_iconst (v := (1 : Int32)) S.1 S.2.1 dX5_settled_27 (by decide) ?_
    obtain ⟨u5, hu5, h⟩ := bw_some h
    refine pC_0_acted S hK hap hP hS wf_X5_61 dX5_settled_28 (by decide) hu5 (fun H locs hP hS => ?_)
    refine lv_iconst (v := (1 : Int32)) S.1 S.2.1 dX5_settled_31 (by decide) ?_
    exact x_zret S hr hlk hK hP hS (by decide) h dX5_settled_32
  · rw [if_neg c1] at h
    refine lv_aload_n S.1 S.2.1 dX5_settled_10 rfl (lv_at hl 0 rfl) ?_
    refine gC_0_past S hK hP wf_X5_37 dX5_settled_11 ?_
    obtain ⟨r7, u8, q6, h⟩ := bd_some h
    refine x_vv (Wf := WC ad cI) (q0 := 4) (ci := 1) (As := []) (rest := []) S hK hP hS (k_X1_backToMark hap q6) rfl rfl wl_X5_185 wi_X1_backToMark ws_X1_backToMark wz_X1 wc_X1_backToMark hy_X1_backToMark ⟨Nat.le_of_ble_eq_true rfl, Nat.le_of_ble_eq_true rfl⟩ hl.1 rfl (Nat.le_of_ble_eq_true rfl) dX5_settled_14 (fun H locs hP hS => ?_)
    refine lv_iconst (v := (0 : Int32)) S.1 S.2.1 dX5_settled_17 (by decide) ?_
    exact x_zret S hr hlk hK hP hS (by decide) h dX5_settled_18
theorem hy_X5_want : yX5_want.cls ≠ "java/lang/invoke/MethodHandle" ∧ yX5_want.cls ≠ "java/lang/invoke/VarHandle" ∧ (parseMethodDescriptor yX5_want.desc).map (fun d => d.parameters.length) = some 1 := by decide +kernel
set_option maxHeartbeats 4000000 in
set_option maxRecDepth 100000 in
theorem k_X5_want {l : Launch} {dC : Nat → ClassId} {dI : Nat → Nat → Nat} {ad : Nat → Nat} {cI : ClassId} (hap : AP ad 14) {x1 : Int32} {u uf : Wo} {rf : Int32} (h : fX5_want x1 u = some (rf, uf)) : CI l dC dI cI (WC ad cI) (AF ad 14) yX5_want cX5_want 2 (some .int) 5 115 [.ref (ad 0), .int x1] u rf uf := by
  refine ci_begin (by decide) (Nat.le_of_ble_eq_true rfl) ?_
  intro p e s m args below meth c S hr hlk hK
  have B_71 : ∀ (s0 : Int32) (u : Wo), fX5_want_71 s0 u = some (rf, uf) → J p l e (rmk 5 115) s m args below meth c dC dI (WC ad cI) (AF ad 14) (MQ below (QI dC dI cI (WC ad cI) (AF ad 14) rf uf) args s 0 0 (AF ad 14)) u 71 2 [] [.int s0] := by
    intro s0 u h H locs ls hP hS hl
    unfold fX5_want_71 at h
    exact x_iret S hr hlk hK hP hS h dX5_want_71
  intro H locs ls hP hS hl
  have hl : lv_has ls 2 [(0, .ref (ad 0)), (1, .int x1)] := hl
  unfold fX5_want at h
  refine lv_aload_n S.1 S.2.1 dX5_want_0 rfl (lv_at hl 0 rfl) ?_
  refine gC_0_stand S hK hP wf_X5_10 dX5_want_1 ?_
  refine lv_iload_n S.1 S.2.1 dX5_want_4 rfl (lv_at hl 1 rfl) ?_
  obtain ⟨r2, u3, q1, h⟩ := bd_some h
  refine x_vi (Wf := WC ad cI) (q0 := 1) (ci := 3) (As := [.int x1]) (rest := []) S hK hP hS (k_X3_isKeeper hap q1) rfl rfl wl_X5_82 wi_X3_isKeeper ws_X3_isKeeper wz_X3 wc_X3_isKeeper hy_X3_isKeeper ⟨Nat.le_of_ble_eq_true rfl, Nat.le_of_ble_eq_true rfl⟩ hl.1 rfl (Nat.le_of_ble_eq_true rfl) dX5_want_5 (fun H locs hP hS => ?_)
  refine lv_if_ne (tgt := 13) S.1 S.2.1 dX5_want_8 (by decide) (fun c4 => ?_) (fun c4 => ?_)
  · rw [if_neg c4] at h
    refine lv_aload_n S.1 S.2.1 dX5_want_13 rfl (lv_at hl 0 rfl) ?_
    refine gC_0_stand S hK hP wf_X5_10 dX5_want_14 ?_
    refine lv_iload_n S.1 S.2.1 dX5_want_17 rfl (lv_at hl 1 rfl) ?_
    refine lv_iconst (v := (0 : Int32)) S.1 S.2.1 dX5_want_18 (by decide) ?_
    obtain ⟨r6, u7, q5, h⟩ := bd_some h
    refine x_vi (Wf := WC ad cI) (q0 := 1) (ci := 3) (As := [.int x1, .int (0 : Int32)]) (rest := []) S hK hP hS (k_X3_of hap q5) rfl rfl wl_X5_74 wi_X3_of ws_X3_of wz_X3 wc_X3_of hy_X3_of ⟨Nat.le_of_ble_eq_true rfl, Nat.le_of_ble_eq_true rfl⟩ hl.1 rfl (Nat.le_of_ble_eq_true rfl) dX5_want_19 (fun H locs hP hS => ?_)
    refine lv_if_eq (tgt := 28) S.1 S.2.1 dX5_want_22 (by decide) (fun c8 => ?_) (fun c8 => ?_)
    · rw [if_pos c8] at h
      refine lv_aload_n S.1 S.2.1 dX5_want_28 rfl (lv_at hl 0 rfl) ?_
      refine gC_0_past S hK hP wf_X5_37 dX5_want_29 ?_
      obtain ⟨r10, u11, q9, h⟩ := bd_some h
      refine x_vv (Wf := WC ad cI) (q0 := 4) (ci := 1) (As := []) (rest := []) S hK hP hS (k_X1_mark hap q9) rfl rfl wl_X5_86 wi_X1_mark ws_X1_mark wz_X1 wc_X1_mark hy_X1_mark ⟨Nat.le_of_ble_eq_true rfl, Nat.le_of_ble_eq_true rfl⟩ hl.1 rfl (Nat.le_of_ble_eq_true rfl) dX5_want_32 (fun H locs hP hS => ?_)
      refine lv_aload_n S.1 S.2.1 dX5_want_35 rfl (lv_at hl 0 rfl) ?_
      refine gC_0_ways S hK hP wf_X5_28 dX5_want_36 ?_
      refine lv_iload_n S.1 S.2.1 dX5_want_39 rfl (lv_at hl 1 rfl) ?_
      obtain ⟨r13, u14, q12, h⟩ := bd_some h
      refine x_vv (Wf := WC ad cI) (q0 := 3) (ci := 4) (As := [.int x1]) (rest := []) S hK hP hS (k_X4_wanted hap q12) rfl rfl wl_X5_89 wi_X4_wanted ws_X4_wanted wz_X4 wc_X4_wanted hy_X4_wanted ⟨Nat.le_of_ble_eq_true rfl, Nat.le_of_ble_eq_true rfl⟩ hl.1 rfl (Nat.le_of_ble_eq_true rfl) dX5_want_40 (fun H locs hP hS => ?_)
      refine lv_aload_n S.1 S.2.1 dX5_want_43 rfl (lv_at hl 0 rfl) ?_
      obtain ⟨r16, u17, q15, h⟩ := bd_some h
      refine x_vi (Wf := WC ad cI) (q0 := 0) (ci := 5) (As := []) (rest := []) S hK hP hS (k_X5_settled hap q15) rfl rfl wl_X5_93 wi_X5_settled ws_X5_settled wz_X5 wc_X5_settled hy_X5_settled ⟨Nat.le_of_ble_eq_true rfl, Nat.le_of_ble_eq_true rfl⟩ hl.1 rfl (Nat.le_of_ble_eq_true rfl) dX5_want_44 (fun H locs hP hS => ?_)
      refine lv_if_ne (tgt := 53) S.1 S.2.1 dX5_want_47 (by decide) (fun c18 => ?_) (fun c18 => ?_)
      · rw [if_neg c18] at h
        refine lv_aload_n S.1 S.2.1 dX5_want_53 rfl (lv_at hl 0 rfl) ?_
        refine gC_0_stand S hK hP wf_X5_10 dX5_want_54 ?_
        refine lv_iload_n S.1 S.2.1 dX5_want_57 rfl (lv_at hl 1 rfl) ?_
        refine lv_iconst (v := (0 : Int32)) S.1 S.2.1 dX5_want_58 (by decide) ?_
        obtain ⟨r20, u21, q19, h⟩ := bd_some h
        refine x_vi (Wf := WC ad cI) (q0 := 1) (ci := 3) (As := [.int x1, .int (0 : Int32)]) (rest := []) S hK hP hS (k_X3_of hap q19) rfl rfl wl_X5_74 wi_X3_of ws_X3_of wz_X3 wc_X3_of hy_X3_of ⟨Nat.le_of_ble_eq_true rfl, Nat.le_of_ble_eq_true rfl⟩ hl.1 rfl (Nat.le_of_ble_eq_true rfl) dX5_want_59 (fun H locs hP hS => ?_)
        refine lv_iconst (v := (2 : Int32)) S.1 S.2.1 dX5_want_62 (by decide) ?_
        refine lv_icmp_ne (tgt := 70) S.1 S.2.1 dX5_want_63 (by decide) (fun c22 => ?_) (fun c22 => ?_)
        · rw [if_neg c22] at h
          refine lv_iconst (v := (0 : Int32)) S.1 S.2.1 dX5_want_70 (by decide) ?_
          exact B_71 _ u21 h _ _ _ hP hS (lv_sub hl [] rfl)
        · rw [if_pos c22] at h
          refine lv_iconst (v := (1 : Int32)) S.1 S.2.1 dX5_want_66 (by decide) ?_
          refine lv_goto (tgt := 71) S.1 S.2.1 dX5_want_67 (by decide) ?_
          exact B_71 _ u21 h _ _ _ hP hS (lv_sub hl [] rfl)
      · rw [if_pos c18] at h
        refine lv_bipush (v := (-3 : Int32)) S.1 S.2.1 dX5_want_50 (by decide) ?_
        exact x_iret S hr hlk hK hP hS h dX5_want_52
    · rw [if_neg c8] at h
      refine lv_bipush (v := (-2 : Int32)) S.1 S.2.1 dX5_want_25 (by decide) ?_
      exact x_iret S hr hlk hK hP hS h dX5_want_27
  · rw [if_pos c4] at h
    refine lv_iconst (v := (-1 : Int32)) S.1 S.2.1 dX5_want_11 (by decide) ?_
    exact x_iret S hr hlk hK hP hS h dX5_want_12
theorem hy_X3_rowHas : yX3_rowHas.cls ≠ "java/lang/invoke/MethodHandle" ∧ yX3_rowHas.cls ≠ "java/lang/invoke/VarHandle" ∧ (parseMethodDescriptor yX3_rowHas.desc).map (fun d => d.parameters.length) = some 1 := by decide +kernel
set_option maxHeartbeats 4000000 in
set_option maxRecDepth 100000 in
theorem k_X3_rowHas {l : Launch} {dC : Nat → ClassId} {dI : Nat → Nat → Nat} {ad : Nat → Nat} {cI : ClassId} (hap : AP ad 14) {x1 : Int32} {u uf : Wo} {rf : Int32} (h : fX3_rowHas x1 u = some (rf, uf)) : CI l dC dI cI (WC ad cI) (AF ad 14) yX3_rowHas cX3_rowHas 4 (some .boolean) 1 21 [.ref (ad 1), .int x1] u rf uf := by
  refine ci_begin (by decide) (Nat.le_of_ble_eq_true rfl) ?_
  intro p e s m args below meth c S hr hlk hK
  have B_9 : ∀ (k40 : Wo → Re) (hk40 : ∀ (u : Wo), k40  u = some (rf, uf) → J p l e (rmk 1 21) s m args below meth c dC dI (WC ad cI) (AF ad 14) (MQ below (QI dC dI cI (WC ad cI) (AF ad 14) rf uf) args s 0 0 (AF ad 14)) u 40 4 [] []) (n : Nat) (x1 : Int32) (x2 : Int32) (x3 : Int32) (u : Wo), fX3_rowHas_9 k40 n x1 x2 x3 u = some (rf, uf) → J p l e (rmk 1 21) s m args below meth c dC dI (WC ad cI) (AF ad 14) (MQ below (QI dC dI cI (WC ad cI) (AF ad 14) rf uf) args s 0 0 (AF ad 14)) u 9 4 [(0, .ref (ad 1)), (1, .int x1), (2, .int x2), (3, .int x3)] [] := by
    intro k40 hk40
    intro n
    induction n with
    | zero => intro x1 x2 x3 u h; cases h
    | succ n ih =>
      intro x1 x2 x3 u h H locs ls hP hS hl
      rw [fX3_rowHas_9.eq_2] at h
      refine lv_iload_n S.1 S.2.1 dX3_rowHas_9 rfl (lv_at hl 3 rfl) ?_
      refine lv_iload_n S.1 S.2.1 dX3_rowHas_10 rfl (lv_at hl 2 rfl) ?_
      refine lv_icmp_ge (tgt := 40) S.1 S.2.1 dX3_rowHas_11 (by decide) (fun c4 => ?_) (fun c4 => ?_)
      · rw [if_pos c4] at h
        exact hk40 u h _ _ _ hP hS (lv_sub hl [] rfl)
      · rw [if_neg c4] at h
        refine lv_iload_n S.1 S.2.1 dX3_rowHas_14 rfl (lv_at hl 3 rfl) ?_
        refine lv_bipush (v := (6 : Int32)) S.1 S.2.1 dX3_rowHas_15 (by decide) ?_
        refine lv_icmp_ge (tgt := 40) S.1 S.2.1 dX3_rowHas_17 (by decide) (fun c5 => ?_) (fun c5 => ?_)
        · rw [if_pos c5] at h
          exact hk40 u h _ _ _ hP hS (lv_sub hl [] rfl)
        · rw [if_neg c5] at h
          refine lv_aload_n S.1 S.2.1 dX3_rowHas_20 rfl (lv_at hl 0 rfl) ?_
          refine lv_bipush (v := (38 : Int32)) S.1 S.2.1 dX3_rowHas_21 (by decide) ?_
          refine lv_iload_n S.1 S.2.1 dX3_rowHas_23 rfl (lv_at hl 3 rfl) ?_
          refine lv_iadd S.1 S.2.1 dX3_rowHas_24 ?_
          obtain ⟨r7, u8, q6, h⟩ := bd_some h
          refine x_vi (Wf := WC ad cI) (q0 := 1) (ci := 3) (As := [.int ((38 : Int32) + x3)]) (rest := []) S hK hP hS (k_X3_get hap q6) rfl rfl wl_X3_36 wi_X3_get ws_X3_get wz_X3 wc_X3_get hy_X3_get ⟨Nat.le_of_ble_eq_true rfl, Nat.le_of_ble_eq_true rfl⟩ hl.1 rfl (Nat.le_of_ble_eq_true rfl) dX3_rowHas_25 (fun H locs hP hS => ?_)
          refine lv_iload_n S.1 S.2.1 dX3_rowHas_28 rfl (lv_at hl 1 rfl) ?_
          refine lv_icmp_ne (tgt := 34) S.1 S.2.1 dX3_rowHas_29 (by decide) (fun c9 => ?_) (fun c9 => ?_)
          · rw [if_neg c9] at h
            refine lv_iinc (v := (x3 + (1 : Int32))) (lv' := [(3, .int (x3 + (1 : Int32))), (0, .ref (ad 1)), (1, .int x1), (2, .int x2)]) S.1 S.2.1 dX3_rowHas_34 hl (k := 3) rfl rfl (by decide) rfl (fun ls hl => ?_)
            refine lv_goto (tgt := 9) S.1 S.2.1 dX3_rowHas_37 (by decide) ?_
            exact ih _ _ _ u8 h _ _ _ hP hS (lv_sub hl [1, 2, 3, 0] rfl)
          · rw [if_pos c9] at h
            refine lv_iconst (v := (1 : Int32)) S.1 S.2.1 dX3_rowHas_32 (by decide) ?_
            exact x_zret S hr hlk hK hP hS (by decide) h dX3_rowHas_33
  have B_40 : ∀ (u : Wo), fX3_rowHas_40 u = some (rf, uf) → J p l e (rmk 1 21) s m args below meth c dC dI (WC ad cI) (AF ad 14) (MQ below (QI dC dI cI (WC ad cI) (AF ad 14) rf uf) args s 0 0 (AF ad 14)) u 40 4 [] [] := by
    intro u h H locs ls hP hS hl
    unfold fX3_rowHas_40 at h
    refine lv_iconst (v := (0 : Int32)) S.1 S.2.1 dX3_rowHas_40 (by decide) ?_
    exact x_zret S hr hlk hK hP hS (by decide) h dX3_rowHas_41
  intro H locs ls hP hS hl
  have hl : lv_has ls 4 [(0, .ref (ad 1)), (1, .int x1)] := hl
  unfold fX3_rowHas at h
  refine lv_aload_n S.1 S.2.1 dX3_rowHas_0 rfl (lv_at hl 0 rfl) ?_
  refine lv_bipush (v := (37 : Int32)) S.1 S.2.1 dX3_rowHas_1 (by decide) ?_
  obtain ⟨r2, u3, q1, h⟩ := bd_some h
  refine x_vi (Wf := WC ad cI) (q0 := 1) (ci := 3) (As := [.int (37 : Int32)]) (rest := []) S hK hP hS (k_X3_get hap q1) rfl rfl wl_X3_36 wi_X3_get ws_X3_get wz_X3 wc_X3_get hy_X3_get ⟨Nat.le_of_ble_eq_true rfl, Nat.le_of_ble_eq_true rfl⟩ hl.1 rfl (Nat.le_of_ble_eq_true rfl) dX3_rowHas_3 (fun H locs hP hS => ?_)
  refine lv_istore_n (lv' := [(2, .int r2), (0, .ref (ad 1)), (1, .int x1)]) S.1 S.2.1 dX3_rowHas_6 rfl hl (by decide) rfl (fun ls hl => ?_)
  refine lv_iconst (v := (0 : Int32)) S.1 S.2.1 dX3_rowHas_7 (by decide) ?_
  refine lv_istore_n (lv' := [(3, .int (0 : Int32)), (2, .int r2), (0, .ref (ad 1)), (1, .int x1)]) S.1 S.2.1 dX3_rowHas_8 rfl hl (by decide) rfl (fun ls hl => ?_)
  exact B_9 _ B_40 FU _ _ _ u3 h _ _ _ hP hS (lv_sub hl [2, 3, 1, 0] rfl)
theorem hy_X4_isDue : yX4_isDue.cls ≠ "java/lang/invoke/MethodHandle" ∧ yX4_isDue.cls ≠ "java/lang/invoke/VarHandle" ∧ (parseMethodDescriptor yX4_isDue.desc).map (fun d => d.parameters.length) = some 2 := by decide +kernel
set_option maxHeartbeats 4000000 in
set_option maxRecDepth 100000 in
theorem k_X4_isDue {l : Launch} {dC : Nat → ClassId} {dI : Nat → Nat → Nat} {ad : Nat → Nat} {cI : ClassId} (hap : AP ad 14) {x1 x2 : Int32} {u uf : Wo} {rf : Int32} (h : fX4_isDue x1 x2 u = some (rf, uf)) : CI l dC dI cI (WC ad cI) (AF ad 14) yX4_isDue cX4_isDue 3 (some .boolean) 2 43 [.ref (ad 3), .int x1, .int x2] u rf uf := by
  refine ci_begin (by decide) (Nat.le_of_ble_eq_true rfl) ?_
  intro p e s m args below meth c S hr hlk hK
  have B_30 : ∀ (s0 : Int32) (u : Wo), fX4_isDue_30 s0 u = some (rf, uf) → J p l e (rmk 2 43) s m args below meth c dC dI (WC ad cI) (AF ad 14) (MQ below (QI dC dI cI (WC ad cI) (AF ad 14) rf uf) args s 0 0 (AF ad 14)) u 30 3 [] [.int s0] := by
    intro s0 u h H locs ls hP hS hl
    unfold fX4_isDue_30 at h
    obtain ⟨q8, h⟩ := gi_some h
    exact x_zret S hr hlk hK hP hS q8 h dX4_isDue_30
  intro H locs ls hP hS hl
  have hl : lv_has ls 3 [(0, .ref (ad 3)), (1, .int x1), (2, .int x2)] := hl
  unfold fX4_isDue at h
  refine lv_aload_n S.1 S.2.1 dX4_isDue_0 rfl (lv_at hl 0 rfl) ?_
  refine gC_3_stand S hK hP wf_X4_9 dX4_isDue_1 ?_
  refine lv_iload_n S.1 S.2.1 dX4_isDue_4 rfl (lv_at hl 1 rfl) ?_
  refine lv_iload_n S.1 S.2.1 dX4_isDue_5 rfl (lv_at hl 2 rfl) ?_
  obtain ⟨r2, u3, q1, h⟩ := bd_some h
  refine x_vi (Wf := WC ad cI) (q0 := 1) (ci := 3) (As := [.int x1, .int x2]) (rest := []) S hK hP hS (k_X3_known hap q1) rfl rfl wl_X4_128 wi_X3_known ws_X3_known wz_X3 wc_X3_known hy_X3_known ⟨Nat.le_of_ble_eq_true rfl, Nat.le_of_ble_eq_true rfl⟩ hl.1 rfl (Nat.le_of_ble_eq_true rfl) dX4_isDue_6 (fun H locs hP hS => ?_)
  refine lv_aload_n S.1 S.2.1 dX4_isDue_9 rfl (lv_at hl 0 rfl) ?_
  refine gC_3_stand S hK hP wf_X4_9 dX4_isDue_10 ?_
  refine lv_bipush (v := (31 : Int32)) S.1 S.2.1 dX4_isDue_13 (by decide) ?_
  refine lv_iload_n S.1 S.2.1 dX4_isDue_15 rfl (lv_at hl 2 rfl) ?_
  refine lv_iadd S.1 S.2.1 dX4_isDue_16 ?_
  obtain ⟨r5, u6, q4, h⟩ := bd_some h
  refine x_vi (Wf := WC ad cI) (q0 := 1) (ci := 3) (As := [.int ((31 : Int32) + x2)]) (rest := [.int r2]) S hK hP hS (k_X3_get hap q4) rfl rfl wl_X4_32 wi_X3_get ws_X3_get wz_X3 wc_X3_get hy_X3_get ⟨Nat.le_of_ble_eq_true rfl, Nat.le_of_ble_eq_true rfl⟩ hl.1 rfl (Nat.le_of_ble_eq_true rfl) dX4_isDue_17 (fun H locs hP hS => ?_)
  refine lv_iconst (v := (1 : Int32)) S.1 S.2.1 dX4_isDue_20 (by decide) ?_
  refine lv_iadd S.1 S.2.1 dX4_isDue_21 ?_
  refine lv_icmp_ne (tgt := 29) S.1 S.2.1 dX4_isDue_22 (by decide) (fun c7 => ?_) (fun c7 => ?_)
  · rw [if_neg c7] at h
    refine lv_iconst (v := (0 : Int32)) S.1 S.2.1 dX4_isDue_29 (by decide) ?_
    exact B_30 _ u6 h _ _ _ hP hS (lv_sub hl [] rfl)
  · rw [if_pos c7] at h
    refine lv_iconst (v := (1 : Int32)) S.1 S.2.1 dX4_isDue_25 (by decide) ?_
    refine lv_goto (tgt := 30) S.1 S.2.1 dX4_isDue_26 (by decide) ?_
    exact B_30 _ u6 h _ _ _ hP hS (lv_sub hl [] rfl)
theorem hy_X4_passToken : yX4_passToken.cls ≠ "java/lang/invoke/MethodHandle" ∧ yX4_passToken.cls ≠ "java/lang/invoke/VarHandle" ∧ (parseMethodDescriptor yX4_passToken.desc).map (fun d => d.parameters.length) = some 2 := by decide +kernel
set_option maxHeartbeats 4000000 in
set_option maxRecDepth 100000 in
theorem k_X4_passToken {l : Launch} {dC : Nat → ClassId} {dI : Nat → Nat → Nat} {ad : Nat → Nat} {cI : ClassId} (hap : AP ad 14) {x1 x2 : Int32} {u uf : Wo} {rf : Int32} (h : fX4_passToken x1 x2 u = some (rf, uf)) : CV l dC dI cI (WC ad cI) (AF ad 14) yX4_passToken cX4_passToken 3 none 2 48 [.ref (ad 3), .int x1, .int x2] u uf := by
  refine cv_begin (by decide) (Nat.le_of_ble_eq_true rfl) ?_
  intro p e s m args below meth c S hr hlk hK
  intro H locs ls hP hS hl
  have hl : lv_has ls 3 [(0, .ref (ad 3)), (1, .int x1), (2, .int x2)] := hl
  unfold fX4_passToken at h
  refine lv_aload_n S.1 S.2.1 dX4_passToken_0 rfl (lv_at hl 0 rfl) ?_
  refine gC_3_stand S hK hP wf_X4_9 dX4_passToken_1 ?_
  refine lv_bipush (v := (30 : Int32)) S.1 S.2.1 dX4_passToken_4 (by decide) ?_
  refine lv_iconst (v := (-1 : Int32)) S.1 S.2.1 dX4_passToken_6 (by decide) ?_
  obtain ⟨r2, u3, q1, h⟩ := bd_some h
  refine x_vv (Wf := WC ad cI) (q0 := 1) (ci := 3) (As := [.int (30 : Int32), .int (-1 : Int32)]) (rest := []) S hK hP hS (k_X3_put hap q1) rfl rfl wl_X4_36 wi_X3_put ws_X3_put wz_X3 wc_X3_put hy_X3_put ⟨Nat.le_of_ble_eq_true rfl, Nat.le_of_ble_eq_true rfl⟩ hl.1 rfl (Nat.le_of_ble_eq_true rfl) dX4_passToken_7 (fun H locs hP hS => ?_)
  refine lv_aload_n S.1 S.2.1 dX4_passToken_10 rfl (lv_at hl 0 rfl) ?_
  refine gC_3_stand S hK hP wf_X4_9 dX4_passToken_11 ?_
  refine lv_iload_n S.1 S.2.1 dX4_passToken_14 rfl (lv_at hl 1 rfl) ?_
  refine lv_iload_n S.1 S.2.1 dX4_passToken_15 rfl (lv_at hl 2 rfl) ?_
  refine lv_iconst (v := (2 : Int32)) S.1 S.2.1 dX4_passToken_16 (by decide) ?_
  refine lv_iconst (v := (0 : Int32)) S.1 S.2.1 dX4_passToken_17 (by decide) ?_
  obtain ⟨r5, u6, q4, h⟩ := bd_some h
  refine x_vv (Wf := WC ad cI) (q0 := 1) (ci := 3) (As := [.int x1, .int x2, .int (2 : Int32), .int (0 : Int32)]) (rest := []) S hK hP hS (k_X3_send hap q4) rfl rfl wl_X4_118 wi_X3_send ws_X3_send wz_X3 wc_X3_send hy_X3_send ⟨Nat.le_of_ble_eq_true rfl, Nat.le_of_ble_eq_true rfl⟩ hl.1 rfl (Nat.le_of_ble_eq_true rfl) dX4_passToken_18 (fun H locs hP hS => ?_)
  exact x_vret S hr hlk hK hP hS h dX4_passToken_21
