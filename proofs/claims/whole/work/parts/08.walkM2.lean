theorem hy_X6_ofMode : yX6_ofMode.cls ≠ "java/lang/invoke/MethodHandle" ∧ yX6_ofMode.cls ≠ "java/lang/invoke/VarHandle" ∧ (parseMethodDescriptor yX6_ofMode.desc).map (fun d => d.parameters.length) = some 1 := by decide +kernel
set_option maxHeartbeats 4000000 in
set_option maxRecDepth 100000 in
theorem k_X6_ofMode {l : Launch} {dC : Nat → ClassId} {dI : Nat → Nat → Nat} {ad : Nat → Nat} {cI : ClassId} (hap : AP ad 9) {x1 : Int32} {u uf : Wo} {rf : Int32} (h : fX6_ofMode x1 u = some (rf, uf)) : CI l dC dI cI (WM ad cI) (AF ad 9) yX6_ofMode cX6_ofMode 4 (some .int) 0 0 [.ref (ad 0), .int x1] u rf uf := by
  refine ci_begin (by decide) (Nat.le_of_ble_eq_true rfl) ?_
  intro p e s m args below meth c S hr hlk hK
  have B_33 : ∀ (k4 : Int32 → Int32 → Int32 → Wo → Re) (hk4 : ∀ (x1 : Int32) (x2 : Int32) (x3 : Int32) (u : Wo), k4 x1 x2 x3 u = some (rf, uf) → J p l e (rmk 0 0) s m args below meth c dC dI (WM ad cI) (AF ad 9) (MQ below (QI dC dI cI (WM ad cI) (AF ad 9) rf uf) args s 0 0 (AF ad 9)) u 4 4 [(0, .ref (ad 0)), (1, .int x1), (2, .int x2), (3, .int x3)] []) (x1 : Int32) (x3 : Int32) (s0 : Int32) (s1 : Int32) (u : Wo), fX6_ofMode_33 k4 x1 x3 s0 s1 u = some (rf, uf) → J p l e (rmk 0 0) s m args below meth c dC dI (WM ad cI) (AF ad 9) (MQ below (QI dC dI cI (WM ad cI) (AF ad 9) rf uf) args s 0 0 (AF ad 9)) u 33 4 [(0, .ref (ad 0)), (1, .int x1), (3, .int x3)] [.int s1, .int s0] := by
    intro k4 hk4 x1 x3 s0 s1 u h H locs ls hP hS hl
    unfold fX6_ofMode_33 at h
    refine lv_iadd S.1 S.2.1 dX6_ofMode_33 ?_
    refine lv_istore_n (lv' := [(2, .int (s0 + s1)), (0, .ref (ad 0)), (1, .int x1), (3, .int x3)]) S.1 S.2.1 dX6_ofMode_34 rfl hl (by decide) rfl (fun ls hl => ?_)
    refine lv_iinc (v := (x3 + (1 : Int32))) (lv' := [(3, .int (x3 + (1 : Int32))), (2, .int (s0 + s1)), (0, .ref (ad 0)), (1, .int x1)]) S.1 S.2.1 dX6_ofMode_35 hl (k := 3) rfl rfl (by decide) rfl (fun ls hl => ?_)
    refine lv_goto (tgt := 4) S.1 S.2.1 dX6_ofMode_38 (by decide) ?_
    exact hk4 _ _ _ u h _ _ _ hP hS (lv_sub hl [2, 3, 1, 0] rfl)
  have B_4 : ∀ (k41 : Int32 → Wo → Re) (hk41 : ∀ (x2 : Int32) (u : Wo), k41 x2 u = some (rf, uf) → J p l e (rmk 0 0) s m args below meth c dC dI (WM ad cI) (AF ad 9) (MQ below (QI dC dI cI (WM ad cI) (AF ad 9) rf uf) args s 0 0 (AF ad 9)) u 41 4 [(2, .int x2)] []) (n : Nat) (x1 : Int32) (x2 : Int32) (x3 : Int32) (u : Wo), fX6_ofMode_4 k41 n x1 x2 x3 u = some (rf, uf) → J p l e (rmk 0 0) s m args below meth c dC dI (WM ad cI) (AF ad 9) (MQ below (QI dC dI cI (WM ad cI) (AF ad 9) rf uf) args s 0 0 (AF ad 9)) u 4 4 [(0, .ref (ad 0)), (1, .int x1), (2, .int x2), (3, .int x3)] [] := by
    intro k41 hk41
    intro n
    induction n with
    | zero => intro x1 x2 x3 u h; cases h
    | succ n ih =>
      intro x1 x2 x3 u h H locs ls hP hS hl
      rw [fX6_ofMode_4.eq_2] at h
      refine lv_iload_n S.1 S.2.1 dX6_ofMode_4 rfl (lv_at hl 3 rfl) ?_
      refine lv_aload_n S.1 S.2.1 dX6_ofMode_5 rfl (lv_at hl 0 rfl) ?_
      refine gM_0_n S hK hP wf_X6_7 dX6_ofMode_6 ?_
      refine lv_icmp_ge (tgt := 41) S.1 S.2.1 dX6_ofMode_9 (by decide) (fun c1 => ?_) (fun c1 => ?_)
      · rw [if_pos c1] at h
        exact hk41 _ u h _ _ _ hP hS (lv_sub hl [2] rfl)
      · rw [if_neg c1] at h
        refine lv_iload_n S.1 S.2.1 dX6_ofMode_12 rfl (lv_at hl 2 rfl) ?_
        refine lv_aload_n S.1 S.2.1 dX6_ofMode_13 rfl (lv_at hl 0 rfl) ?_
        refine gM_0_st S hK hP wf_X6_17 dX6_ofMode_14 ?_
        refine lv_bipush (v := (21 : Int32)) S.1 S.2.1 dX6_ofMode_17 (by decide) ?_
        refine lv_iload_n S.1 S.2.1 dX6_ofMode_19 rfl (lv_at hl 3 rfl) ?_
        refine lv_imul S.1 S.2.1 dX6_ofMode_20 ?_
        refine lv_iconst (v := (0 : Int32)) S.1 S.2.1 dX6_ofMode_21 (by decide) ?_
        refine lv_iadd S.1 S.2.1 dX6_ofMode_22 ?_
        obtain ⟨q2, h⟩ := gi_some h
        refine lM_2 S hK hP q2 dX6_ofMode_23 ?_
        refine lv_iload_n S.1 S.2.1 dX6_ofMode_24 rfl (lv_at hl 1 rfl) ?_
        refine lv_icmp_ne (tgt := 32) S.1 S.2.1 dX6_ofMode_25 (by decide) (fun c3 => ?_) (fun c3 => ?_)
        · rw [if_neg c3] at h
          refine lv_iconst (v := (0 : Int32)) S.1 S.2.1 dX6_ofMode_32 (by decide) ?_
          exact B_33 _ ih _ _ _ _ u h _ _ _ hP hS (lv_sub hl [0, 1, 3] rfl)
        · rw [if_pos c3] at h
          refine lv_iconst (v := (1 : Int32)) S.1 S.2.1 dX6_ofMode_28 (by decide) ?_
          refine lv_goto (tgt := 33) S.1 S.2.1 dX6_ofMode_29 (by decide) ?_
          exact B_33 _ ih _ _ _ _ u h _ _ _ hP hS (lv_sub hl [0, 1, 3] rfl)
  have B_41 : ∀ (x2 : Int32) (u : Wo), fX6_ofMode_41 x2 u = some (rf, uf) → J p l e (rmk 0 0) s m args below meth c dC dI (WM ad cI) (AF ad 9) (MQ below (QI dC dI cI (WM ad cI) (AF ad 9) rf uf) args s 0 0 (AF ad 9)) u 41 4 [(2, .int x2)] [] := by
    intro x2 u h H locs ls hP hS hl
    unfold fX6_ofMode_41 at h
    refine lv_iload_n S.1 S.2.1 dX6_ofMode_41 rfl (lv_at hl 0 rfl) ?_
    exact x_iret S hr hlk hK hP hS h dX6_ofMode_42
  intro H locs ls hP hS hl
  have hl : lv_has ls 4 [(0, .ref (ad 0)), (1, .int x1)] := hl
  unfold fX6_ofMode at h
  refine lv_iconst (v := (0 : Int32)) S.1 S.2.1 dX6_ofMode_0 (by decide) ?_
  refine lv_istore_n (lv' := [(2, .int (0 : Int32)), (0, .ref (ad 0)), (1, .int x1)]) S.1 S.2.1 dX6_ofMode_1 rfl hl (by decide) rfl (fun ls hl => ?_)
  refine lv_iconst (v := (0 : Int32)) S.1 S.2.1 dX6_ofMode_2 (by decide) ?_
  refine lv_istore_n (lv' := [(3, .int (0 : Int32)), (2, .int (0 : Int32)), (0, .ref (ad 0)), (1, .int x1)]) S.1 S.2.1 dX6_ofMode_3 rfl hl (by decide) rfl (fun ls hl => ?_)
  exact B_4 _ B_41 FU _ _ _ u h _ _ _ hP hS (lv_sub hl [2, 3, 1, 0] rfl)
theorem hy_X6_more : yX6_more.cls ≠ "java/lang/invoke/MethodHandle" ∧ yX6_more.cls ≠ "java/lang/invoke/VarHandle" ∧ (parseMethodDescriptor yX6_more.desc).map (fun d => d.parameters.length) = some 2 := by decide +kernel
set_option maxHeartbeats 4000000 in
set_option maxRecDepth 100000 in
theorem k_X6_more {l : Launch} {dC : Nat → ClassId} {dI : Nat → Nat → Nat} {ad : Nat → Nat} {cI : ClassId} (hap : AP ad 9) {x0 x1 : Int32} {u uf : Wo} {rf : Int32} (h : fX6_more x0 x1 u = some (rf, uf)) : CI l dC dI cI (WM ad cI) (AF ad 9) yX6_more cX6_more 2 (some .int) 0 0 [.int x0, .int x1] u rf uf := by
  refine ci_begin (by decide) (Nat.le_of_ble_eq_true rfl) ?_
  intro p e s m args below meth c S hr hlk hK
  have B_10 : ∀ (s0 : Int32) (u : Wo), fX6_more_10 s0 u = some (rf, uf) → J p l e (rmk 0 0) s m args below meth c dC dI (WM ad cI) (AF ad 9) (MQ below (QI dC dI cI (WM ad cI) (AF ad 9) rf uf) args s 0 0 (AF ad 9)) u 10 2 [] [.int s0] := by
    intro s0 u h H locs ls hP hS hl
    unfold fX6_more_10 at h
    exact x_iret S hr hlk hK hP hS h dX6_more_10
  intro H locs ls hP hS hl
  have hl : lv_has ls 2 [(0, .int x0), (1, .int x1)] := hl
  unfold fX6_more at h
  refine lv_iload_n S.1 S.2.1 dX6_more_0 rfl (lv_at hl 0 rfl) ?_
  refine lv_iload_n S.1 S.2.1 dX6_more_1 rfl (lv_at hl 1 rfl) ?_
  refine lv_icmp_le (tgt := 9) S.1 S.2.1 dX6_more_2 (by decide) (fun c1 => ?_) (fun c1 => ?_)
  · rw [if_pos c1] at h
    refine lv_iload_n S.1 S.2.1 dX6_more_9 rfl (lv_at hl 1 rfl) ?_
    exact B_10 _ u h _ _ _ hP hS (lv_sub hl [] rfl)
  · rw [if_neg c1] at h
    refine lv_iload_n S.1 S.2.1 dX6_more_5 rfl (lv_at hl 0 rfl) ?_
    refine lv_goto (tgt := 10) S.1 S.2.1 dX6_more_6 (by decide) ?_
    exact B_10 _ u h _ _ _ hP hS (lv_sub hl [] rfl)
theorem hy_X6_underWay : yX6_underWay.cls ≠ "java/lang/invoke/MethodHandle" ∧ yX6_underWay.cls ≠ "java/lang/invoke/VarHandle" ∧ (parseMethodDescriptor yX6_underWay.desc).map (fun d => d.parameters.length) = some 0 := by decide +kernel
set_option maxHeartbeats 4000000 in
set_option maxRecDepth 100000 in
theorem k_X6_underWay {l : Launch} {dC : Nat → ClassId} {dI : Nat → Nat → Nat} {ad : Nat → Nat} {cI : ClassId} (hap : AP ad 9) {u uf : Wo} {rf : Int32} (h : fX6_underWay u = some (rf, uf)) : CI l dC dI cI (WM ad cI) (AF ad 9) yX6_underWay cX6_underWay 3 (some .int) 0 0 [.ref (ad 0)] u rf uf := by
  refine ci_begin (by decide) (Nat.le_of_ble_eq_true rfl) ?_
  intro p e s m args below meth c S hr hlk hK
  have B_4 : ∀ (k32 : Int32 → Wo → Re) (hk32 : ∀ (x1 : Int32) (u : Wo), k32 x1 u = some (rf, uf) → J p l e (rmk 0 0) s m args below meth c dC dI (WM ad cI) (AF ad 9) (MQ below (QI dC dI cI (WM ad cI) (AF ad 9) rf uf) args s 0 0 (AF ad 9)) u 32 3 [(1, .int x1)] []) (n : Nat) (x1 : Int32) (x2 : Int32) (u : Wo), fX6_underWay_4 k32 n x1 x2 u = some (rf, uf) → J p l e (rmk 0 0) s m args below meth c dC dI (WM ad cI) (AF ad 9) (MQ below (QI dC dI cI (WM ad cI) (AF ad 9) rf uf) args s 0 0 (AF ad 9)) u 4 3 [(0, .ref (ad 0)), (1, .int x1), (2, .int x2)] [] := by
    intro k32 hk32
    intro n
    induction n with
    | zero => intro x1 x2 u h; cases h
    | succ n ih =>
      intro x1 x2 u h H locs ls hP hS hl
      rw [fX6_underWay_4.eq_2] at h
      refine lv_iload_n S.1 S.2.1 dX6_underWay_4 rfl (lv_at hl 2 rfl) ?_
      refine lv_bipush (v := (36 : Int32)) S.1 S.2.1 dX6_underWay_5 (by decide) ?_
      refine lv_icmp_ge (tgt := 32) S.1 S.2.1 dX6_underWay_7 (by decide) (fun c1 => ?_) (fun c1 => ?_)
      · rw [if_pos c1] at h
        exact hk32 _ u h _ _ _ hP hS (lv_sub hl [1] rfl)
      · rw [if_neg c1] at h
        refine lv_iload_n S.1 S.2.1 dX6_underWay_10 rfl (lv_at hl 1 rfl) ?_
        refine lv_aload_n S.1 S.2.1 dX6_underWay_11 rfl (lv_at hl 0 rfl) ?_
        refine gM_0_st S hK hP wf_X6_17 dX6_underWay_12 ?_
        refine lv_sipush (v := (140 : Int32)) S.1 S.2.1 dX6_underWay_15 (by decide) ?_
        refine lv_bipush (v := (25 : Int32)) S.1 S.2.1 dX6_underWay_18 (by decide) ?_
        refine lv_iload_n S.1 S.2.1 dX6_underWay_20 rfl (lv_at hl 2 rfl) ?_
        refine lv_imul S.1 S.2.1 dX6_underWay_21 ?_
        refine lv_iadd S.1 S.2.1 dX6_underWay_22 ?_
        obtain ⟨q2, h⟩ := gi_some h
        refine lM_2 S hK hP q2 dX6_underWay_23 ?_
        refine lv_iadd S.1 S.2.1 dX6_underWay_24 ?_
        obtain ⟨y3, hy3, h⟩ := bn_some h
        rw [hy3]
        refine lv_istore_n (lv' := [(1, .int y3), (0, .ref (ad 0)), (2, .int x2)]) S.1 S.2.1 dX6_underWay_25 rfl hl (by decide) rfl (fun ls hl => ?_)
        refine lv_iinc (v := (x2 + (1 : Int32))) (lv' := [(2, .int (x2 + (1 : Int32))), (1, .int y3), (0, .ref (ad 0))]) S.1 S.2.1 dX6_underWay_26 hl (k := 2) rfl rfl (by decide) rfl (fun ls hl => ?_)
        refine lv_goto (tgt := 4) S.1 S.2.1 dX6_underWay_29 (by decide) ?_
        exact ih _ _ u h _ _ _ hP hS (lv_sub hl [2, 1, 0] rfl)
  have B_32 : ∀ (x1 : Int32) (u : Wo), fX6_underWay_32 x1 u = some (rf, uf) → J p l e (rmk 0 0) s m args below meth c dC dI (WM ad cI) (AF ad 9) (MQ below (QI dC dI cI (WM ad cI) (AF ad 9) rf uf) args s 0 0 (AF ad 9)) u 32 3 [(1, .int x1)] [] := by
    intro x1 u h H locs ls hP hS hl
    unfold fX6_underWay_32 at h
    refine lv_iload_n S.1 S.2.1 dX6_underWay_32 rfl (lv_at hl 0 rfl) ?_
    exact x_iret S hr hlk hK hP hS h dX6_underWay_33
  intro H locs ls hP hS hl
  have hl : lv_has ls 3 [(0, .ref (ad 0))] := hl
  unfold fX6_underWay at h
  refine lv_iconst (v := (0 : Int32)) S.1 S.2.1 dX6_underWay_0 (by decide) ?_
  refine lv_istore_n (lv' := [(1, .int (0 : Int32)), (0, .ref (ad 0))]) S.1 S.2.1 dX6_underWay_1 rfl hl (by decide) rfl (fun ls hl => ?_)
  refine lv_iconst (v := (0 : Int32)) S.1 S.2.1 dX6_underWay_2 (by decide) ?_
  refine lv_istore_n (lv' := [(2, .int (0 : Int32)), (1, .int (0 : Int32)), (0, .ref (ad 0))]) S.1 S.2.1 dX6_underWay_3 rfl hl (by decide) rfl (fun ls hl => ?_)
  exact B_4 _ B_32 FU _ _ u h _ _ _ hP hS (lv_sub hl [2, 1, 0] rfl)
theorem hy_X6_goes : yX6_goes.cls ≠ "java/lang/invoke/MethodHandle" ∧ yX6_goes.cls ≠ "java/lang/invoke/VarHandle" ∧ (parseMethodDescriptor yX6_goes.desc).map (fun d => d.parameters.length) = some 0 := by decide +kernel
set_option maxHeartbeats 4000000 in
set_option maxRecDepth 100000 in
theorem k_X6_goes {l : Launch} {dC : Nat → ClassId} {dI : Nat → Nat → Nat} {ad : Nat → Nat} {cI : ClassId} (hap : AP ad 9) {u uf : Wo} {rf : Int32} (h : fX6_goes u = some (rf, uf)) : CI l dC dI cI (WM ad cI) (AF ad 9) yX6_goes cX6_goes 1 (some .int) 3 67 [.ref (ad 0)] u rf uf := by
  refine ci_begin (by decide) (Nat.le_of_ble_eq_true rfl) ?_
  intro p e s m args below meth c S hr hlk hK
  intro H locs ls hP hS hl
  have hl : lv_has ls 1 [(0, .ref (ad 0))] := hl
  unfold fX6_goes at h
  refine lv_aload_n S.1 S.2.1 dX6_goes_0 rfl (lv_at hl 0 rfl) ?_
  refine gM_0_isOver S hK hP wf_X6_73 dX6_goes_1 ?_
  refine lv_if_eq (tgt := 19) S.1 S.2.1 dX6_goes_4 (by decide) (fun c1 => ?_) (fun c1 => ?_)
  · rw [if_pos c1] at h
    refine lv_aload_n S.1 S.2.1 dX6_goes_19 rfl (lv_at hl 0 rfl) ?_
    obtain ⟨r3, u4, q2, h⟩ := bd_some h
    refine x_vv (Wf := WM ad cI) (q0 := 0) (ci := 6) (As := []) (rest := []) S hK hP hS (k_X6_meets hap q2) rfl rfl wl_X6_162 wi_X6_meets ws_X6_meets wz_X6 wc_X6_meets hy_X6_meets ⟨Nat.le_of_ble_eq_true rfl, Nat.le_of_ble_eq_true rfl⟩ hl.1 rfl (Nat.le_of_ble_eq_true rfl) dX6_goes_20 (fun H locs hP hS => ?_)
    refine lv_iconst (v := (1 : Int32)) S.1 S.2.1 dX6_goes_23 (by decide) ?_
    exact x_iret S hr hlk hK hP hS h dX6_goes_24
  · rw [if_neg c1] at h
    refine lv_aload_n S.1 S.2.1 dX6_goes_7 rfl (lv_at hl 0 rfl) ?_
    refine gM_0_told S hK hP wf_X6_41 dX6_goes_8 ?_
    refine lv_iconst (v := (5 : Int32)) S.1 S.2.1 dX6_goes_11 (by decide) ?_
    refine lv_dup2_11 S.1 S.2.1 dX6_goes_12 rfl rfl ?_
    obtain ⟨q5, h⟩ := gi_some h
    refine lM_8 S hK hP q5 dX6_goes_13 ?_
    refine lv_iconst (v := (1 : Int32)) S.1 S.2.1 dX6_goes_14 (by decide) ?_
    refine lv_iadd S.1 S.2.1 dX6_goes_15 ?_
    obtain ⟨q6, h⟩ := gi_some h
    obtain ⟨u7, hu7, h⟩ := bw_some h
    refine tM_8 S hK hap hP hS q6 dX6_goes_16 hu7 (fun H locs hP hS => ?_)
    refine lv_iconst (v := (0 : Int32)) S.1 S.2.1 dX6_goes_17 (by decide) ?_
    exact x_iret S hr hlk hK hP hS h dX6_goes_18
theorem hy_X6_isTokenSomewhere : yX6_isTokenSomewhere.cls ≠ "java/lang/invoke/MethodHandle" ∧ yX6_isTokenSomewhere.cls ≠ "java/lang/invoke/VarHandle" ∧ (parseMethodDescriptor yX6_isTokenSomewhere.desc).map (fun d => d.parameters.length) = some 0 := by decide +kernel
set_option maxHeartbeats 4000000 in
set_option maxRecDepth 100000 in
theorem k_X6_isTokenSomewhere {l : Launch} {dC : Nat → ClassId} {dI : Nat → Nat → Nat} {ad : Nat → Nat} {cI : ClassId} (hap : AP ad 9) {u uf : Wo} {rf : Int32} (h : fX6_isTokenSomewhere u = some (rf, uf)) : CI l dC dI cI (WM ad cI) (AF ad 9) yX6_isTokenSomewhere cX6_isTokenSomewhere 5 (some .boolean) 1 22 [.ref (ad 0)] u rf uf := by
  refine ci_begin (by decide) (Nat.le_of_ble_eq_true rfl) ?_
  intro p e s m args below meth c S hr hlk hK
  have B_90 : ∀ (k43 : Int32 → Int32 → Int32 → Int32 → Wo → Re) (hk43 : ∀ (x1 : Int32) (x2 : Int32) (x3 : Int32) (x4 : Int32) (u : Wo), k43 x1 x2 x3 x4 u = some (rf, uf) → J p l e (rmk 1 22) s m args below meth c dC dI (WM ad cI) (AF ad 9) (MQ below (QI dC dI cI (WM ad cI) (AF ad 9) rf uf) args s 0 0 (AF ad 9)) u 43 5 [(0, .ref (ad 0)), (1, .int x1), (2, .int x2), (3, .int x3), (4, .int x4)] []) (x2 : Int32) (x3 : Int32) (x4 : Int32) (s0 : Int32) (u : Wo), fX6_isTokenSomewhere_90 k43 x2 x3 x4 s0 u = some (rf, uf) → J p l e (rmk 1 22) s m args below meth c dC dI (WM ad cI) (AF ad 9) (MQ below (QI dC dI cI (WM ad cI) (AF ad 9) rf uf) args s 0 0 (AF ad 9)) u 90 5 [(0, .ref (ad 0)), (2, .int x2), (3, .int x3), (4, .int x4)] [.int s0] := by
    intro k43 hk43 x2 x3 x4 s0 u h H locs ls hP hS hl
    unfold fX6_isTokenSomewhere_90 at h
    refine lv_istore_n (lv' := [(1, .int s0), (0, .ref (ad 0)), (2, .int x2), (3, .int x3), (4, .int x4)]) S.1 S.2.1 dX6_isTokenSomewhere_90 rfl hl (by decide) rfl (fun ls hl => ?_)
    refine lv_iinc (v := (x4 + (1 : Int32))) (lv' := [(4, .int (x4 + (1 : Int32))), (1, .int s0), (0, .ref (ad 0)), (2, .int x2), (3, .int x3)]) S.1 S.2.1 dX6_isTokenSomewhere_91 hl (k := 4) rfl rfl (by decide) rfl (fun ls hl => ?_)
    refine lv_goto (tgt := 43) S.1 S.2.1 dX6_isTokenSomewhere_94 (by decide) ?_
    exact hk43 _ _ _ _ u h _ _ _ hP hS (lv_sub hl [2, 1, 3, 4, 0] rfl)
  have B_85 : ∀ (k43 : Int32 → Int32 → Int32 → Int32 → Wo → Re) (hk43 : ∀ (x1 : Int32) (x2 : Int32) (x3 : Int32) (x4 : Int32) (u : Wo), k43 x1 x2 x3 x4 u = some (rf, uf) → J p l e (rmk 1 22) s m args below meth c dC dI (WM ad cI) (AF ad 9) (MQ below (QI dC dI cI (WM ad cI) (AF ad 9) rf uf) args s 0 0 (AF ad 9)) u 43 5 [(0, .ref (ad 0)), (1, .int x1), (2, .int x2), (3, .int x3), (4, .int x4)] []) (x2 : Int32) (x3 : Int32) (x4 : Int32) (u : Wo), fX6_isTokenSomewhere_85 k43 x2 x3 x4 u = some (rf, uf) → J p l e (rmk 1 22) s m args below meth c dC dI (WM ad cI) (AF ad 9) (MQ below (QI dC dI cI (WM ad cI) (AF ad 9) rf uf) args s 0 0 (AF ad 9)) u 85 5 [(0, .ref (ad 0)), (2, .int x2), (3, .int x3), (4, .int x4)] [] := by
    intro k43 hk43 x2 x3 x4 u h H locs ls hP hS hl
    unfold fX6_isTokenSomewhere_85 at h
    refine lv_iconst (v := (1 : Int32)) S.1 S.2.1 dX6_isTokenSomewhere_85 (by decide) ?_
    refine lv_goto (tgt := 90) S.1 S.2.1 dX6_isTokenSomewhere_86 (by decide) ?_
    exact B_90 _ hk43 _ _ _ _ u h _ _ _ hP hS (lv_sub hl [0, 1, 2, 3] rfl)
  have B_43 : ∀ (k97 : Int32 → Int32 → Int32 → Wo → Re) (hk97 : ∀ (x1 : Int32) (x2 : Int32) (x3 : Int32) (u : Wo), k97 x1 x2 x3 u = some (rf, uf) → J p l e (rmk 1 22) s m args below meth c dC dI (WM ad cI) (AF ad 9) (MQ below (QI dC dI cI (WM ad cI) (AF ad 9) rf uf) args s 0 0 (AF ad 9)) u 97 5 [(0, .ref (ad 0)), (1, .int x1), (2, .int x2), (3, .int x3)] []) (n : Nat) (x1 : Int32) (x2 : Int32) (x3 : Int32) (x4 : Int32) (u : Wo), fX6_isTokenSomewhere_43 k97 n x1 x2 x3 x4 u = some (rf, uf) → J p l e (rmk 1 22) s m args below meth c dC dI (WM ad cI) (AF ad 9) (MQ below (QI dC dI cI (WM ad cI) (AF ad 9) rf uf) args s 0 0 (AF ad 9)) u 43 5 [(0, .ref (ad 0)), (1, .int x1), (2, .int x2), (3, .int x3), (4, .int x4)] [] := by
    intro k97 hk97
    intro n
    induction n with
    | zero => intro x1 x2 x3 x4 u h; cases h
    | succ n ih =>
      intro x1 x2 x3 x4 u h H locs ls hP hS hl
      rw [fX6_isTokenSomewhere_43.eq_2] at h
      refine lv_iload S.1 S.2.1 dX6_isTokenSomewhere_43 (lv_at hl 4 rfl) ?_
      refine lv_aload_n S.1 S.2.1 dX6_isTokenSomewhere_45 rfl (lv_at hl 0 rfl) ?_
      refine gM_0_st S hK hP wf_X6_17 dX6_isTokenSomewhere_46 ?_
      refine lv_aload_n S.1 S.2.1 dX6_isTokenSomewhere_49 rfl (lv_at hl 0 rfl) ?_
      refine lv_iload_n S.1 S.2.1 dX6_isTokenSomewhere_50 rfl (lv_at hl 2 rfl) ?_
      refine lv_iload_n S.1 S.2.1 dX6_isTokenSomewhere_51 rfl (lv_at hl 3 rfl) ?_
      obtain ⟨r5, u6, q4, h⟩ := bd_some h
      refine x_vi (Wf := WM ad cI) (q0 := 0) (ci := 6) (As := [.int x2, .int x3]) (rest := [.ref (ad 2), .int x4]) S hK hP hS (k_X6_pairAt hap q4) rfl rfl wl_X6_69 wi_X6_pairAt ws_X6_pairAt wz_X6 wc_X6_pairAt hy_X6_pairAt ⟨Nat.le_of_ble_eq_true rfl, Nat.le_of_ble_eq_true rfl⟩ hl.1 rfl (Nat.le_of_ble_eq_true rfl) dX6_isTokenSomewhere_52 (fun H locs hP hS => ?_)
      obtain ⟨q7, h⟩ := gi_some h
      refine lM_2 S hK hP q7 dX6_isTokenSomewhere_55 ?_
      refine lv_icmp_ge (tgt := 97) S.1 S.2.1 dX6_isTokenSomewhere_56 (by decide) (fun c8 => ?_) (fun c8 => ?_)
      · rw [if_pos c8] at h
        exact hk97 _ _ _ u6 h _ _ _ hP hS (lv_sub hl [0, 1, 2, 3] rfl)
      · rw [if_neg c8] at h
        refine lv_iload_n S.1 S.2.1 dX6_isTokenSomewhere_59 rfl (lv_at hl 1 rfl) ?_
        refine lv_if_ne (tgt := 85) S.1 S.2.1 dX6_isTokenSomewhere_60 (by decide) (fun c9 => ?_) (fun c9 => ?_)
        · rw [if_neg c9] at h
          exact B_85 _ ih _ _ _ u6 h _ _ _ hP hS (lv_sub hl [0, 2, 3, 4] rfl)
        · rw [if_pos c9] at h
          refine lv_aload_n S.1 S.2.1 dX6_isTokenSomewhere_63 rfl (lv_at hl 0 rfl) ?_
          refine gM_0_st S hK hP wf_X6_17 dX6_isTokenSomewhere_64 ?_
          refine lv_aload_n S.1 S.2.1 dX6_isTokenSomewhere_67 rfl (lv_at hl 0 rfl) ?_
          refine lv_iload_n S.1 S.2.1 dX6_isTokenSomewhere_68 rfl (lv_at hl 2 rfl) ?_
          refine lv_iload_n S.1 S.2.1 dX6_isTokenSomewhere_69 rfl (lv_at hl 3 rfl) ?_
          obtain ⟨r11, u12, q10, h⟩ := bd_some h
          refine x_vi (Wf := WM ad cI) (q0 := 0) (ci := 6) (As := [.int x2, .int x3]) (rest := [.ref (ad 2)]) S hK hP hS (k_X6_pairAt hap q10) rfl rfl wl_X6_69 wi_X6_pairAt ws_X6_pairAt wz_X6 wc_X6_pairAt hy_X6_pairAt ⟨Nat.le_of_ble_eq_true rfl, Nat.le_of_ble_eq_true rfl⟩ hl.1 rfl (Nat.le_of_ble_eq_true rfl) dX6_isTokenSomewhere_70 (fun H locs hP hS => ?_)
          refine lv_iconst (v := (1 : Int32)) S.1 S.2.1 dX6_isTokenSomewhere_73 (by decide) ?_
          refine lv_iadd S.1 S.2.1 dX6_isTokenSomewhere_74 ?_
          refine lv_iconst (v := (2 : Int32)) S.1 S.2.1 dX6_isTokenSomewhere_75 (by decide) ?_
          refine lv_iload S.1 S.2.1 dX6_isTokenSomewhere_76 (lv_at hl 4 rfl) ?_
          refine lv_imul S.1 S.2.1 dX6_isTokenSomewhere_78 ?_
          refine lv_iadd S.1 S.2.1 dX6_isTokenSomewhere_79 ?_
          obtain ⟨q13, h⟩ := gi_some h
          refine lM_2 S hK hP q13 dX6_isTokenSomewhere_80 ?_
          refine lv_iconst (v := (2 : Int32)) S.1 S.2.1 dX6_isTokenSomewhere_81 (by decide) ?_
          refine lv_icmp_ne (tgt := 89) S.1 S.2.1 dX6_isTokenSomewhere_82 (by decide) (fun c14 => ?_) (fun c14 => ?_)
          · rw [if_neg c14] at h
            refine lv_iconst (v := (0 : Int32)) S.1 S.2.1 dX6_isTokenSomewhere_89 (by decide) ?_
            exact B_90 _ ih _ _ _ _ u12 h _ _ _ hP hS (lv_sub hl [0, 2, 3, 4] rfl)
          · rw [if_pos c14] at h
            exact B_85 _ ih _ _ _ u12 h _ _ _ hP hS (lv_sub hl [0, 2, 3, 4] rfl)
  have B_97 : ∀ (k32 : Int32 → Int32 → Int32 → Wo → Re) (hk32 : ∀ (x1 : Int32) (x2 : Int32) (x3 : Int32) (u : Wo), k32 x1 x2 x3 u = some (rf, uf) → J p l e (rmk 1 22) s m args below meth c dC dI (WM ad cI) (AF ad 9) (MQ below (QI dC dI cI (WM ad cI) (AF ad 9) rf uf) args s 0 0 (AF ad 9)) u 32 5 [(0, .ref (ad 0)), (1, .int x1), (2, .int x2), (3, .int x3)] []) (x1 : Int32) (x2 : Int32) (x3 : Int32) (u : Wo), fX6_isTokenSomewhere_97 k32 x1 x2 x3 u = some (rf, uf) → J p l e (rmk 1 22) s m args below meth c dC dI (WM ad cI) (AF ad 9) (MQ below (QI dC dI cI (WM ad cI) (AF ad 9) rf uf) args s 0 0 (AF ad 9)) u 97 5 [(0, .ref (ad 0)), (1, .int x1), (2, .int x2), (3, .int x3)] [] := by
    intro k32 hk32 x1 x2 x3 u h H locs ls hP hS hl
    unfold fX6_isTokenSomewhere_97 at h
    refine lv_iinc (v := (x3 + (1 : Int32))) (lv' := [(3, .int (x3 + (1 : Int32))), (0, .ref (ad 0)), (1, .int x1), (2, .int x2)]) S.1 S.2.1 dX6_isTokenSomewhere_97 hl (k := 3) rfl rfl (by decide) rfl (fun ls hl => ?_)
    refine lv_goto (tgt := 32) S.1 S.2.1 dX6_isTokenSomewhere_100 (by decide) ?_
    exact hk32 _ _ _ u h _ _ _ hP hS (lv_sub hl [1, 2, 3, 0] rfl)
  have B_32 : ∀ (k103 : Int32 → Int32 → Wo → Re) (hk103 : ∀ (x1 : Int32) (x2 : Int32) (u : Wo), k103 x1 x2 u = some (rf, uf) → J p l e (rmk 1 22) s m args below meth c dC dI (WM ad cI) (AF ad 9) (MQ below (QI dC dI cI (WM ad cI) (AF ad 9) rf uf) args s 0 0 (AF ad 9)) u 103 5 [(0, .ref (ad 0)), (1, .int x1), (2, .int x2)] []) (n : Nat) (x1 : Int32) (x2 : Int32) (x3 : Int32) (u : Wo), fX6_isTokenSomewhere_32 k103 n x1 x2 x3 u = some (rf, uf) → J p l e (rmk 1 22) s m args below meth c dC dI (WM ad cI) (AF ad 9) (MQ below (QI dC dI cI (WM ad cI) (AF ad 9) rf uf) args s 0 0 (AF ad 9)) u 32 5 [(0, .ref (ad 0)), (1, .int x1), (2, .int x2), (3, .int x3)] [] := by
    intro k103 hk103
    intro n
    induction n with
    | zero => intro x1 x2 x3 u h; cases h
    | succ n ih =>
      intro x1 x2 x3 u h H locs ls hP hS hl
      rw [fX6_isTokenSomewhere_32.eq_2] at h
      refine lv_iload_n S.1 S.2.1 dX6_isTokenSomewhere_32 rfl (lv_at hl 3 rfl) ?_
      refine lv_aload_n S.1 S.2.1 dX6_isTokenSomewhere_33 rfl (lv_at hl 0 rfl) ?_
      refine gM_0_n S hK hP wf_X6_7 dX6_isTokenSomewhere_34 ?_
      refine lv_icmp_ge (tgt := 103) S.1 S.2.1 dX6_isTokenSomewhere_37 (by decide) (fun c3 => ?_) (fun c3 => ?_)
      · rw [if_pos c3] at h
        exact hk103 _ _ u h _ _ _ hP hS (lv_sub hl [0, 1, 2] rfl)
      · rw [if_neg c3] at h
        refine lv_iconst (v := (0 : Int32)) S.1 S.2.1 dX6_isTokenSomewhere_40 (by decide) ?_
        refine lv_istore (lv' := [(4, .int (0 : Int32)), (0, .ref (ad 0)), (1, .int x1), (2, .int x2), (3, .int x3)]) S.1 S.2.1 dX6_isTokenSomewhere_41 hl (by decide) rfl (fun ls hl => ?_)
        exact B_43 _ (B_97 _ ih) FU _ _ _ _ u h _ _ _ hP hS (lv_sub hl [1, 2, 3, 4, 0] rfl)
  have B_103 : ∀ (k4 : Int32 → Int32 → Wo → Re) (hk4 : ∀ (x1 : Int32) (x2 : Int32) (u : Wo), k4 x1 x2 u = some (rf, uf) → J p l e (rmk 1 22) s m args below meth c dC dI (WM ad cI) (AF ad 9) (MQ below (QI dC dI cI (WM ad cI) (AF ad 9) rf uf) args s 0 0 (AF ad 9)) u 4 5 [(0, .ref (ad 0)), (1, .int x1), (2, .int x2)] []) (x1 : Int32) (x2 : Int32) (u : Wo), fX6_isTokenSomewhere_103 k4 x1 x2 u = some (rf, uf) → J p l e (rmk 1 22) s m args below meth c dC dI (WM ad cI) (AF ad 9) (MQ below (QI dC dI cI (WM ad cI) (AF ad 9) rf uf) args s 0 0 (AF ad 9)) u 103 5 [(0, .ref (ad 0)), (1, .int x1), (2, .int x2)] [] := by
    intro k4 hk4 x1 x2 u h H locs ls hP hS hl
    unfold fX6_isTokenSomewhere_103 at h
    refine lv_iinc (v := (x2 + (1 : Int32))) (lv' := [(2, .int (x2 + (1 : Int32))), (0, .ref (ad 0)), (1, .int x1)]) S.1 S.2.1 dX6_isTokenSomewhere_103 hl (k := 2) rfl rfl (by decide) rfl (fun ls hl => ?_)
    refine lv_goto (tgt := 4) S.1 S.2.1 dX6_isTokenSomewhere_106 (by decide) ?_
    exact hk4 _ _ u h _ _ _ hP hS (lv_sub hl [1, 2, 0] rfl)
  have B_29 : ∀ (k4 : Int32 → Int32 → Wo → Re) (hk4 : ∀ (x1 : Int32) (x2 : Int32) (u : Wo), k4 x1 x2 u = some (rf, uf) → J p l e (rmk 1 22) s m args below meth c dC dI (WM ad cI) (AF ad 9) (MQ below (QI dC dI cI (WM ad cI) (AF ad 9) rf uf) args s 0 0 (AF ad 9)) u 4 5 [(0, .ref (ad 0)), (1, .int x1), (2, .int x2)] []) (x2 : Int32) (s0 : Int32) (u : Wo), fX6_isTokenSomewhere_29 k4 x2 s0 u = some (rf, uf) → J p l e (rmk 1 22) s m args below meth c dC dI (WM ad cI) (AF ad 9) (MQ below (QI dC dI cI (WM ad cI) (AF ad 9) rf uf) args s 0 0 (AF ad 9)) u 29 5 [(0, .ref (ad 0)), (2, .int x2)] [.int s0] := by
    intro k4 hk4 x2 s0 u h H locs ls hP hS hl
    unfold fX6_isTokenSomewhere_29 at h
    refine lv_istore_n (lv' := [(1, .int s0), (0, .ref (ad 0)), (2, .int x2)]) S.1 S.2.1 dX6_isTokenSomewhere_29 rfl hl (by decide) rfl (fun ls hl => ?_)
    refine lv_iconst (v := (0 : Int32)) S.1 S.2.1 dX6_isTokenSomewhere_30 (by decide) ?_
    refine lv_istore_n (lv' := [(3, .int (0 : Int32)), (1, .int s0), (0, .ref (ad 0)), (2, .int x2)]) S.1 S.2.1 dX6_isTokenSomewhere_31 rfl hl (by decide) rfl (fun ls hl => ?_)
    exact B_32 _ (B_103 _ hk4) FU _ _ _ u h _ _ _ hP hS (lv_sub hl [2, 1, 3, 0] rfl)
  have B_24 : ∀ (k4 : Int32 → Int32 → Wo → Re) (hk4 : ∀ (x1 : Int32) (x2 : Int32) (u : Wo), k4 x1 x2 u = some (rf, uf) → J p l e (rmk 1 22) s m args below meth c dC dI (WM ad cI) (AF ad 9) (MQ below (QI dC dI cI (WM ad cI) (AF ad 9) rf uf) args s 0 0 (AF ad 9)) u 4 5 [(0, .ref (ad 0)), (1, .int x1), (2, .int x2)] []) (x2 : Int32) (u : Wo), fX6_isTokenSomewhere_24 k4 x2 u = some (rf, uf) → J p l e (rmk 1 22) s m args below meth c dC dI (WM ad cI) (AF ad 9) (MQ below (QI dC dI cI (WM ad cI) (AF ad 9) rf uf) args s 0 0 (AF ad 9)) u 24 5 [(0, .ref (ad 0)), (2, .int x2)] [] := by
    intro k4 hk4 x2 u h H locs ls hP hS hl
    unfold fX6_isTokenSomewhere_24 at h
    refine lv_iconst (v := (1 : Int32)) S.1 S.2.1 dX6_isTokenSomewhere_24 (by decide) ?_
    refine lv_goto (tgt := 29) S.1 S.2.1 dX6_isTokenSomewhere_25 (by decide) ?_
    exact B_29 _ hk4 _ _ u h _ _ _ hP hS (lv_sub hl [0, 1] rfl)
  have B_4 : ∀ (k109 : Int32 → Wo → Re) (hk109 : ∀ (x1 : Int32) (u : Wo), k109 x1 u = some (rf, uf) → J p l e (rmk 1 22) s m args below meth c dC dI (WM ad cI) (AF ad 9) (MQ below (QI dC dI cI (WM ad cI) (AF ad 9) rf uf) args s 0 0 (AF ad 9)) u 109 5 [(1, .int x1)] []) (n : Nat) (x1 : Int32) (x2 : Int32) (u : Wo), fX6_isTokenSomewhere_4 k109 n x1 x2 u = some (rf, uf) → J p l e (rmk 1 22) s m args below meth c dC dI (WM ad cI) (AF ad 9) (MQ below (QI dC dI cI (WM ad cI) (AF ad 9) rf uf) args s 0 0 (AF ad 9)) u 4 5 [(0, .ref (ad 0)), (1, .int x1), (2, .int x2)] [] := by
    intro k109 hk109
    intro n
    induction n with
    | zero => intro x1 x2 u h; cases h
    | succ n ih =>
      intro x1 x2 u h H locs ls hP hS hl
      rw [fX6_isTokenSomewhere_4.eq_2] at h
      refine lv_iload_n S.1 S.2.1 dX6_isTokenSomewhere_4 rfl (lv_at hl 2 rfl) ?_
      refine lv_aload_n S.1 S.2.1 dX6_isTokenSomewhere_5 rfl (lv_at hl 0 rfl) ?_
      refine gM_0_n S hK hP wf_X6_7 dX6_isTokenSomewhere_6 ?_
      refine lv_icmp_ge (tgt := 109) S.1 S.2.1 dX6_isTokenSomewhere_9 (by decide) (fun c1 => ?_) (fun c1 => ?_)
      · rw [if_pos c1] at h
        exact hk109 _ u h _ _ _ hP hS (lv_sub hl [1] rfl)
      · rw [if_neg c1] at h
        refine lv_iload_n S.1 S.2.1 dX6_isTokenSomewhere_12 rfl (lv_at hl 1 rfl) ?_
        refine lv_if_ne (tgt := 24) S.1 S.2.1 dX6_isTokenSomewhere_13 (by decide) (fun c2 => ?_) (fun c2 => ?_)
        · rw [if_neg c2] at h
          exact B_24 _ ih _ u h _ _ _ hP hS (lv_sub hl [0, 2] rfl)
        · rw [if_pos c2] at h
          refine lv_aload_n S.1 S.2.1 dX6_isTokenSomewhere_16 rfl (lv_at hl 0 rfl) ?_
          refine lv_iload_n S.1 S.2.1 dX6_isTokenSomewhere_17 rfl (lv_at hl 2 rfl) ?_
          obtain ⟨r16, u17, q15, h⟩ := bd_some h
          refine x_vi (Wf := WM ad cI) (q0 := 0) (ci := 6) (As := [.int x2]) (rest := []) S hK hP hS (k_X6_hasToken hap q15) rfl rfl wl_X6_147 wi_X6_hasToken ws_X6_hasToken wz_X6 wc_X6_hasToken hy_X6_hasToken ⟨Nat.le_of_ble_eq_true rfl, Nat.le_of_ble_eq_true rfl⟩ hl.1 rfl (Nat.le_of_ble_eq_true rfl) dX6_isTokenSomewhere_18 (fun H locs hP hS => ?_)
          refine lv_if_eq (tgt := 28) S.1 S.2.1 dX6_isTokenSomewhere_21 (by decide) (fun c18 => ?_) (fun c18 => ?_)
          · rw [if_pos c18] at h
            refine lv_iconst (v := (0 : Int32)) S.1 S.2.1 dX6_isTokenSomewhere_28 (by decide) ?_
            exact B_29 _ ih _ _ u17 h _ _ _ hP hS (lv_sub hl [0, 2] rfl)
          · rw [if_neg c18] at h
            exact B_24 _ ih _ u17 h _ _ _ hP hS (lv_sub hl [0, 2] rfl)
  have B_109 : ∀ (x1 : Int32) (u : Wo), fX6_isTokenSomewhere_109 x1 u = some (rf, uf) → J p l e (rmk 1 22) s m args below meth c dC dI (WM ad cI) (AF ad 9) (MQ below (QI dC dI cI (WM ad cI) (AF ad 9) rf uf) args s 0 0 (AF ad 9)) u 109 5 [(1, .int x1)] [] := by
    intro x1 u h H locs ls hP hS hl
    unfold fX6_isTokenSomewhere_109 at h
    refine lv_iload_n S.1 S.2.1 dX6_isTokenSomewhere_109 rfl (lv_at hl 0 rfl) ?_
    obtain ⟨q19, h⟩ := gi_some h
    exact x_zret S hr hlk hK hP hS q19 h dX6_isTokenSomewhere_110
  intro H locs ls hP hS hl
  have hl : lv_has ls 5 [(0, .ref (ad 0))] := hl
  unfold fX6_isTokenSomewhere at h
  refine lv_iconst (v := (0 : Int32)) S.1 S.2.1 dX6_isTokenSomewhere_0 (by decide) ?_
  refine lv_istore_n (lv' := [(1, .int (0 : Int32)), (0, .ref (ad 0))]) S.1 S.2.1 dX6_isTokenSomewhere_1 rfl hl (by decide) rfl (fun ls hl => ?_)
  refine lv_iconst (v := (0 : Int32)) S.1 S.2.1 dX6_isTokenSomewhere_2 (by decide) ?_
  refine lv_istore_n (lv' := [(2, .int (0 : Int32)), (1, .int (0 : Int32)), (0, .ref (ad 0))]) S.1 S.2.1 dX6_isTokenSomewhere_3 rfl hl (by decide) rfl (fun ls hl => ?_)
  exact B_4 _ B_109 FU _ _ u h _ _ _ hP hS (lv_sub hl [2, 1, 0] rfl)
theorem hy_X6_visit : yX6_visit.cls ≠ "java/lang/invoke/MethodHandle" ∧ yX6_visit.cls ≠ "java/lang/invoke/VarHandle" ∧ (parseMethodDescriptor yX6_visit.desc).map (fun d => d.parameters.length) = some 1 := by decide +kernel
set_option maxHeartbeats 4000000 in
set_option maxRecDepth 100000 in
theorem k_X6_visit {l : Launch} {dC : Nat → ClassId} {dI : Nat → Nat → Nat} {ad : Nat → Nat} {cI : ClassId} (hap : AP ad 9) {x1 : Int32} {u uf : Wo} {rf : Int32} (h : fX6_visit x1 u = some (rf, uf)) : CV l dC dI cI (WM ad cI) (AF ad 9) yX6_visit cX6_visit 6 none 5 124 [.ref (ad 0), .int x1] u uf := by
  refine cv_begin (by decide) (Nat.le_of_ble_eq_true rfl) ?_
  intro p e s m args below meth c S hr hlk hK
  have B_153 : ∀ (k101 : Int32 → Int32 → Int32 → Int32 → Wo → Re) (hk101 : ∀ (x1 : Int32) (x2 : Int32) (x3 : Int32) (x4 : Int32) (u : Wo), k101 x1 x2 x3 x4 u = some (rf, uf) → J p l e (rmk 5 124) s m args below meth c dC dI (WM ad cI) (AF ad 9) (MQ below (QV dC dI cI (WM ad cI) (AF ad 9) uf) args s 0 0 (AF ad 9)) u 101 6 [(0, .ref (ad 0)), (1, .int x1), (2, .int x2), (3, .int x3), (4, .int x4)] []) (x1 : Int32) (x2 : Int32) (x3 : Int32) (x4 : Int32) (u : Wo), fX6_visit_153 k101 x1 x2 x3 x4 u = some (rf, uf) → J p l e (rmk 5 124) s m args below meth c dC dI (WM ad cI) (AF ad 9) (MQ below (QV dC dI cI (WM ad cI) (AF ad 9) uf) args s 0 0 (AF ad 9)) u 153 6 [(0, .ref (ad 0)), (1, .int x1), (2, .int x2), (3, .int x3), (4, .int x4)] [] := by
    intro k101 hk101 x1 x2 x3 x4 u h H locs ls hP hS hl
    unfold fX6_visit_153 at h
    refine lv_iinc (v := (x4 + (1 : Int32))) (lv' := [(4, .int (x4 + (1 : Int32))), (0, .ref (ad 0)), (1, .int x1), (2, .int x2), (3, .int x3)]) S.1 S.2.1 dX6_visit_153 hl (k := 4) rfl rfl (by decide) rfl (fun ls hl => ?_)
    refine lv_goto (tgt := 101) S.1 S.2.1 dX6_visit_156 (by decide) ?_
    exact hk101 _ _ _ _ u h _ _ _ hP hS (lv_sub hl [1, 2, 3, 4, 0] rfl)
  have B_101 : ∀ (k159 : Int32 → Int32 → Int32 → Wo → Re) (hk159 : ∀ (x1 : Int32) (x2 : Int32) (x3 : Int32) (u : Wo), k159 x1 x2 x3 u = some (rf, uf) → J p l e (rmk 5 124) s m args below meth c dC dI (WM ad cI) (AF ad 9) (MQ below (QV dC dI cI (WM ad cI) (AF ad 9) uf) args s 0 0 (AF ad 9)) u 159 6 [(0, .ref (ad 0)), (1, .int x1), (2, .int x2), (3, .int x3)] []) (n : Nat) (x1 : Int32) (x2 : Int32) (x3 : Int32) (x4 : Int32) (u : Wo), fX6_visit_101 k159 n x1 x2 x3 x4 u = some (rf, uf) → J p l e (rmk 5 124) s m args below meth c dC dI (WM ad cI) (AF ad 9) (MQ below (QV dC dI cI (WM ad cI) (AF ad 9) uf) args s 0 0 (AF ad 9)) u 101 6 [(0, .ref (ad 0)), (1, .int x1), (2, .int x2), (3, .int x3), (4, .int x4)] [] := by
    intro k159 hk159
    intro n
    induction n with
    | zero => intro x1 x2 x3 x4 u h; cases h
    | succ n ih =>
      intro x1 x2 x3 x4 u h H locs ls hP hS hl
      rw [fX6_visit_101.eq_2] at h
      refine lv_iload S.1 S.2.1 dX6_visit_101 (lv_at hl 4 rfl) ?_
      refine lv_bipush (v := (36 : Int32)) S.1 S.2.1 dX6_visit_103 (by decide) ?_
      refine lv_icmp_ge (tgt := 159) S.1 S.2.1 dX6_visit_105 (by decide) (fun c30 => ?_) (fun c30 => ?_)
      · rw [if_pos c30] at h
        exact hk159 _ _ _ u h _ _ _ hP hS (lv_sub hl [0, 1, 2, 3] rfl)
      · rw [if_neg c30] at h
        refine lv_aload_n S.1 S.2.1 dX6_visit_108 rfl (lv_at hl 0 rfl) ?_
        refine lv_iload_n S.1 S.2.1 dX6_visit_109 rfl (lv_at hl 1 rfl) ?_
        obtain ⟨r32, u33, q31, h⟩ := bd_some h
        refine x_vv (Wf := WM ad cI) (q0 := 0) (ci := 6) (As := [.int x1]) (rest := []) S hK hP hS (k_X6_load hap q31) rfl rfl wl_X6_165 wi_X6_load ws_X6_load wz_X6 wc_X6_load hy_X6_load ⟨Nat.le_of_ble_eq_true rfl, Nat.le_of_ble_eq_true rfl⟩ hl.1 rfl (Nat.le_of_ble_eq_true rfl) dX6_visit_110 (fun H locs hP hS => ?_)
        refine lv_aload_n S.1 S.2.1 dX6_visit_113 rfl (lv_at hl 0 rfl) ?_
        refine gM_0_st S hK hP wf_X6_17 dX6_visit_114 ?_
        refine lv_sipush (v := (140 : Int32)) S.1 S.2.1 dX6_visit_117 (by decide) ?_
        refine lv_bipush (v := (25 : Int32)) S.1 S.2.1 dX6_visit_120 (by decide) ?_
        refine lv_iload S.1 S.2.1 dX6_visit_122 (lv_at hl 4 rfl) ?_
        refine lv_imul S.1 S.2.1 dX6_visit_124 ?_
        refine lv_iadd S.1 S.2.1 dX6_visit_125 ?_
        obtain ⟨q34, h⟩ := gi_some h
        refine lM_2 S hK hP q34 dX6_visit_126 ?_
        refine lv_if_le (tgt := 153) S.1 S.2.1 dX6_visit_127 (by decide) (fun c35 => ?_) (fun c35 => ?_)
        · rw [if_pos c35] at h
          exact B_153 _ ih _ _ _ _ u33 h _ _ _ hP hS (lv_sub hl [0, 1, 2, 3, 4] rfl)
        · rw [if_neg c35] at h
          refine lv_aload_n S.1 S.2.1 dX6_visit_130 rfl (lv_at hl 0 rfl) ?_
          refine lv_iload S.1 S.2.1 dX6_visit_131 (lv_at hl 4 rfl) ?_
          refine lv_bipush (v := (6 : Int32)) S.1 S.2.1 dX6_visit_133 (by decide) ?_
          refine lv_idiv S.1 S.2.1 dX6_visit_135 (by decide) ?_
          refine lv_iload S.1 S.2.1 dX6_visit_136 (lv_at hl 4 rfl) ?_
          refine lv_bipush (v := (6 : Int32)) S.1 S.2.1 dX6_visit_138 (by decide) ?_
          refine lv_irem S.1 S.2.1 dX6_visit_140 (by decide) ?_
          obtain ⟨r37, u38, q36, h⟩ := bd_some h
          refine x_vi (Wf := WM ad cI) (q0 := 0) (ci := 6) (As := [.int (x4 / (6 : Int32)), .int (x4 - x4 / (6 : Int32) * (6 : Int32))]) (rest := []) S hK hP hS (k_X6_comes hap q36) rfl rfl wl_X6_129 wi_X6_comes ws_X6_comes wz_X6 wc_X6_comes hy_X6_comes ⟨Nat.le_of_ble_eq_true rfl, Nat.le_of_ble_eq_true rfl⟩ hl.1 rfl (Nat.le_of_ble_eq_true rfl) dX6_visit_141 (fun H locs hP hS => ?_)
          refine lv_istore (lv' := [(5, .int r37), (0, .ref (ad 0)), (1, .int x1), (2, .int x2), (3, .int x3), (4, .int x4)]) S.1 S.2.1 dX6_visit_144 hl (by decide) rfl (fun ls hl => ?_)
          refine lv_iload_n S.1 S.2.1 dX6_visit_146 rfl (lv_at hl 4 rfl) ?_
          refine lv_aload_n S.1 S.2.1 dX6_visit_147 rfl (lv_at hl 1 rfl) ?_
          obtain ⟨r40, u41, q39, h⟩ := bd_some h
          refine x_vi (Wf := WM ad cI) (q0 := 0) (ci := 6) (As := []) (rest := [.int x3]) S hK hP hS (k_X6_goes hap q39) rfl rfl wl_X6_180 wi_X6_goes ws_X6_goes wz_X6 wc_X6_goes hy_X6_goes ⟨Nat.le_of_ble_eq_true rfl, Nat.le_of_ble_eq_true rfl⟩ hl.1 rfl (Nat.le_of_ble_eq_true rfl) dX6_visit_148 (fun H locs hP hS => ?_)
          refine lv_iadd S.1 S.2.1 dX6_visit_151 ?_
          refine lv_istore_n (lv' := [(3, .int (x3 + r40)), (5, .int r37), (0, .ref (ad 0)), (1, .int x1), (2, .int x2), (4, .int x4)]) S.1 S.2.1 dX6_visit_152 rfl hl (by decide) rfl (fun ls hl => ?_)
          exact B_153 _ ih _ _ _ _ u41 h _ _ _ hP hS (lv_sub hl [2, 3, 4, 0, 5] rfl)
  have B_205 : ∀ (k162 : Int32 → Int32 → Int32 → Int32 → Wo → Re) (hk162 : ∀ (x1 : Int32) (x2 : Int32) (x3 : Int32) (x4 : Int32) (u : Wo), k162 x1 x2 x3 x4 u = some (rf, uf) → J p l e (rmk 5 124) s m args below meth c dC dI (WM ad cI) (AF ad 9) (MQ below (QV dC dI cI (WM ad cI) (AF ad 9) uf) args s 0 0 (AF ad 9)) u 162 6 [(0, .ref (ad 0)), (1, .int x1), (2, .int x2), (3, .int x3), (4, .int x4)] []) (x1 : Int32) (x2 : Int32) (x3 : Int32) (x4 : Int32) (u : Wo), fX6_visit_205 k162 x1 x2 x3 x4 u = some (rf, uf) → J p l e (rmk 5 124) s m args below meth c dC dI (WM ad cI) (AF ad 9) (MQ below (QV dC dI cI (WM ad cI) (AF ad 9) uf) args s 0 0 (AF ad 9)) u 205 6 [(0, .ref (ad 0)), (1, .int x1), (2, .int x2), (3, .int x3), (4, .int x4)] [] := by
    intro k162 hk162 x1 x2 x3 x4 u h H locs ls hP hS hl
    unfold fX6_visit_205 at h
    refine lv_iinc (v := (x4 + (1 : Int32))) (lv' := [(4, .int (x4 + (1 : Int32))), (0, .ref (ad 0)), (1, .int x1), (2, .int x2), (3, .int x3)]) S.1 S.2.1 dX6_visit_205 hl (k := 4) rfl rfl (by decide) rfl (fun ls hl => ?_)
    refine lv_goto (tgt := 162) S.1 S.2.1 dX6_visit_208 (by decide) ?_
    exact hk162 _ _ _ _ u h _ _ _ hP hS (lv_sub hl [1, 2, 3, 4, 0] rfl)
  have B_162 : ∀ (k211 : Int32 → Int32 → Wo → Re) (hk211 : ∀ (x2 : Int32) (x3 : Int32) (u : Wo), k211 x2 x3 u = some (rf, uf) → J p l e (rmk 5 124) s m args below meth c dC dI (WM ad cI) (AF ad 9) (MQ below (QV dC dI cI (WM ad cI) (AF ad 9) uf) args s 0 0 (AF ad 9)) u 211 6 [(0, .ref (ad 0)), (2, .int x2), (3, .int x3)] []) (n : Nat) (x1 : Int32) (x2 : Int32) (x3 : Int32) (x4 : Int32) (u : Wo), fX6_visit_162 k211 n x1 x2 x3 x4 u = some (rf, uf) → J p l e (rmk 5 124) s m args below meth c dC dI (WM ad cI) (AF ad 9) (MQ below (QV dC dI cI (WM ad cI) (AF ad 9) uf) args s 0 0 (AF ad 9)) u 162 6 [(0, .ref (ad 0)), (1, .int x1), (2, .int x2), (3, .int x3), (4, .int x4)] [] := by
    intro k211 hk211
    intro n
    induction n with
    | zero => intro x1 x2 x3 x4 u h; cases h
    | succ n ih =>
      intro x1 x2 x3 x4 u h H locs ls hP hS hl
      rw [fX6_visit_162.eq_2] at h
      refine lv_iload S.1 S.2.1 dX6_visit_162 (lv_at hl 4 rfl) ?_
      refine lv_aload_n S.1 S.2.1 dX6_visit_164 rfl (lv_at hl 0 rfl) ?_
      refine gM_0_n S hK hP wf_X6_7 dX6_visit_165 ?_
      refine lv_icmp_ge (tgt := 211) S.1 S.2.1 dX6_visit_168 (by decide) (fun c42 => ?_) (fun c42 => ?_)
      · rw [if_pos c42] at h
        exact hk211 _ _ u h _ _ _ hP hS (lv_sub hl [0, 2, 3] rfl)
      · rw [if_neg c42] at h
        refine lv_aload_n S.1 S.2.1 dX6_visit_171 rfl (lv_at hl 0 rfl) ?_
        refine lv_iload_n S.1 S.2.1 dX6_visit_172 rfl (lv_at hl 1 rfl) ?_
        obtain ⟨r44, u45, q43, h⟩ := bd_some h
        refine x_vv (Wf := WM ad cI) (q0 := 0) (ci := 6) (As := [.int x1]) (rest := []) S hK hP hS (k_X6_load hap q43) rfl rfl wl_X6_165 wi_X6_load ws_X6_load wz_X6 wc_X6_load hy_X6_load ⟨Nat.le_of_ble_eq_true rfl, Nat.le_of_ble_eq_true rfl⟩ hl.1 rfl (Nat.le_of_ble_eq_true rfl) dX6_visit_173 (fun H locs hP hS => ?_)
        refine lv_aload_n S.1 S.2.1 dX6_visit_176 rfl (lv_at hl 0 rfl) ?_
        refine gM_0_st S hK hP wf_X6_17 dX6_visit_177 ?_
        refine lv_bipush (v := (21 : Int32)) S.1 S.2.1 dX6_visit_180 (by decide) ?_
        refine lv_iload S.1 S.2.1 dX6_visit_182 (lv_at hl 4 rfl) ?_
        refine lv_imul S.1 S.2.1 dX6_visit_184 ?_
        refine lv_iconst (v := (0 : Int32)) S.1 S.2.1 dX6_visit_185 (by decide) ?_
        refine lv_iadd S.1 S.2.1 dX6_visit_186 ?_
        obtain ⟨q46, h⟩ := gi_some h
        refine lM_2 S hK hP q46 dX6_visit_187 ?_
        refine lv_iconst (v := (2 : Int32)) S.1 S.2.1 dX6_visit_188 (by decide) ?_
        refine lv_icmp_ne (tgt := 205) S.1 S.2.1 dX6_visit_189 (by decide) (fun c47 => ?_) (fun c47 => ?_)
        · rw [if_neg c47] at h
          exact B_205 _ ih _ _ _ _ u45 h _ _ _ hP hS (lv_sub hl [0, 1, 2, 3, 4] rfl)
        · rw [if_pos c47] at h
          refine lv_aload_n S.1 S.2.1 dX6_visit_192 rfl (lv_at hl 0 rfl) ?_
          refine lv_iload S.1 S.2.1 dX6_visit_193 (lv_at hl 4 rfl) ?_
          obtain ⟨r49, u50, q48, h⟩ := bd_some h
          refine x_vv (Wf := WM ad cI) (q0 := 0) (ci := 6) (As := [.int x4]) (rest := []) S hK hP hS (k_X6_leaves hap q48) rfl rfl wl_X6_126 wi_X6_leaves ws_X6_leaves wz_X6 wc_X6_leaves hy_X6_leaves ⟨Nat.le_of_ble_eq_true rfl, Nat.le_of_ble_eq_true rfl⟩ hl.1 rfl (Nat.le_of_ble_eq_true rfl) dX6_visit_195 (fun H locs hP hS => ?_)
          refine lv_iload_n S.1 S.2.1 dX6_visit_198 rfl (lv_at hl 3 rfl) ?_
          refine lv_aload_n S.1 S.2.1 dX6_visit_199 rfl (lv_at hl 0 rfl) ?_
          obtain ⟨r52, u53, q51, h⟩ := bd_some h
          refine x_vi (Wf := WM ad cI) (q0 := 0) (ci := 6) (As := []) (rest := [.int x3]) S hK hP hS (k_X6_goes hap q51) rfl rfl wl_X6_180 wi_X6_goes ws_X6_goes wz_X6 wc_X6_goes hy_X6_goes ⟨Nat.le_of_ble_eq_true rfl, Nat.le_of_ble_eq_true rfl⟩ hl.1 rfl (Nat.le_of_ble_eq_true rfl) dX6_visit_200 (fun H locs hP hS => ?_)
          refine lv_iadd S.1 S.2.1 dX6_visit_203 ?_
          refine lv_istore_n (lv' := [(3, .int (x3 + r52)), (0, .ref (ad 0)), (1, .int x1), (2, .int x2), (4, .int x4)]) S.1 S.2.1 dX6_visit_204 rfl hl (by decide) rfl (fun ls hl => ?_)
          exact B_205 _ ih _ _ _ _ u53 h _ _ _ hP hS (lv_sub hl [1, 2, 3, 0, 4] rfl)
  have B_243 : ∀ (u : Wo), fX6_visit_243 u = some (rf, uf) → J p l e (rmk 5 124) s m args below meth c dC dI (WM ad cI) (AF ad 9) (MQ below (QV dC dI cI (WM ad cI) (AF ad 9) uf) args s 0 0 (AF ad 9)) u 243 6 [] [] := by
    intro u h H locs ls hP hS hl
    unfold fX6_visit_243 at h
    exact x_vret S hr hlk hK hP hS h dX6_visit_243
  have B_241 : ∀ (s1 : Int32) (s2 : Int32) (s3 : Int32) (u : Wo), fX6_visit_241 s1 s2 s3 u = some (rf, uf) → J p l e (rmk 5 124) s m args below meth c dC dI (WM ad cI) (AF ad 9) (MQ below (QV dC dI cI (WM ad cI) (AF ad 9) uf) args s 0 0 (AF ad 9)) u 241 6 [] [.int s3, .int s2, .int s1, .ref (ad 8)] := by
    intro s1 s2 s3 u h H locs ls hP hS hl
    unfold fX6_visit_241 at h
    refine lv_iadd S.1 S.2.1 dX6_visit_241 ?_
    obtain ⟨q60, h⟩ := gi_some h
    obtain ⟨u61, hu61, h⟩ := bw_some h
    refine tM_8 S hK hap hP hS q60 dX6_visit_242 hu61 (fun H locs hP hS => ?_)
    exact B_243 u61 h _ _ _ hP hS (lv_sub hl [] rfl)
  have B_211 : ∀ (x2 : Int32) (x3 : Int32) (u : Wo), fX6_visit_211 x2 x3 u = some (rf, uf) → J p l e (rmk 5 124) s m args below meth c dC dI (WM ad cI) (AF ad 9) (MQ below (QV dC dI cI (WM ad cI) (AF ad 9) uf) args s 0 0 (AF ad 9)) u 211 6 [(0, .ref (ad 0)), (2, .int x2), (3, .int x3)] [] := by
    intro x2 x3 u h H locs ls hP hS hl
    unfold fX6_visit_211 at h
    refine lv_iload_n S.1 S.2.1 dX6_visit_211 rfl (lv_at hl 2 rfl) ?_
    refine lv_if_ne (tgt := 243) S.1 S.2.1 dX6_visit_212 (by decide) (fun c54 => ?_) (fun c54 => ?_)
    · rw [if_neg c54] at h
      exact B_243 u h _ _ _ hP hS (lv_sub hl [] rfl)
    · rw [if_pos c54] at h
      refine lv_aload_n S.1 S.2.1 dX6_visit_215 rfl (lv_at hl 0 rfl) ?_
      refine gM_0_told S hK hP wf_X6_41 dX6_visit_216 ?_
      refine lv_iconst (v := (1 : Int32)) S.1 S.2.1 dX6_visit_219 (by decide) ?_
      refine lv_dup2_11 S.1 S.2.1 dX6_visit_220 rfl rfl ?_
      obtain ⟨q55, h⟩ := gi_some h
      refine lM_8 S hK hP q55 dX6_visit_221 ?_
      refine lv_iconst (v := (1 : Int32)) S.1 S.2.1 dX6_visit_222 (by decide) ?_
      refine lv_iadd S.1 S.2.1 dX6_visit_223 ?_
      obtain ⟨q56, h⟩ := gi_some h
      obtain ⟨u57, hu57, h⟩ := bw_some h
      refine tM_8 S hK hap hP hS q56 dX6_visit_224 hu57 (fun H locs hP hS => ?_)
      refine lv_aload_n S.1 S.2.1 dX6_visit_225 rfl (lv_at hl 0 rfl) ?_
      refine gM_0_told S hK hP wf_X6_41 dX6_visit_226 ?_
      refine lv_iconst (v := (3 : Int32)) S.1 S.2.1 dX6_visit_229 (by decide) ?_
      refine lv_dup2_11 S.1 S.2.1 dX6_visit_230 rfl rfl ?_
      obtain ⟨q58, h⟩ := gi_some h
      refine lM_8 S hK hP q58 dX6_visit_231 ?_
      refine lv_iload_n S.1 S.2.1 dX6_visit_232 rfl (lv_at hl 1 rfl) ?_
      refine lv_if_eq (tgt := 240) S.1 S.2.1 dX6_visit_233 (by decide) (fun c59 => ?_) (fun c59 => ?_)
      · rw [if_pos c59] at h
        refine lv_iconst (v := (0 : Int32)) S.1 S.2.1 dX6_visit_240 (by decide) ?_
        exact B_241 _ _ _ u57 h _ _ _ hP hS (lv_sub hl [] rfl)
      · rw [if_neg c59] at h
        refine lv_iconst (v := (1 : Int32)) S.1 S.2.1 dX6_visit_236 (by decide) ?_
        refine lv_goto (tgt := 241) S.1 S.2.1 dX6_visit_237 (by decide) ?_
        exact B_241 _ _ _ u57 h _ _ _ hP hS (lv_sub hl [] rfl)
  have B_159 : ∀ (x1 : Int32) (x2 : Int32) (x3 : Int32) (u : Wo), fX6_visit_159 x1 x2 x3 u = some (rf, uf) → J p l e (rmk 5 124) s m args below meth c dC dI (WM ad cI) (AF ad 9) (MQ below (QV dC dI cI (WM ad cI) (AF ad 9) uf) args s 0 0 (AF ad 9)) u 159 6 [(0, .ref (ad 0)), (1, .int x1), (2, .int x2), (3, .int x3)] [] := by
    intro x1 x2 x3 u h H locs ls hP hS hl
    unfold fX6_visit_159 at h
    refine lv_iconst (v := (0 : Int32)) S.1 S.2.1 dX6_visit_159 (by decide) ?_
    refine lv_istore (lv' := [(4, .int (0 : Int32)), (0, .ref (ad 0)), (1, .int x1), (2, .int x2), (3, .int x3)]) S.1 S.2.1 dX6_visit_160 hl (by decide) rfl (fun ls hl => ?_)
    exact B_162 _ B_211 FU _ _ _ _ u h _ _ _ hP hS (lv_sub hl [1, 2, 3, 4, 0] rfl)
  have B_95 : ∀ (x1 : Int32) (s0 : Int32) (u : Wo), fX6_visit_95 x1 s0 u = some (rf, uf) → J p l e (rmk 5 124) s m args below meth c dC dI (WM ad cI) (AF ad 9) (MQ below (QV dC dI cI (WM ad cI) (AF ad 9) uf) args s 0 0 (AF ad 9)) u 95 6 [(0, .ref (ad 0)), (1, .int x1)] [.int s0] := by
    intro x1 s0 u h H locs ls hP hS hl
    unfold fX6_visit_95 at h
    refine lv_istore_n (lv' := [(2, .int s0), (0, .ref (ad 0)), (1, .int x1)]) S.1 S.2.1 dX6_visit_95 rfl hl (by decide) rfl (fun ls hl => ?_)
    refine lv_iconst (v := (0 : Int32)) S.1 S.2.1 dX6_visit_96 (by decide) ?_
    refine lv_istore_n (lv' := [(3, .int (0 : Int32)), (2, .int s0), (0, .ref (ad 0)), (1, .int x1)]) S.1 S.2.1 dX6_visit_97 rfl hl (by decide) rfl (fun ls hl => ?_)
    refine lv_iconst (v := (0 : Int32)) S.1 S.2.1 dX6_visit_98 (by decide) ?_
    refine lv_istore (lv' := [(4, .int (0 : Int32)), (3, .int (0 : Int32)), (2, .int s0), (0, .ref (ad 0)), (1, .int x1)]) S.1 S.2.1 dX6_visit_99 hl (by decide) rfl (fun ls hl => ?_)
    exact B_101 _ B_159 FU _ _ _ _ u h _ _ _ hP hS (lv_sub hl [3, 4, 2, 1, 0] rfl)
  have B_80 : ∀ (x1 : Int32) (s1 : Int32) (s2 : Int32) (s3 : Int32) (u : Wo), fX6_visit_80 x1 s1 s2 s3 u = some (rf, uf) → J p l e (rmk 5 124) s m args below meth c dC dI (WM ad cI) (AF ad 9) (MQ below (QV dC dI cI (WM ad cI) (AF ad 9) uf) args s 0 0 (AF ad 9)) u 80 6 [(0, .ref (ad 0)), (1, .int x1)] [.int s3, .int s2, .int s1, .ref (ad 8)] := by
    intro x1 s1 s2 s3 u h H locs ls hP hS hl
    unfold fX6_visit_80 at h
    refine lv_iadd S.1 S.2.1 dX6_visit_80 ?_
    obtain ⟨q24, h⟩ := gi_some h
    obtain ⟨u25, hu25, h⟩ := bw_some h
    refine tM_8 S hK hap hP hS q24 dX6_visit_81 hu25 (fun H locs hP hS => ?_)
    refine lv_aload_n S.1 S.2.1 dX6_visit_82 rfl (lv_at hl 0 rfl) ?_
    refine lv_iconst (v := (1 : Int32)) S.1 S.2.1 dX6_visit_83 (by decide) ?_
    obtain ⟨r27, u28, q26, h⟩ := bd_some h
    refine x_vi (Wf := WM ad cI) (q0 := 0) (ci := 6) (As := [.int (1 : Int32)]) (rest := []) S hK hP hS (k_X6_ofMode hap q26) rfl rfl wl_X6_168 wi_X6_ofMode ws_X6_ofMode wz_X6 wc_X6_ofMode hy_X6_ofMode ⟨Nat.le_of_ble_eq_true rfl, Nat.le_of_ble_eq_true rfl⟩ hl.1 rfl (Nat.le_of_ble_eq_true rfl) dX6_visit_84 (fun H locs hP hS => ?_)
    refine lv_if_le (tgt := 94) S.1 S.2.1 dX6_visit_87 (by decide) (fun c29 => ?_) (fun c29 => ?_)
    · rw [if_pos c29] at h
      refine lv_iconst (v := (0 : Int32)) S.1 S.2.1 dX6_visit_94 (by decide) ?_
      exact B_95 _ _ u28 h _ _ _ hP hS (lv_sub hl [0, 1] rfl)
    · rw [if_neg c29] at h
      refine lv_iconst (v := (1 : Int32)) S.1 S.2.1 dX6_visit_90 (by decide) ?_
      refine lv_goto (tgt := 95) S.1 S.2.1 dX6_visit_91 (by decide) ?_
      exact B_95 _ _ u28 h _ _ _ hP hS (lv_sub hl [0, 1] rfl)
  have B_79 : ∀ (x1 : Int32) (s1 : Int32) (s2 : Int32) (u : Wo), fX6_visit_79 x1 s1 s2 u = some (rf, uf) → J p l e (rmk 5 124) s m args below meth c dC dI (WM ad cI) (AF ad 9) (MQ below (QV dC dI cI (WM ad cI) (AF ad 9) uf) args s 0 0 (AF ad 9)) u 79 6 [(0, .ref (ad 0)), (1, .int x1)] [.int s2, .int s1, .ref (ad 8)] := by
    intro x1 s1 s2 u h H locs ls hP hS hl
    unfold fX6_visit_79 at h
    refine lv_iconst (v := (0 : Int32)) S.1 S.2.1 dX6_visit_79 (by decide) ?_
    exact B_80 _ _ _ _ u h _ _ _ hP hS (lv_sub hl [0, 1] rfl)
  intro H locs ls hP hS hl
  have hl : lv_has ls 6 [(0, .ref (ad 0)), (1, .int x1)] := hl
  unfold fX6_visit at h
  refine lv_aload_n S.1 S.2.1 dX6_visit_0 rfl (lv_at hl 0 rfl) ?_
  refine lv_iload_n S.1 S.2.1 dX6_visit_1 rfl (lv_at hl 1 rfl) ?_
  obtain ⟨r2, u3, q1, h⟩ := bd_some h
  refine x_vv (Wf := WM ad cI) (q0 := 0) (ci := 6) (As := [.int x1]) (rest := []) S hK hP hS (k_X6_load hap q1) rfl rfl wl_X6_165 wi_X6_load ws_X6_load wz_X6 wc_X6_load hy_X6_load ⟨Nat.le_of_ble_eq_true rfl, Nat.le_of_ble_eq_true rfl⟩ hl.1 rfl (Nat.le_of_ble_eq_true rfl) dX6_visit_2 (fun H locs hP hS => ?_)
  refine lv_aload_n S.1 S.2.1 dX6_visit_5 rfl (lv_at hl 0 rfl) ?_
  refine gM_0_told S hK hP wf_X6_41 dX6_visit_6 ?_
  refine lv_iconst (v := (2 : Int32)) S.1 S.2.1 dX6_visit_9 (by decide) ?_
  refine lv_aload_n S.1 S.2.1 dX6_visit_10 rfl (lv_at hl 0 rfl) ?_
  refine gM_0_told S hK hP wf_X6_41 dX6_visit_11 ?_
  refine lv_iconst (v := (2 : Int32)) S.1 S.2.1 dX6_visit_14 (by decide) ?_
  obtain ⟨q4, h⟩ := gi_some h
  refine lM_8 S hK hP q4 dX6_visit_15 ?_
  refine lv_aload_n S.1 S.2.1 dX6_visit_16 rfl (lv_at hl 0 rfl) ?_
  refine lv_iconst (v := (2 : Int32)) S.1 S.2.1 dX6_visit_17 (by decide) ?_
  obtain ⟨r6, u7, q5, h⟩ := bd_some h
  refine x_vi (Wf := WM ad cI) (q0 := 0) (ci := 6) (As := [.int (2 : Int32)]) (rest := [.int (u3 8 ((2 : Int32)).toNatClampNeg), .int (2 : Int32), .ref (ad 8)]) S hK hP hS (k_X6_ofMode hap q5) rfl rfl wl_X6_168 wi_X6_ofMode ws_X6_ofMode wz_X6 wc_X6_ofMode hy_X6_ofMode ⟨Nat.le_of_ble_eq_true rfl, Nat.le_of_ble_eq_true rfl⟩ hl.1 rfl (Nat.le_of_ble_eq_true rfl) dX6_visit_18 (fun H locs hP hS => ?_)
  obtain ⟨r9, u10, q8, h⟩ := bd_some h
  refine x_si (Wf := WM ad cI) (As := [.int (u3 8 ((2 : Int32)).toNatClampNeg), .int r6]) (rest := [.int (2 : Int32), .ref (ad 8)]) S hK hP hS (k_X6_more hap q8) wl_X6_171 wt_X6_more wz_X6 wc_X6_more hy_X6_more ⟨Nat.le_of_ble_eq_true rfl, Nat.le_of_ble_eq_true rfl⟩ hl.1 rfl (Nat.le_of_ble_eq_true rfl) dX6_visit_21 (fun H locs hP hS => ?_)
  obtain ⟨q11, h⟩ := gi_some h
  obtain ⟨u12, hu12, h⟩ := bw_some h
  refine tM_8 S hK hap hP hS q11 dX6_visit_24 hu12 (fun H locs hP hS => ?_)
  refine lv_aload_n S.1 S.2.1 dX6_visit_25 rfl (lv_at hl 0 rfl) ?_
  refine gM_0_told S hK hP wf_X6_41 dX6_visit_26 ?_
  refine lv_bipush (v := (6 : Int32)) S.1 S.2.1 dX6_visit_29 (by decide) ?_
  refine lv_aload_n S.1 S.2.1 dX6_visit_31 rfl (lv_at hl 0 rfl) ?_
  refine gM_0_told S hK hP wf_X6_41 dX6_visit_32 ?_
  refine lv_bipush (v := (6 : Int32)) S.1 S.2.1 dX6_visit_35 (by decide) ?_
  obtain ⟨q13, h⟩ := gi_some h
  refine lM_8 S hK hP q13 dX6_visit_37 ?_
  refine lv_aload_n S.1 S.2.1 dX6_visit_38 rfl (lv_at hl 0 rfl) ?_
  obtain ⟨r15, u16, q14, h⟩ := bd_some h
  refine x_vi (Wf := WM ad cI) (q0 := 0) (ci := 6) (As := []) (rest := [.int (u12 8 ((6 : Int32)).toNatClampNeg), .int (6 : Int32), .ref (ad 8)]) S hK hP hS (k_X6_underWay hap q14) rfl rfl wl_X6_174 wi_X6_underWay ws_X6_underWay wz_X6 wc_X6_underWay hy_X6_underWay ⟨Nat.le_of_ble_eq_true rfl, Nat.le_of_ble_eq_true rfl⟩ hl.1 rfl (Nat.le_of_ble_eq_true rfl) dX6_visit_39 (fun H locs hP hS => ?_)
  obtain ⟨r18, u19, q17, h⟩ := bd_some h
  refine x_si (Wf := WM ad cI) (As := [.int (u12 8 ((6 : Int32)).toNatClampNeg), .int r15]) (rest := [.int (6 : Int32), .ref (ad 8)]) S hK hP hS (k_X6_more hap q17) wl_X6_171 wt_X6_more wz_X6 wc_X6_more hy_X6_more ⟨Nat.le_of_ble_eq_true rfl, Nat.le_of_ble_eq_true rfl⟩ hl.1 rfl (Nat.le_of_ble_eq_true rfl) dX6_visit_42 (fun H locs hP hS => ?_)
  obtain ⟨q20, h⟩ := gi_some h
  obtain ⟨u21, hu21, h⟩ := bw_some h
  refine tM_8 S hK hap hP hS q20 dX6_visit_45 hu21 (fun H locs hP hS => ?_)
  refine lv_aload_n S.1 S.2.1 dX6_visit_46 rfl (lv_at hl 0 rfl) ?_
  refine gM_0_told S hK hP wf_X6_41 dX6_visit_47 ?_
  refine lv_iconst (v := (4 : Int32)) S.1 S.2.1 dX6_visit_50 (by decide) ?_
  refine lv_dup2_11 S.1 S.2.1 dX6_visit_51 rfl rfl ?_
  obtain ⟨q22, h⟩ := gi_some h
  refine lM_8 S hK hP q22 dX6_visit_52 ?_
  refine lv_aload_n S.1 S.2.1 dX6_visit_53 rfl (lv_at hl 0 rfl) ?_
  refine gM_0_way S hK hP wf_X6_66 dX6_visit_54 ?_
  refine lv_if_eq (tgt := 79) S.1 S.2.1 dX6_visit_57 (by decide) (fun c23 => ?_) (fun c23 => ?_)
  · rw [if_pos c23] at h
    exact B_79 _ _ _ u21 h _ _ _ hP hS (lv_sub hl [0, 1] rfl)
  · rw [if_neg c23] at h
    refine lv_aload_n S.1 S.2.1 dX6_visit_60 rfl (lv_at hl 0 rfl) ?_
    refine lv_iconst (v := (2 : Int32)) S.1 S.2.1 dX6_visit_61 (by decide) ?_
    obtain ⟨r63, u64, q62, h⟩ := bd_some h
    refine x_vi (Wf := WM ad cI) (q0 := 0) (ci := 6) (As := [.int (2 : Int32)]) (rest := [.int (u21 8 ((4 : Int32)).toNatClampNeg), .int (4 : Int32), .ref (ad 8)]) S hK hP hS (k_X6_ofMode hap q62) rfl rfl wl_X6_168 wi_X6_ofMode ws_X6_ofMode wz_X6 wc_X6_ofMode hy_X6_ofMode ⟨Nat.le_of_ble_eq_true rfl, Nat.le_of_ble_eq_true rfl⟩ hl.1 rfl (Nat.le_of_ble_eq_true rfl) dX6_visit_62 (fun H locs hP hS => ?_)
    refine lv_if_ne (tgt := 79) S.1 S.2.1 dX6_visit_65 (by decide) (fun c65 => ?_) (fun c65 => ?_)
    · rw [if_neg c65] at h
      exact B_79 _ _ _ u64 h _ _ _ hP hS (lv_sub hl [0, 1] rfl)
    · rw [if_pos c65] at h
      refine lv_aload_n S.1 S.2.1 dX6_visit_68 rfl (lv_at hl 0 rfl) ?_
      obtain ⟨r67, u68, q66, h⟩ := bd_some h
      refine x_vi (Wf := WM ad cI) (q0 := 0) (ci := 6) (As := []) (rest := [.int (u21 8 ((4 : Int32)).toNatClampNeg), .int (4 : Int32), .ref (ad 8)]) S hK hP hS (k_X6_isTokenSomewhere hap q66) rfl rfl wl_X6_177 wi_X6_isTokenSomewhere ws_X6_isTokenSomewhere wz_X6 wc_X6_isTokenSomewhere hy_X6_isTokenSomewhere ⟨Nat.le_of_ble_eq_true rfl, Nat.le_of_ble_eq_true rfl⟩ hl.1 rfl (Nat.le_of_ble_eq_true rfl) dX6_visit_69 (fun H locs hP hS => ?_)
      refine lv_if_ne (tgt := 79) S.1 S.2.1 dX6_visit_72 (by decide) (fun c69 => ?_) (fun c69 => ?_)
      · rw [if_neg c69] at h
        exact B_79 _ _ _ u68 h _ _ _ hP hS (lv_sub hl [0, 1] rfl)
      · rw [if_pos c69] at h
        refine lv_iconst (v := (1 : Int32)) S.1 S.2.1 dX6_visit_75 (by decide) ?_
        refine lv_goto (tgt := 80) S.1 S.2.1 dX6_visit_76 (by decide) ?_
        exact B_80 _ _ _ _ u68 h _ _ _ hP hS (lv_sub hl [0, 1] rfl)
theorem hy_X6_pass : yX6_pass.cls ≠ "java/lang/invoke/MethodHandle" ∧ yX6_pass.cls ≠ "java/lang/invoke/VarHandle" ∧ (parseMethodDescriptor yX6_pass.desc).map (fun d => d.parameters.length) = some 0 := by decide +kernel
set_option maxHeartbeats 4000000 in
set_option maxRecDepth 100000 in
theorem k_X6_pass {l : Launch} {dC : Nat → ClassId} {dI : Nat → Nat → Nat} {ad : Nat → Nat} {cI : ClassId} (hap : AP ad 9) {u uf : Wo} {rf : Int32} (h : fX6_pass u = some (rf, uf)) : CI l dC dI cI (WM ad cI) (AF ad 9) yX6_pass cX6_pass 2 (some .int) 6 149 [.ref (ad 0)] u rf uf := by
  refine ci_begin (by decide) (Nat.le_of_ble_eq_true rfl) ?_
  intro p e s m args below meth c S hr hlk hK
  have B_43 : ∀ (k63 : Wo → Re) (hk63 : ∀ (u : Wo), k63  u = some (rf, uf) → J p l e (rmk 6 149) s m args below meth c dC dI (WM ad cI) (AF ad 9) (MQ below (QI dC dI cI (WM ad cI) (AF ad 9) rf uf) args s 0 0 (AF ad 9)) u 63 2 [(0, .ref (ad 0))] []) (n : Nat) (x1 : Int32) (u : Wo), fX6_pass_43 k63 n x1 u = some (rf, uf) → J p l e (rmk 6 149) s m args below meth c dC dI (WM ad cI) (AF ad 9) (MQ below (QI dC dI cI (WM ad cI) (AF ad 9) rf uf) args s 0 0 (AF ad 9)) u 43 2 [(0, .ref (ad 0)), (1, .int x1)] [] := by
    intro k63 hk63
    intro n
    induction n with
    | zero => intro x1 u h; cases h
    | succ n ih =>
      intro x1 u h H locs ls hP hS hl
      rw [fX6_pass_43.eq_2] at h
      refine lv_iload_n S.1 S.2.1 dX6_pass_43 rfl (lv_at hl 1 rfl) ?_
      refine lv_sipush (v := (1024 : Int32)) S.1 S.2.1 dX6_pass_44 (by decide) ?_
      refine lv_icmp_ge (tgt := 63) S.1 S.2.1 dX6_pass_47 (by decide) (fun c9 => ?_) (fun c9 => ?_)
      · rw [if_pos c9] at h
        exact hk63 u h _ _ _ hP hS (lv_sub hl [0] rfl)
      · rw [if_neg c9] at h
        refine lv_aload_n S.1 S.2.1 dX6_pass_50 rfl (lv_at hl 0 rfl) ?_
        refine gM_0_slots S hK hP wf_X6_38 dX6_pass_51 ?_
        refine lv_iload_n S.1 S.2.1 dX6_pass_54 rfl (lv_at hl 1 rfl) ?_
        refine lv_iconst (v := (0 : Int32)) S.1 S.2.1 dX6_pass_55 (by decide) ?_
        obtain ⟨q10, h⟩ := gi_some h
        obtain ⟨u11, hu11, h⟩ := bw_some h
        refine tM_7 S hK hap hP hS q10 dX6_pass_56 hu11 (fun H locs hP hS => ?_)
        refine lv_iinc (v := (x1 + (1 : Int32))) (lv' := [(1, .int (x1 + (1 : Int32))), (0, .ref (ad 0))]) S.1 S.2.1 dX6_pass_57 hl (k := 1) rfl rfl (by decide) rfl (fun ls hl => ?_)
        refine lv_goto (tgt := 43) S.1 S.2.1 dX6_pass_60 (by decide) ?_
        exact ih _ u11 h _ _ _ hP hS (lv_sub hl [1, 0] rfl)
  have B_65 : ∀ (k84 : Wo → Re) (hk84 : ∀ (u : Wo), k84  u = some (rf, uf) → J p l e (rmk 6 149) s m args below meth c dC dI (WM ad cI) (AF ad 9) (MQ below (QI dC dI cI (WM ad cI) (AF ad 9) rf uf) args s 0 0 (AF ad 9)) u 84 2 [(0, .ref (ad 0))] []) (n : Nat) (x1 : Int32) (u : Wo), fX6_pass_65 k84 n x1 u = some (rf, uf) → J p l e (rmk 6 149) s m args below meth c dC dI (WM ad cI) (AF ad 9) (MQ below (QI dC dI cI (WM ad cI) (AF ad 9) rf uf) args s 0 0 (AF ad 9)) u 65 2 [(0, .ref (ad 0)), (1, .int x1)] [] := by
    intro k84 hk84
    intro n
    induction n with
    | zero => intro x1 u h; cases h
    | succ n ih =>
      intro x1 u h H locs ls hP hS hl
      rw [fX6_pass_65.eq_2] at h
      refine lv_iload_n S.1 S.2.1 dX6_pass_65 rfl (lv_at hl 1 rfl) ?_
      refine lv_bipush (v := (7 : Int32)) S.1 S.2.1 dX6_pass_66 (by decide) ?_
      refine lv_icmp_ge (tgt := 84) S.1 S.2.1 dX6_pass_68 (by decide) (fun c12 => ?_) (fun c12 => ?_)
      · rw [if_pos c12] at h
        exact hk84 u h _ _ _ hP hS (lv_sub hl [0] rfl)
      · rw [if_neg c12] at h
        refine lv_aload_n S.1 S.2.1 dX6_pass_71 rfl (lv_at hl 0 rfl) ?_
        refine gM_0_told S hK hP wf_X6_41 dX6_pass_72 ?_
        refine lv_iload_n S.1 S.2.1 dX6_pass_75 rfl (lv_at hl 1 rfl) ?_
        refine lv_iconst (v := (0 : Int32)) S.1 S.2.1 dX6_pass_76 (by decide) ?_
        obtain ⟨q13, h⟩ := gi_some h
        obtain ⟨u14, hu14, h⟩ := bw_some h
        refine tM_8 S hK hap hP hS q13 dX6_pass_77 hu14 (fun H locs hP hS => ?_)
        refine lv_iinc (v := (x1 + (1 : Int32))) (lv' := [(1, .int (x1 + (1 : Int32))), (0, .ref (ad 0))]) S.1 S.2.1 dX6_pass_78 hl (k := 1) rfl rfl (by decide) rfl (fun ls hl => ?_)
        refine lv_goto (tgt := 65) S.1 S.2.1 dX6_pass_81 (by decide) ?_
        exact ih _ u14 h _ _ _ hP hS (lv_sub hl [1, 0] rfl)
  have B_90 : ∀ (k109 : Wo → Re) (hk109 : ∀ (u : Wo), k109  u = some (rf, uf) → J p l e (rmk 6 149) s m args below meth c dC dI (WM ad cI) (AF ad 9) (MQ below (QI dC dI cI (WM ad cI) (AF ad 9) rf uf) args s 0 0 (AF ad 9)) u 109 2 [(0, .ref (ad 0))] []) (n : Nat) (x1 : Int32) (u : Wo), fX6_pass_90 k109 n x1 u = some (rf, uf) → J p l e (rmk 6 149) s m args below meth c dC dI (WM ad cI) (AF ad 9) (MQ below (QI dC dI cI (WM ad cI) (AF ad 9) rf uf) args s 0 0 (AF ad 9)) u 90 2 [(0, .ref (ad 0)), (1, .int x1)] [] := by
    intro k109 hk109
    intro n
    induction n with
    | zero => intro x1 u h; cases h
    | succ n ih =>
      intro x1 u h H locs ls hP hS hl
      rw [fX6_pass_90.eq_2] at h
      refine lv_iload_n S.1 S.2.1 dX6_pass_90 rfl (lv_at hl 1 rfl) ?_
      refine lv_aload_n S.1 S.2.1 dX6_pass_91 rfl (lv_at hl 0 rfl) ?_
      refine gM_0_states S hK hP wf_X6_156 dX6_pass_92 ?_
      refine lv_icmp_ge (tgt := 109) S.1 S.2.1 dX6_pass_95 (by decide) (fun c18 => ?_) (fun c18 => ?_)
      · rw [if_pos c18] at h
        exact hk109 u h _ _ _ hP hS (lv_sub hl [0] rfl)
      · rw [if_neg c18] at h
        refine lv_aload_n S.1 S.2.1 dX6_pass_98 rfl (lv_at hl 0 rfl) ?_
        refine lv_iload_n S.1 S.2.1 dX6_pass_99 rfl (lv_at hl 1 rfl) ?_
        obtain ⟨r20, u21, q19, h⟩ := bd_some h
        refine x_vv (Wf := WM ad cI) (q0 := 0) (ci := 6) (As := [.int x1]) (rest := []) S hK hP hS (k_X6_visit hap q19) rfl rfl wl_X6_183 wi_X6_visit ws_X6_visit wz_X6 wc_X6_visit hy_X6_visit ⟨Nat.le_of_ble_eq_true rfl, Nat.le_of_ble_eq_true rfl⟩ hl.1 rfl (Nat.le_of_ble_eq_true rfl) dX6_pass_100 (fun H locs hP hS => ?_)
        refine lv_iinc (v := (x1 + (1 : Int32))) (lv' := [(1, .int (x1 + (1 : Int32))), (0, .ref (ad 0))]) S.1 S.2.1 dX6_pass_103 hl (k := 1) rfl rfl (by decide) rfl (fun ls hl => ?_)
        refine lv_goto (tgt := 90) S.1 S.2.1 dX6_pass_106 (by decide) ?_
        exact ih _ u21 h _ _ _ hP hS (lv_sub hl [1, 0] rfl)
  have B_126 : ∀ (k151 : Wo → Re) (hk151 : ∀ (u : Wo), k151  u = some (rf, uf) → J p l e (rmk 6 149) s m args below meth c dC dI (WM ad cI) (AF ad 9) (MQ below (QI dC dI cI (WM ad cI) (AF ad 9) rf uf) args s 0 0 (AF ad 9)) u 151 2 [(0, .ref (ad 0))] []) (n : Nat) (x1 : Int32) (u : Wo), fX6_pass_126 k151 n x1 u = some (rf, uf) → J p l e (rmk 6 149) s m args below meth c dC dI (WM ad cI) (AF ad 9) (MQ below (QI dC dI cI (WM ad cI) (AF ad 9) rf uf) args s 0 0 (AF ad 9)) u 126 2 [(0, .ref (ad 0)), (1, .int x1)] [] := by
    intro k151 hk151
    intro n
    induction n with
    | zero => intro x1 u h; cases h
    | succ n ih =>
      intro x1 u h H locs ls hP hS hl
      rw [fX6_pass_126.eq_2] at h
      refine lv_iload_n S.1 S.2.1 dX6_pass_126 rfl (lv_at hl 1 rfl) ?_
      refine lv_sipush (v := (1040 : Int32)) S.1 S.2.1 dX6_pass_127 (by decide) ?_
      refine lv_icmp_ge (tgt := 151) S.1 S.2.1 dX6_pass_130 (by decide) (fun c25 => ?_) (fun c25 => ?_)
      · rw [if_pos c25] at h
        exact hk151 u h _ _ _ hP hS (lv_sub hl [0] rfl)
      · rw [if_neg c25] at h
        refine lv_aload_n S.1 S.2.1 dX6_pass_133 rfl (lv_at hl 0 rfl) ?_
        refine gM_0_st S hK hP wf_X6_17 dX6_pass_134 ?_
        refine lv_iload_n S.1 S.2.1 dX6_pass_137 rfl (lv_at hl 1 rfl) ?_
        refine lv_aload_n S.1 S.2.1 dX6_pass_138 rfl (lv_at hl 0 rfl) ?_
        refine gM_0_back S hK hP wf_X6_31 dX6_pass_139 ?_
        refine lv_iload_n S.1 S.2.1 dX6_pass_142 rfl (lv_at hl 1 rfl) ?_
        obtain ⟨q26, h⟩ := gi_some h
        refine lM_5 S hK hP q26 dX6_pass_143 ?_
        obtain ⟨q27, h⟩ := gi_some h
        obtain ⟨u28, hu28, h⟩ := bw_some h
        refine tM_2 S hK hap hP hS q27 dX6_pass_144 hu28 (fun H locs hP hS => ?_)
        refine lv_iinc (v := (x1 + (1 : Int32))) (lv' := [(1, .int (x1 + (1 : Int32))), (0, .ref (ad 0))]) S.1 S.2.1 dX6_pass_145 hl (k := 1) rfl rfl (by decide) rfl (fun ls hl => ?_)
        refine lv_goto (tgt := 126) S.1 S.2.1 dX6_pass_148 (by decide) ?_
        exact ih _ u28 h _ _ _ hP hS (lv_sub hl [1, 0] rfl)
  have B_167 : ∀ (s0 : Int32) (u : Wo), fX6_pass_167 s0 u = some (rf, uf) → J p l e (rmk 6 149) s m args below meth c dC dI (WM ad cI) (AF ad 9) (MQ below (QI dC dI cI (WM ad cI) (AF ad 9) rf uf) args s 0 0 (AF ad 9)) u 167 2 [] [.int s0] := by
    intro s0 u h H locs ls hP hS hl
    unfold fX6_pass_167 at h
    exact x_iret S hr hlk hK hP hS h dX6_pass_167
  have B_151 : ∀ (u : Wo), fX6_pass_151 u = some (rf, uf) → J p l e (rmk 6 149) s m args below meth c dC dI (WM ad cI) (AF ad 9) (MQ below (QI dC dI cI (WM ad cI) (AF ad 9) rf uf) args s 0 0 (AF ad 9)) u 151 2 [(0, .ref (ad 0))] [] := by
    intro u h H locs ls hP hS hl
    unfold fX6_pass_151 at h
    refine lv_aload_n S.1 S.2.1 dX6_pass_151 rfl (lv_at hl 0 rfl) ?_
    refine gM_0_isSpent S hK hP wf_X6_159 dX6_pass_152 ?_
    refine lv_if_eq (tgt := 163) S.1 S.2.1 dX6_pass_155 (by decide) (fun c29 => ?_) (fun c29 => ?_)
    · rw [if_pos c29] at h
      refine lv_aload_n S.1 S.2.1 dX6_pass_163 rfl (lv_at hl 0 rfl) ?_
      refine gM_0_states S hK hP wf_X6_156 dX6_pass_164 ?_
      exact B_167 _ u h _ _ _ hP hS (lv_sub hl [] rfl)
    · rw [if_neg c29] at h
      refine lv_bipush (v := (-5 : Int32)) S.1 S.2.1 dX6_pass_158 (by decide) ?_
      refine lv_goto (tgt := 167) S.1 S.2.1 dX6_pass_160 (by decide) ?_
      exact B_167 _ u h _ _ _ hP hS (lv_sub hl [] rfl)
  have B_109 : ∀ (u : Wo), fX6_pass_109 u = some (rf, uf) → J p l e (rmk 6 149) s m args below meth c dC dI (WM ad cI) (AF ad 9) (MQ below (QI dC dI cI (WM ad cI) (AF ad 9) rf uf) args s 0 0 (AF ad 9)) u 109 2 [(0, .ref (ad 0))] [] := by
    intro u h H locs ls hP hS hl
    unfold fX6_pass_109 at h
    refine lv_aload_n S.1 S.2.1 dX6_pass_109 rfl (lv_at hl 0 rfl) ?_
    refine gM_0_told S hK hP wf_X6_41 dX6_pass_110 ?_
    refine lv_iconst (v := (0 : Int32)) S.1 S.2.1 dX6_pass_113 (by decide) ?_
    refine lv_aload_n S.1 S.2.1 dX6_pass_114 rfl (lv_at hl 0 rfl) ?_
    refine gM_0_states S hK hP wf_X6_156 dX6_pass_115 ?_
    obtain ⟨q22, h⟩ := gi_some h
    obtain ⟨u23, hu23, h⟩ := bw_some h
    refine tM_8 S hK hap hP hS q22 dX6_pass_118 hu23 (fun H locs hP hS => ?_)
    refine lv_aload_n S.1 S.2.1 dX6_pass_119 rfl (lv_at hl 0 rfl) ?_
    refine lv_iconst (v := (1 : Int32)) S.1 S.2.1 dX6_pass_120 (by decide) ?_
    obtain ⟨u24, hu24, h⟩ := bw_some h
    refine pM_0_records S hK hap hP hS wf_X6_23 dX6_pass_121 (by decide) hu24 (fun H locs hP hS => ?_)
    refine lv_iconst (v := (0 : Int32)) S.1 S.2.1 dX6_pass_124 (by decide) ?_
    refine lv_istore_n (lv' := [(1, .int (0 : Int32)), (0, .ref (ad 0))]) S.1 S.2.1 dX6_pass_125 rfl hl (by decide) rfl (fun ls hl => ?_)
    exact B_126 _ B_151 FU _ u24 h _ _ _ hP hS (lv_sub hl [1, 0] rfl)
  have B_84 : ∀ (u : Wo), fX6_pass_84 u = some (rf, uf) → J p l e (rmk 6 149) s m args below meth c dC dI (WM ad cI) (AF ad 9) (MQ below (QI dC dI cI (WM ad cI) (AF ad 9) rf uf) args s 0 0 (AF ad 9)) u 84 2 [(0, .ref (ad 0))] [] := by
    intro u h H locs ls hP hS hl
    unfold fX6_pass_84 at h
    refine lv_aload_n S.1 S.2.1 dX6_pass_84 rfl (lv_at hl 0 rfl) ?_
    obtain ⟨r16, u17, q15, h⟩ := bd_some h
    refine x_vv (Wf := WM ad cI) (q0 := 0) (ci := 6) (As := []) (rest := []) S hK hP hS (k_X6_meets hap q15) rfl rfl wl_X6_162 wi_X6_meets ws_X6_meets wz_X6 wc_X6_meets hy_X6_meets ⟨Nat.le_of_ble_eq_true rfl, Nat.le_of_ble_eq_true rfl⟩ hl.1 rfl (Nat.le_of_ble_eq_true rfl) dX6_pass_85 (fun H locs hP hS => ?_)
    refine lv_iconst (v := (0 : Int32)) S.1 S.2.1 dX6_pass_88 (by decide) ?_
    refine lv_istore_n (lv' := [(1, .int (0 : Int32)), (0, .ref (ad 0))]) S.1 S.2.1 dX6_pass_89 rfl hl (by decide) rfl (fun ls hl => ?_)
    exact B_90 _ B_109 FU _ u17 h _ _ _ hP hS (lv_sub hl [1, 0] rfl)
  have B_63 : ∀ (u : Wo), fX6_pass_63 u = some (rf, uf) → J p l e (rmk 6 149) s m args below meth c dC dI (WM ad cI) (AF ad 9) (MQ below (QI dC dI cI (WM ad cI) (AF ad 9) rf uf) args s 0 0 (AF ad 9)) u 63 2 [(0, .ref (ad 0))] [] := by
    intro u h H locs ls hP hS hl
    unfold fX6_pass_63 at h
    refine lv_iconst (v := (0 : Int32)) S.1 S.2.1 dX6_pass_63 (by decide) ?_
    refine lv_istore_n (lv' := [(1, .int (0 : Int32)), (0, .ref (ad 0))]) S.1 S.2.1 dX6_pass_64 rfl hl (by decide) rfl (fun ls hl => ?_)
    exact B_65 _ B_84 FU _ u h _ _ _ hP hS (lv_sub hl [1, 0] rfl)
  intro H locs ls hP hS hl
  have hl : lv_has ls 2 [(0, .ref (ad 0))] := hl
  unfold fX6_pass at h
  refine lv_aload_n S.1 S.2.1 dX6_pass_0 rfl (lv_at hl 0 rfl) ?_
  refine gM_0_passes S hK hP wf_X6_60 dX6_pass_1 ?_
  refine lv_bipush (v := (15 : Int32)) S.1 S.2.1 dX6_pass_4 (by decide) ?_
  refine lv_icmp_ne (tgt := 12) S.1 S.2.1 dX6_pass_6 (by decide) (fun c1 => ?_) (fun c1 => ?_)
  · rw [if_neg c1] at h
    refine lv_aload_n S.1 S.2.1 dX6_pass_12 rfl (lv_at hl 0 rfl) ?_
    refine lv_dup S.1 S.2.1 dX6_pass_13 rfl ?_
    refine gM_0_passes S hK hP wf_X6_60 dX6_pass_14 ?_
    refine lv_iconst (v := (1 : Int32)) S.1 S.2.1 dX6_pass_17 (by decide) ?_
    refine lv_iadd S.1 S.2.1 dX6_pass_18 ?_
    obtain ⟨u2, hu2, h⟩ := bw_some h
    refine pM_0_passes S hK hap hP hS wf_X6_60 dX6_pass_19 hu2 (fun H locs hP hS => ?_)
    refine lv_aload_n S.1 S.2.1 dX6_pass_22 rfl (lv_at hl 0 rfl) ?_
    obtain ⟨r4, u5, q3, h⟩ := bd_some h
    refine x_vv (Wf := WM ad cI) (q0 := 0) (ci := 6) (As := []) (rest := []) S hK hP hS (k_X6_store hap q3) rfl rfl wl_X6_116 wi_X6_store ws_X6_store wz_X6 wc_X6_store hy_X6_store ⟨Nat.le_of_ble_eq_true rfl, Nat.le_of_ble_eq_true rfl⟩ hl.1 rfl (Nat.le_of_ble_eq_true rfl) dX6_pass_23 (fun H locs hP hS => ?_)
    refine lv_aload_n S.1 S.2.1 dX6_pass_26 rfl (lv_at hl 0 rfl) ?_
    refine lv_iconst (v := (0 : Int32)) S.1 S.2.1 dX6_pass_27 (by decide) ?_
    obtain ⟨u6, hu6, h⟩ := bw_some h
    refine pM_0_records S hK hap hP hS wf_X6_23 dX6_pass_28 (by decide) hu6 (fun H locs hP hS => ?_)
    refine lv_aload_n S.1 S.2.1 dX6_pass_31 rfl (lv_at hl 0 rfl) ?_
    refine lv_iconst (v := (0 : Int32)) S.1 S.2.1 dX6_pass_32 (by decide) ?_
    obtain ⟨u7, hu7, h⟩ := bw_some h
    refine pM_0_states S hK hap hP hS wf_X6_156 dX6_pass_33 hu7 (fun H locs hP hS => ?_)
    refine lv_aload_n S.1 S.2.1 dX6_pass_36 rfl (lv_at hl 0 rfl) ?_
    refine lv_iconst (v := (0 : Int32)) S.1 S.2.1 dX6_pass_37 (by decide) ?_
    obtain ⟨u8, hu8, h⟩ := bw_some h
    refine pM_0_isSpent S hK hap hP hS wf_X6_159 dX6_pass_38 (by decide) hu8 (fun H locs hP hS => ?_)
    refine lv_iconst (v := (0 : Int32)) S.1 S.2.1 dX6_pass_41 (by decide) ?_
    refine lv_istore_n (lv' := [(1, .int (0 : Int32)), (0, .ref (ad 0))]) S.1 S.2.1 dX6_pass_42 rfl hl (by decide) rfl (fun ls hl => ?_)
    exact B_43 _ B_63 FU _ u8 h _ _ _ hP hS (lv_sub hl [1, 0] rfl)
  · rw [if_pos c1] at h
    refine lv_bipush (v := (-3 : Int32)) S.1 S.2.1 dX6_pass_9 (by decide) ?_
    exact x_iret S hr hlk hK hP hS h dX6_pass_11
theorem hy_X6_passed : yX6_passed.cls ≠ "java/lang/invoke/MethodHandle" ∧ yX6_passed.cls ≠ "java/lang/invoke/VarHandle" ∧ (parseMethodDescriptor yX6_passed.desc).map (fun d => d.parameters.length) = some 1 := by decide +kernel
set_option maxHeartbeats 4000000 in
set_option maxRecDepth 100000 in
theorem k_X6_passed {l : Launch} {dC : Nat → ClassId} {dI : Nat → Nat → Nat} {ad : Nat → Nat} {cI : ClassId} (hap : AP ad 9) {x1 : Int32} {u uf : Wo} {rf : Int32} (h : fX6_passed x1 u = some (rf, uf)) : CI l dC dI cI (WM ad cI) (AF ad 9) yX6_passed cX6_passed 2 (some .int) 1 22 [.ref (ad 0), .int x1] u rf uf := by
  refine ci_begin (by decide) (Nat.le_of_ble_eq_true rfl) ?_
  intro p e s m args below meth c S hr hlk hK
  have B_20 : ∀ (s0 : Int32) (u : Wo), fX6_passed_20 s0 u = some (rf, uf) → J p l e (rmk 1 22) s m args below meth c dC dI (WM ad cI) (AF ad 9) (MQ below (QI dC dI cI (WM ad cI) (AF ad 9) rf uf) args s 0 0 (AF ad 9)) u 20 2 [] [.int s0] := by
    intro s0 u h H locs ls hP hS hl
    unfold fX6_passed_20 at h
    exact x_iret S hr hlk hK hP hS h dX6_passed_20
  intro H locs ls hP hS hl
  have hl : lv_has ls 2 [(0, .ref (ad 0)), (1, .int x1)] := hl
  unfold fX6_passed at h
  refine lv_iload_n S.1 S.2.1 dX6_passed_0 rfl (lv_at hl 1 rfl) ?_
  refine lv_iconst (v := (0 : Int32)) S.1 S.2.1 dX6_passed_1 (by decide) ?_
  refine lv_bipush (v := (6 : Int32)) S.1 S.2.1 dX6_passed_2 (by decide) ?_
  obtain ⟨r2, u3, q1, h⟩ := bd_some h
  refine x_si (Wf := WM ad cI) (As := [.int x1, .int (0 : Int32), .int (6 : Int32)]) (rest := []) S hK hP hS (k_X6_in hap q1) wl_X6_47 wt_X6_in wz_X6 wc_X6_in hy_X6_in ⟨Nat.le_of_ble_eq_true rfl, Nat.le_of_ble_eq_true rfl⟩ hl.1 rfl (Nat.le_of_ble_eq_true rfl) dX6_passed_4 (fun H locs hP hS => ?_)
  refine lv_if_eq (tgt := 19) S.1 S.2.1 dX6_passed_7 (by decide) (fun c4 => ?_) (fun c4 => ?_)
  · rw [if_pos c4] at h
    refine lv_iconst (v := (-1 : Int32)) S.1 S.2.1 dX6_passed_19 (by decide) ?_
    exact B_20 _ u3 h _ _ _ hP hS (lv_sub hl [] rfl)
  · rw [if_neg c4] at h
    refine lv_aload_n S.1 S.2.1 dX6_passed_10 rfl (lv_at hl 0 rfl) ?_
    refine gM_0_told S hK hP wf_X6_41 dX6_passed_11 ?_
    refine lv_iload_n S.1 S.2.1 dX6_passed_14 rfl (lv_at hl 1 rfl) ?_
    obtain ⟨q5, h⟩ := gi_some h
    refine lM_8 S hK hP q5 dX6_passed_15 ?_
    refine lv_goto (tgt := 20) S.1 S.2.1 dX6_passed_16 (by decide) ?_
    exact B_20 _ u3 h _ _ _ hP hS (lv_sub hl [] rfl)
theorem hy_X6_count : yX6_count.cls ≠ "java/lang/invoke/MethodHandle" ∧ yX6_count.cls ≠ "java/lang/invoke/VarHandle" ∧ (parseMethodDescriptor yX6_count.desc).map (fun d => d.parameters.length) = some 1 := by decide +kernel
set_option maxHeartbeats 4000000 in
set_option maxRecDepth 100000 in
theorem k_X6_count {l : Launch} {dC : Nat → ClassId} {dI : Nat → Nat → Nat} {ad : Nat → Nat} {cI : ClassId} (hap : AP ad 9) {x1 : Int32} {u uf : Wo} {rf : Int32} (h : fX6_count x1 u = some (rf, uf)) : CI l dC dI cI (WM ad cI) (AF ad 9) yX6_count cX6_count 2 (some .int) 1 23 [.ref (ad 0), .int x1] u rf uf := by
  refine ci_begin (by decide) (Nat.le_of_ble_eq_true rfl) ?_
  intro p e s m args below meth c S hr hlk hK
  have B_73 : ∀ (x1 : Int32) (u : Wo), fX6_count_73 x1 u = some (rf, uf) → J p l e (rmk 1 23) s m args below meth c dC dI (WM ad cI) (AF ad 9) (MQ below (QI dC dI cI (WM ad cI) (AF ad 9) rf uf) args s 0 0 (AF ad 9)) u 73 2 [(0, .ref (ad 0)), (1, .int x1)] [] := by
    intro x1 u h H locs ls hP hS hl
    unfold fX6_count_73 at h
    refine lv_aload_n S.1 S.2.1 dX6_count_73 rfl (lv_at hl 0 rfl) ?_
    refine gM_0_ex S hK hP wf_X6_20 dX6_count_74 ?_
    refine lv_bipush (v := (7 : Int32)) S.1 S.2.1 dX6_count_77 (by decide) ?_
    refine lv_iload_n S.1 S.2.1 dX6_count_79 rfl (lv_at hl 1 rfl) ?_
    refine lv_iadd S.1 S.2.1 dX6_count_80 ?_
    refine lv_iconst (v := (3 : Int32)) S.1 S.2.1 dX6_count_81 (by decide) ?_
    refine lv_isub S.1 S.2.1 dX6_count_82 ?_
    obtain ⟨q3, h⟩ := gi_some h
    refine lM_3 S hK hP q3 dX6_count_83 ?_
    exact x_iret S hr hlk hK hP hS h dX6_count_84
  intro H locs ls hP hS hl
  have hl : lv_has ls 2 [(0, .ref (ad 0)), (1, .int x1)] := hl
  unfold fX6_count at h
  refine lv_iload_n S.1 S.2.1 dX6_count_0 rfl (lv_at hl 1 rfl) ?_
  by_cases c1_0 : x1 = (0 : Int32)
  · rw [if_pos c1_0] at h
    refine lv_tableIn (tgt := 56) (off := 55) S.1 S.2.1 dX6_count_1 (by rw [c1_0]; decide) (by rw [c1_0]; decide) (by rw [c1_0]; decide) (by decide) ?_
    refine lv_aload_n S.1 S.2.1 dX6_count_56 rfl (lv_at hl 0 rfl) ?_
    refine gM_0_n S hK hP wf_X6_7 dX6_count_57 ?_
    exact x_iret S hr hlk hK hP hS h dX6_count_60
  rw [if_neg c1_0] at h
  by_cases c1_1 : x1 = (1 : Int32)
  · rw [if_pos c1_1] at h
    refine lv_tableIn (tgt := 61) (off := 60) S.1 S.2.1 dX6_count_1 (by rw [c1_1]; decide) (by rw [c1_1]; decide) (by rw [c1_1]; decide) (by decide) ?_
    refine lv_aload_n S.1 S.2.1 dX6_count_61 rfl (lv_at hl 0 rfl) ?_
    refine gM_0_way S hK hP wf_X6_66 dX6_count_62 ?_
    exact x_iret S hr hlk hK hP hS h dX6_count_65
  rw [if_neg c1_1] at h
  by_cases c1_2 : x1 = (2 : Int32)
  · rw [if_pos c1_2] at h
    refine lv_tableIn (tgt := 66) (off := 65) S.1 S.2.1 dX6_count_1 (by rw [c1_2]; decide) (by rw [c1_2]; decide) (by rw [c1_2]; decide) (by decide) ?_
    refine lv_aload_n S.1 S.2.1 dX6_count_66 rfl (lv_at hl 0 rfl) ?_
    refine gM_0_ex S hK hP wf_X6_20 dX6_count_67 ?_
    refine lv_iconst (v := (0 : Int32)) S.1 S.2.1 dX6_count_70 (by decide) ?_
    obtain ⟨q2, h⟩ := gi_some h
    refine lM_3 S hK hP q2 dX6_count_71 ?_
    exact x_iret S hr hlk hK hP hS h dX6_count_72
  rw [if_neg c1_2] at h
  by_cases c1_3 : x1 = (3 : Int32)
  · rw [if_pos c1_3] at h
    refine lv_tableIn (tgt := 73) (off := 72) S.1 S.2.1 dX6_count_1 (by rw [c1_3]; decide) (by rw [c1_3]; decide) (by rw [c1_3]; decide) (by decide) ?_
    exact B_73 _ u h _ _ _ hP hS (lv_sub hl [0, 1] rfl)
  rw [if_neg c1_3] at h
  by_cases c1_4 : x1 = (4 : Int32)
  · rw [if_pos c1_4] at h
    refine lv_tableIn (tgt := 73) (off := 72) S.1 S.2.1 dX6_count_1 (by rw [c1_4]; decide) (by rw [c1_4]; decide) (by rw [c1_4]; decide) (by decide) ?_
    exact B_73 _ u h _ _ _ hP hS (lv_sub hl [0, 1] rfl)
  rw [if_neg c1_4] at h
  by_cases c1_5 : x1 = (5 : Int32)
  · rw [if_pos c1_5] at h
    refine lv_tableIn (tgt := 73) (off := 72) S.1 S.2.1 dX6_count_1 (by rw [c1_5]; decide) (by rw [c1_5]; decide) (by rw [c1_5]; decide) (by decide) ?_
    exact B_73 _ u h _ _ _ hP hS (lv_sub hl [0, 1] rfl)
  rw [if_neg c1_5] at h
  by_cases c1_6 : x1 = (6 : Int32)
  · rw [if_pos c1_6] at h
    refine lv_tableIn (tgt := 85) (off := 84) S.1 S.2.1 dX6_count_1 (by rw [c1_6]; decide) (by rw [c1_6]; decide) (by rw [c1_6]; decide) (by decide) ?_
    refine lv_aload_n S.1 S.2.1 dX6_count_85 rfl (lv_at hl 0 rfl) ?_
    obtain ⟨r5, u6, q4, h⟩ := bd_some h
    refine x_vi (Wf := WM ad cI) (q0 := 0) (ci := 6) (As := []) (rest := []) S hK hP hS (k_X6_underWay hap q4) rfl rfl wl_X6_174 wi_X6_underWay ws_X6_underWay wz_X6 wc_X6_underWay hy_X6_underWay ⟨Nat.le_of_ble_eq_true rfl, Nat.le_of_ble_eq_true rfl⟩ hl.1 rfl (Nat.le_of_ble_eq_true rfl) dX6_count_86 (fun H locs hP hS => ?_)
    exact x_iret S hr hlk hK hP hS h dX6_count_89
  rw [if_neg c1_6] at h
  by_cases c1_7 : x1 = (7 : Int32)
  · rw [if_pos c1_7] at h
    refine lv_tableIn (tgt := 90) (off := 89) S.1 S.2.1 dX6_count_1 (by rw [c1_7]; decide) (by rw [c1_7]; decide) (by rw [c1_7]; decide) (by decide) ?_
    refine lv_aload_n S.1 S.2.1 dX6_count_90 rfl (lv_at hl 0 rfl) ?_
    refine lv_iconst (v := (2 : Int32)) S.1 S.2.1 dX6_count_91 (by decide) ?_
    obtain ⟨r8, u9, q7, h⟩ := bd_some h
    refine x_vi (Wf := WM ad cI) (q0 := 0) (ci := 6) (As := [.int (2 : Int32)]) (rest := []) S hK hP hS (k_X6_ofMode hap q7) rfl rfl wl_X6_168 wi_X6_ofMode ws_X6_ofMode wz_X6 wc_X6_ofMode hy_X6_ofMode ⟨Nat.le_of_ble_eq_true rfl, Nat.le_of_ble_eq_true rfl⟩ hl.1 rfl (Nat.le_of_ble_eq_true rfl) dX6_count_92 (fun H locs hP hS => ?_)
    exact x_iret S hr hlk hK hP hS h dX6_count_95
  rw [if_neg c1_7] at h
  by_cases c1_8 : x1 = (8 : Int32)
  · rw [if_pos c1_8] at h
    refine lv_tableIn (tgt := 96) (off := 95) S.1 S.2.1 dX6_count_1 (by rw [c1_8]; decide) (by rw [c1_8]; decide) (by rw [c1_8]; decide) (by decide) ?_
    refine lv_aload_n S.1 S.2.1 dX6_count_96 rfl (lv_at hl 0 rfl) ?_
    refine lv_iconst (v := (1 : Int32)) S.1 S.2.1 dX6_count_97 (by decide) ?_
    obtain ⟨r11, u12, q10, h⟩ := bd_some h
    refine x_vi (Wf := WM ad cI) (q0 := 0) (ci := 6) (As := [.int (1 : Int32)]) (rest := []) S hK hP hS (k_X6_ofMode hap q10) rfl rfl wl_X6_168 wi_X6_ofMode ws_X6_ofMode wz_X6 wc_X6_ofMode hy_X6_ofMode ⟨Nat.le_of_ble_eq_true rfl, Nat.le_of_ble_eq_true rfl⟩ hl.1 rfl (Nat.le_of_ble_eq_true rfl) dX6_count_98 (fun H locs hP hS => ?_)
    exact x_iret S hr hlk hK hP hS h dX6_count_101
  rw [if_neg c1_8] at h
  by_cases c1_9 : x1 = (9 : Int32)
  · rw [if_pos c1_9] at h
    refine lv_tableIn (tgt := 102) (off := 101) S.1 S.2.1 dX6_count_1 (by rw [c1_9]; decide) (by rw [c1_9]; decide) (by rw [c1_9]; decide) (by decide) ?_
    refine lv_aload_n S.1 S.2.1 dX6_count_102 rfl (lv_at hl 0 rfl) ?_
    refine gM_0_kept S hK hP wf_X6_54 dX6_count_103 ?_
    exact x_iret S hr hlk hK hP hS h dX6_count_106
  rw [if_neg c1_9] at h
  have ec1_0 : (x1).toInt ≠ 0 := fun q => c1_0 (Int32.toInt_inj.mp (q.trans (by decide)))
  have ec1_1 : (x1).toInt ≠ 1 := fun q => c1_1 (Int32.toInt_inj.mp (q.trans (by decide)))
  have ec1_2 : (x1).toInt ≠ 2 := fun q => c1_2 (Int32.toInt_inj.mp (q.trans (by decide)))
  have ec1_3 : (x1).toInt ≠ 3 := fun q => c1_3 (Int32.toInt_inj.mp (q.trans (by decide)))
  have ec1_4 : (x1).toInt ≠ 4 := fun q => c1_4 (Int32.toInt_inj.mp (q.trans (by decide)))
  have ec1_5 : (x1).toInt ≠ 5 := fun q => c1_5 (Int32.toInt_inj.mp (q.trans (by decide)))
  have ec1_6 : (x1).toInt ≠ 6 := fun q => c1_6 (Int32.toInt_inj.mp (q.trans (by decide)))
  have ec1_7 : (x1).toInt ≠ 7 := fun q => c1_7 (Int32.toInt_inj.mp (q.trans (by decide)))
  have ec1_8 : (x1).toInt ≠ 8 := fun q => c1_8 (Int32.toInt_inj.mp (q.trans (by decide)))
  have ec1_9 : (x1).toInt ≠ 9 := fun q => c1_9 (Int32.toInt_inj.mp (q.trans (by decide)))
  refine lv_tableOut (tgt := 107) S.1 S.2.1 dX6_count_1 (by omega) (by decide) ?_
  refine lv_iconst (v := (-1 : Int32)) S.1 S.2.1 dX6_count_107 (by decide) ?_
  exact x_iret S hr hlk hK hP hS h dX6_count_108
