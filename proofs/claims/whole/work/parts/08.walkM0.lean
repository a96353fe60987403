theorem hy_X6_layHolders : yX6_layHolders.cls ≠ "java/lang/invoke/MethodHandle" ∧ yX6_layHolders.cls ≠ "java/lang/invoke/VarHandle" ∧ (parseMethodDescriptor yX6_layHolders.desc).map (fun d => d.parameters.length) = some 0 := by decide +kernel
set_option maxHeartbeats 4000000 in
set_option maxRecDepth 100000 in
theorem k_X6_layHolders {l : Launch} {dC : Nat → ClassId} {dI : Nat → Nat → Nat} {ad : Nat → Nat} {cI : ClassId} (hap : AP ad 9) {u uf : Wo} {rf : Int32} (h : fX6_layHolders u = some (rf, uf)) : CV l dC dI cI (WM ad cI) (AF ad 9) yX6_layHolders cX6_layHolders 2 none 0 0 [.ref (ad 0)] u uf := by
  refine cv_begin (by decide) (Nat.le_of_ble_eq_true rfl) ?_
  intro p e s m args below meth c S hr hlk hK
  have B_34 : ∀ (k2 : Int32 → Wo → Re) (hk2 : ∀ (x1 : Int32) (u : Wo), k2 x1 u = some (rf, uf) → J p l e (rmk 0 0) s m args below meth c dC dI (WM ad cI) (AF ad 9) (MQ below (QV dC dI cI (WM ad cI) (AF ad 9) uf) args s 0 0 (AF ad 9)) u 2 2 [(0, .ref (ad 0)), (1, .int x1)] []) (x1 : Int32) (s1 : Int32) (s2 : Int32) (u : Wo), fX6_layHolders_34 k2 x1 s1 s2 u = some (rf, uf) → J p l e (rmk 0 0) s m args below meth c dC dI (WM ad cI) (AF ad 9) (MQ below (QV dC dI cI (WM ad cI) (AF ad 9) uf) args s 0 0 (AF ad 9)) u 34 2 [(0, .ref (ad 0)), (1, .int x1)] [.int s2, .int s1, .ref (ad 2)] := by
    intro k2 hk2 x1 s1 s2 u h H locs ls hP hS hl
    unfold fX6_layHolders_34 at h
    obtain ⟨q4, h⟩ := gi_some h
    obtain ⟨u5, hu5, h⟩ := bw_some h
    refine tM_2 S hK hap hP hS q4 dX6_layHolders_34 hu5 (fun H locs hP hS => ?_)
    refine lv_iinc (v := (x1 + (1 : Int32))) (lv' := [(1, .int (x1 + (1 : Int32))), (0, .ref (ad 0))]) S.1 S.2.1 dX6_layHolders_35 hl (k := 1) rfl rfl (by decide) rfl (fun ls hl => ?_)
    refine lv_goto (tgt := 2) S.1 S.2.1 dX6_layHolders_38 (by decide) ?_
    exact hk2 _ u5 h _ _ _ hP hS (lv_sub hl [1, 0] rfl)
  have B_2 : ∀ (k41 : Wo → Re) (hk41 : ∀ (u : Wo), k41  u = some (rf, uf) → J p l e (rmk 0 0) s m args below meth c dC dI (WM ad cI) (AF ad 9) (MQ below (QV dC dI cI (WM ad cI) (AF ad 9) uf) args s 0 0 (AF ad 9)) u 41 2 [] []) (n : Nat) (x1 : Int32) (u : Wo), fX6_layHolders_2 k41 n x1 u = some (rf, uf) → J p l e (rmk 0 0) s m args below meth c dC dI (WM ad cI) (AF ad 9) (MQ below (QV dC dI cI (WM ad cI) (AF ad 9) uf) args s 0 0 (AF ad 9)) u 2 2 [(0, .ref (ad 0)), (1, .int x1)] [] := by
    intro k41 hk41
    intro n
    induction n with
    | zero => intro x1 u h; cases h
    | succ n ih =>
      intro x1 u h H locs ls hP hS hl
      rw [fX6_layHolders_2.eq_2] at h
      refine lv_iload_n S.1 S.2.1 dX6_layHolders_2 rfl (lv_at hl 1 rfl) ?_
      refine lv_aload_n S.1 S.2.1 dX6_layHolders_3 rfl (lv_at hl 0 rfl) ?_
      refine gM_0_n S hK hP wf_X6_7 dX6_layHolders_4 ?_
      refine lv_icmp_ge (tgt := 41) S.1 S.2.1 dX6_layHolders_7 (by decide) (fun c1 => ?_) (fun c1 => ?_)
      · rw [if_pos c1] at h
        exact hk41 u h _ _ _ hP hS (lv_sub hl [] rfl)
      · rw [if_neg c1] at h
        refine lv_aload_n S.1 S.2.1 dX6_layHolders_10 rfl (lv_at hl 0 rfl) ?_
        refine gM_0_st S hK hP wf_X6_17 dX6_layHolders_11 ?_
        refine lv_bipush (v := (21 : Int32)) S.1 S.2.1 dX6_layHolders_14 (by decide) ?_
        refine lv_iload_n S.1 S.2.1 dX6_layHolders_16 rfl (lv_at hl 1 rfl) ?_
        refine lv_imul S.1 S.2.1 dX6_layHolders_17 ?_
        refine lv_iconst (v := (5 : Int32)) S.1 S.2.1 dX6_layHolders_18 (by decide) ?_
        refine lv_iadd S.1 S.2.1 dX6_layHolders_19 ?_
        refine lv_iload_n S.1 S.2.1 dX6_layHolders_20 rfl (lv_at hl 1 rfl) ?_
        refine lv_if_ne (tgt := 28) S.1 S.2.1 dX6_layHolders_21 (by decide) (fun c2 => ?_) (fun c2 => ?_)
        · rw [if_neg c2] at h
          refine lv_aload_n S.1 S.2.1 dX6_layHolders_28 rfl (lv_at hl 0 rfl) ?_
          refine gM_0_parent S hK hP wf_X6_13 dX6_layHolders_29 ?_
          refine lv_iload_n S.1 S.2.1 dX6_layHolders_32 rfl (lv_at hl 1 rfl) ?_
          obtain ⟨q3, h⟩ := gi_some h
          refine lM_1 S hK hP q3 dX6_layHolders_33 ?_
          exact B_34 _ ih _ _ _ u h _ _ _ hP hS (lv_sub hl [0, 1] rfl)
        · rw [if_pos c2] at h
          refine lv_iconst (v := (0 : Int32)) S.1 S.2.1 dX6_layHolders_24 (by decide) ?_
          refine lv_goto (tgt := 34) S.1 S.2.1 dX6_layHolders_25 (by decide) ?_
          exact B_34 _ ih _ _ _ u h _ _ _ hP hS (lv_sub hl [0, 1] rfl)
  have B_41 : ∀ (u : Wo), fX6_layHolders_41 u = some (rf, uf) → J p l e (rmk 0 0) s m args below meth c dC dI (WM ad cI) (AF ad 9) (MQ below (QV dC dI cI (WM ad cI) (AF ad 9) uf) args s 0 0 (AF ad 9)) u 41 2 [] [] := by
    intro u h H locs ls hP hS hl
    unfold fX6_layHolders_41 at h
    exact x_vret S hr hlk hK hP hS h dX6_layHolders_41
  intro H locs ls hP hS hl
  have hl : lv_has ls 2 [(0, .ref (ad 0))] := hl
  unfold fX6_layHolders at h
  refine lv_iconst (v := (0 : Int32)) S.1 S.2.1 dX6_layHolders_0 (by decide) ?_
  refine lv_istore_n (lv' := [(1, .int (0 : Int32)), (0, .ref (ad 0))]) S.1 S.2.1 dX6_layHolders_1 rfl hl (by decide) rfl (fun ls hl => ?_)
  exact B_2 _ B_41 FU _ u h _ _ _ hP hS (lv_sub hl [1, 0] rfl)
theorem hy_X6_clear : yX6_clear.cls ≠ "java/lang/invoke/MethodHandle" ∧ yX6_clear.cls ≠ "java/lang/invoke/VarHandle" ∧ (parseMethodDescriptor yX6_clear.desc).map (fun d => d.parameters.length) = some 0 := by decide +kernel
set_option maxHeartbeats 4000000 in
set_option maxRecDepth 100000 in
theorem k_X6_clear {l : Launch} {dC : Nat → ClassId} {dI : Nat → Nat → Nat} {ad : Nat → Nat} {cI : ClassId} (hap : AP ad 9) {u uf : Wo} {rf : Int32} (h : fX6_clear u = some (rf, uf)) : CV l dC dI cI (WM ad cI) (AF ad 9) yX6_clear cX6_clear 2 none 1 21 [.ref (ad 0)] u uf := by
  refine cv_begin (by decide) (Nat.le_of_ble_eq_true rfl) ?_
  intro p e s m args below meth c S hr hlk hK
  have B_2 : ∀ (k22 : Wo → Re) (hk22 : ∀ (u : Wo), k22  u = some (rf, uf) → J p l e (rmk 1 21) s m args below meth c dC dI (WM ad cI) (AF ad 9) (MQ below (QV dC dI cI (WM ad cI) (AF ad 9) uf) args s 0 0 (AF ad 9)) u 22 2 [(0, .ref (ad 0))] []) (n : Nat) (x1 : Int32) (u : Wo), fX6_clear_2 k22 n x1 u = some (rf, uf) → J p l e (rmk 1 21) s m args below meth c dC dI (WM ad cI) (AF ad 9) (MQ below (QV dC dI cI (WM ad cI) (AF ad 9) uf) args s 0 0 (AF ad 9)) u 2 2 [(0, .ref (ad 0)), (1, .int x1)] [] := by
    intro k22 hk22
    intro n
    induction n with
    | zero => intro x1 u h; cases h
    | succ n ih =>
      intro x1 u h H locs ls hP hS hl
      rw [fX6_clear_2.eq_2] at h
      refine lv_iload_n S.1 S.2.1 dX6_clear_2 rfl (lv_at hl 1 rfl) ?_
      refine lv_sipush (v := (1040 : Int32)) S.1 S.2.1 dX6_clear_3 (by decide) ?_
      refine lv_icmp_ge (tgt := 22) S.1 S.2.1 dX6_clear_6 (by decide) (fun c1 => ?_) (fun c1 => ?_)
      · rw [if_pos c1] at h
        exact hk22 u h _ _ _ hP hS (lv_sub hl [0] rfl)
      · rw [if_neg c1] at h
        refine lv_aload_n S.1 S.2.1 dX6_clear_9 rfl (lv_at hl 0 rfl) ?_
        refine gM_0_st S hK hP wf_X6_17 dX6_clear_10 ?_
        refine lv_iload_n S.1 S.2.1 dX6_clear_13 rfl (lv_at hl 1 rfl) ?_
        refine lv_iconst (v := (0 : Int32)) S.1 S.2.1 dX6_clear_14 (by decide) ?_
        obtain ⟨q2, h⟩ := gi_some h
        obtain ⟨u3, hu3, h⟩ := bw_some h
        refine tM_2 S hK hap hP hS q2 dX6_clear_15 hu3 (fun H locs hP hS => ?_)
        refine lv_iinc (v := (x1 + (1 : Int32))) (lv' := [(1, .int (x1 + (1 : Int32))), (0, .ref (ad 0))]) S.1 S.2.1 dX6_clear_16 hl (k := 1) rfl rfl (by decide) rfl (fun ls hl => ?_)
        refine lv_goto (tgt := 2) S.1 S.2.1 dX6_clear_19 (by decide) ?_
        exact ih _ u3 h _ _ _ hP hS (lv_sub hl [1, 0] rfl)
  have B_24 : ∀ (k44 : Wo → Re) (hk44 : ∀ (u : Wo), k44  u = some (rf, uf) → J p l e (rmk 1 21) s m args below meth c dC dI (WM ad cI) (AF ad 9) (MQ below (QV dC dI cI (WM ad cI) (AF ad 9) uf) args s 0 0 (AF ad 9)) u 44 2 [(0, .ref (ad 0))] []) (n : Nat) (x1 : Int32) (u : Wo), fX6_clear_24 k44 n x1 u = some (rf, uf) → J p l e (rmk 1 21) s m args below meth c dC dI (WM ad cI) (AF ad 9) (MQ below (QV dC dI cI (WM ad cI) (AF ad 9) uf) args s 0 0 (AF ad 9)) u 24 2 [(0, .ref (ad 0)), (1, .int x1)] [] := by
    intro k44 hk44
    intro n
    induction n with
    | zero => intro x1 u h; cases h
    | succ n ih =>
      intro x1 u h H locs ls hP hS hl
      rw [fX6_clear_24.eq_2] at h
      refine lv_iload_n S.1 S.2.1 dX6_clear_24 rfl (lv_at hl 1 rfl) ?_
      refine lv_sipush (v := (190 : Int32)) S.1 S.2.1 dX6_clear_25 (by decide) ?_
      refine lv_icmp_ge (tgt := 44) S.1 S.2.1 dX6_clear_28 (by decide) (fun c4 => ?_) (fun c4 => ?_)
      · rw [if_pos c4] at h
        exact hk44 u h _ _ _ hP hS (lv_sub hl [0] rfl)
      · rw [if_neg c4] at h
        refine lv_aload_n S.1 S.2.1 dX6_clear_31 rfl (lv_at hl 0 rfl) ?_
        refine gM_0_ex S hK hP wf_X6_20 dX6_clear_32 ?_
        refine lv_iload_n S.1 S.2.1 dX6_clear_35 rfl (lv_at hl 1 rfl) ?_
        refine lv_iconst (v := (0 : Int32)) S.1 S.2.1 dX6_clear_36 (by decide) ?_
        obtain ⟨q5, h⟩ := gi_some h
        obtain ⟨u6, hu6, h⟩ := bw_some h
        refine tM_3 S hK hap hP hS q5 dX6_clear_37 hu6 (fun H locs hP hS => ?_)
        refine lv_iinc (v := (x1 + (1 : Int32))) (lv' := [(1, .int (x1 + (1 : Int32))), (0, .ref (ad 0))]) S.1 S.2.1 dX6_clear_38 hl (k := 1) rfl rfl (by decide) rfl (fun ls hl => ?_)
        refine lv_goto (tgt := 24) S.1 S.2.1 dX6_clear_41 (by decide) ?_
        exact ih _ u6 h _ _ _ hP hS (lv_sub hl [1, 0] rfl)
  have B_71 : ∀ (k46 : Int32 → Wo → Re) (hk46 : ∀ (x1 : Int32) (u : Wo), k46 x1 u = some (rf, uf) → J p l e (rmk 1 21) s m args below meth c dC dI (WM ad cI) (AF ad 9) (MQ below (QV dC dI cI (WM ad cI) (AF ad 9) uf) args s 0 0 (AF ad 9)) u 46 2 [(0, .ref (ad 0)), (1, .int x1)] []) (x1 : Int32) (s1 : Int32) (s2 : Int32) (u : Wo), fX6_clear_71 k46 x1 s1 s2 u = some (rf, uf) → J p l e (rmk 1 21) s m args below meth c dC dI (WM ad cI) (AF ad 9) (MQ below (QV dC dI cI (WM ad cI) (AF ad 9) uf) args s 0 0 (AF ad 9)) u 71 2 [(0, .ref (ad 0)), (1, .int x1)] [.int s2, .int s1, .ref (ad 1)] := by
    intro k46 hk46 x1 s1 s2 u h H locs ls hP hS hl
    unfold fX6_clear_71 at h
    obtain ⟨q9, h⟩ := gi_some h
    obtain ⟨u10, hu10, h⟩ := bw_some h
    refine tM_1 S hK hap hP hS q9 dX6_clear_71 hu10 (fun H locs hP hS => ?_)
    refine lv_iinc (v := (x1 + (1 : Int32))) (lv' := [(1, .int (x1 + (1 : Int32))), (0, .ref (ad 0))]) S.1 S.2.1 dX6_clear_72 hl (k := 1) rfl rfl (by decide) rfl (fun ls hl => ?_)
    refine lv_goto (tgt := 46) S.1 S.2.1 dX6_clear_75 (by decide) ?_
    exact hk46 _ u10 h _ _ _ hP hS (lv_sub hl [1, 0] rfl)
  have B_46 : ∀ (k78 : Wo → Re) (hk78 : ∀ (u : Wo), k78  u = some (rf, uf) → J p l e (rmk 1 21) s m args below meth c dC dI (WM ad cI) (AF ad 9) (MQ below (QV dC dI cI (WM ad cI) (AF ad 9) uf) args s 0 0 (AF ad 9)) u 78 2 [(0, .ref (ad 0))] []) (n : Nat) (x1 : Int32) (u : Wo), fX6_clear_46 k78 n x1 u = some (rf, uf) → J p l e (rmk 1 21) s m args below meth c dC dI (WM ad cI) (AF ad 9) (MQ below (QV dC dI cI (WM ad cI) (AF ad 9) uf) args s 0 0 (AF ad 9)) u 46 2 [(0, .ref (ad 0)), (1, .int x1)] [] := by
    intro k78 hk78
    intro n
    induction n with
    | zero => intro x1 u h; cases h
    | succ n ih =>
      intro x1 u h H locs ls hP hS hl
      rw [fX6_clear_46.eq_2] at h
      refine lv_iload_n S.1 S.2.1 dX6_clear_46 rfl (lv_at hl 1 rfl) ?_
      refine lv_bipush (v := (6 : Int32)) S.1 S.2.1 dX6_clear_47 (by decide) ?_
      refine lv_icmp_ge (tgt := 78) S.1 S.2.1 dX6_clear_49 (by decide) (fun c7 => ?_) (fun c7 => ?_)
      · rw [if_pos c7] at h
        exact hk78 u h _ _ _ hP hS (lv_sub hl [0] rfl)
      · rw [if_neg c7] at h
        refine lv_aload_n S.1 S.2.1 dX6_clear_52 rfl (lv_at hl 0 rfl) ?_
        refine gM_0_parent S hK hP wf_X6_13 dX6_clear_53 ?_
        refine lv_iload_n S.1 S.2.1 dX6_clear_56 rfl (lv_at hl 1 rfl) ?_
        refine lv_iload_n S.1 S.2.1 dX6_clear_57 rfl (lv_at hl 1 rfl) ?_
        refine lv_if_ne (tgt := 66) S.1 S.2.1 dX6_clear_58 (by decide) (fun c8 => ?_) (fun c8 => ?_)
        · rw [if_neg c8] at h
          refine lv_iload_n S.1 S.2.1 dX6_clear_66 rfl (lv_at hl 1 rfl) ?_
          refine lv_iconst (v := (1 : Int32)) S.1 S.2.1 dX6_clear_67 (by decide) ?_
          refine lv_isub S.1 S.2.1 dX6_clear_68 ?_
          refine lv_iconst (v := (2 : Int32)) S.1 S.2.1 dX6_clear_69 (by decide) ?_
          refine lv_idiv S.1 S.2.1 dX6_clear_70 (by decide) ?_
          exact B_71 _ ih _ _ _ u h _ _ _ hP hS (lv_sub hl [0, 1] rfl)
        · rw [if_pos c8] at h
          refine lv_bipush (v := (-4 : Int32)) S.1 S.2.1 dX6_clear_61 (by decide) ?_
          refine lv_goto (tgt := 71) S.1 S.2.1 dX6_clear_63 (by decide) ?_
          exact B_71 _ ih _ _ _ u h _ _ _ hP hS (lv_sub hl [0, 1] rfl)
  have B_78 : ∀ (u : Wo), fX6_clear_78 u = some (rf, uf) → J p l e (rmk 1 21) s m args below meth c dC dI (WM ad cI) (AF ad 9) (MQ below (QV dC dI cI (WM ad cI) (AF ad 9) uf) args s 0 0 (AF ad 9)) u 78 2 [(0, .ref (ad 0))] [] := by
    intro u h H locs ls hP hS hl
    unfold fX6_clear_78 at h
    refine lv_aload_n S.1 S.2.1 dX6_clear_78 rfl (lv_at hl 0 rfl) ?_
    obtain ⟨r12, u13, q11, h⟩ := bd_some h
    refine x_vv (Wf := WM ad cI) (q0 := 0) (ci := 6) (As := []) (rest := []) S hK hP hS (k_X6_layHolders hap q11) rfl rfl wl_X6_51 wi_X6_layHolders ws_X6_layHolders wz_X6 wc_X6_layHolders hy_X6_layHolders ⟨Nat.le_of_ble_eq_true rfl, Nat.le_of_ble_eq_true rfl⟩ hl.1 rfl (Nat.le_of_ble_eq_true rfl) dX6_clear_79 (fun H locs hP hS => ?_)
    refine lv_aload_n S.1 S.2.1 dX6_clear_82 rfl (lv_at hl 0 rfl) ?_
    refine lv_iconst (v := (0 : Int32)) S.1 S.2.1 dX6_clear_83 (by decide) ?_
    obtain ⟨u14, hu14, h⟩ := bw_some h
    refine pM_0_kept S hK hap hP hS wf_X6_54 dX6_clear_84 hu14 (fun H locs hP hS => ?_)
    refine lv_aload_n S.1 S.2.1 dX6_clear_87 rfl (lv_at hl 0 rfl) ?_
    refine lv_iconst (v := (0 : Int32)) S.1 S.2.1 dX6_clear_88 (by decide) ?_
    obtain ⟨u15, hu15, h⟩ := bw_some h
    refine pM_0_acted S hK hap hP hS wf_X6_57 dX6_clear_89 (by decide) hu15 (fun H locs hP hS => ?_)
    refine lv_aload_n S.1 S.2.1 dX6_clear_92 rfl (lv_at hl 0 rfl) ?_
    refine lv_iconst (v := (0 : Int32)) S.1 S.2.1 dX6_clear_93 (by decide) ?_
    obtain ⟨u16, hu16, h⟩ := bw_some h
    refine pM_0_passes S hK hap hP hS wf_X6_60 dX6_clear_94 hu16 (fun H locs hP hS => ?_)
    exact x_vret S hr hlk hK hP hS h dX6_clear_97
  have B_44 : ∀ (u : Wo), fX6_clear_44 u = some (rf, uf) → J p l e (rmk 1 21) s m args below meth c dC dI (WM ad cI) (AF ad 9) (MQ below (QV dC dI cI (WM ad cI) (AF ad 9) uf) args s 0 0 (AF ad 9)) u 44 2 [(0, .ref (ad 0))] [] := by
    intro u h H locs ls hP hS hl
    unfold fX6_clear_44 at h
    refine lv_iconst (v := (0 : Int32)) S.1 S.2.1 dX6_clear_44 (by decide) ?_
    refine lv_istore_n (lv' := [(1, .int (0 : Int32)), (0, .ref (ad 0))]) S.1 S.2.1 dX6_clear_45 rfl hl (by decide) rfl (fun ls hl => ?_)
    exact B_46 _ B_78 FU _ u h _ _ _ hP hS (lv_sub hl [1, 0] rfl)
  have B_22 : ∀ (u : Wo), fX6_clear_22 u = some (rf, uf) → J p l e (rmk 1 21) s m args below meth c dC dI (WM ad cI) (AF ad 9) (MQ below (QV dC dI cI (WM ad cI) (AF ad 9) uf) args s 0 0 (AF ad 9)) u 22 2 [(0, .ref (ad 0))] [] := by
    intro u h H locs ls hP hS hl
    unfold fX6_clear_22 at h
    refine lv_iconst (v := (0 : Int32)) S.1 S.2.1 dX6_clear_22 (by decide) ?_
    refine lv_istore_n (lv' := [(1, .int (0 : Int32)), (0, .ref (ad 0))]) S.1 S.2.1 dX6_clear_23 rfl hl (by decide) rfl (fun ls hl => ?_)
    exact B_24 _ B_44 FU _ u h _ _ _ hP hS (lv_sub hl [1, 0] rfl)
  intro H locs ls hP hS hl
  have hl : lv_has ls 2 [(0, .ref (ad 0))] := hl
  unfold fX6_clear at h
  refine lv_iconst (v := (0 : Int32)) S.1 S.2.1 dX6_clear_0 (by decide) ?_
  refine lv_istore_n (lv' := [(1, .int (0 : Int32)), (0, .ref (ad 0))]) S.1 S.2.1 dX6_clear_1 rfl hl (by decide) rfl (fun ls hl => ?_)
  exact B_2 _ B_22 FU _ u h _ _ _ hP hS (lv_sub hl [1, 0] rfl)
theorem hy_X6_in : yX6_in.cls ≠ "java/lang/invoke/MethodHandle" ∧ yX6_in.cls ≠ "java/lang/invoke/VarHandle" ∧ (parseMethodDescriptor yX6_in.desc).map (fun d => d.parameters.length) = some 3 := by decide +kernel
set_option maxHeartbeats 4000000 in
set_option maxRecDepth 100000 in
theorem k_X6_in {l : Launch} {dC : Nat → ClassId} {dI : Nat → Nat → Nat} {ad : Nat → Nat} {cI : ClassId} (hap : AP ad 9) {x0 x1 x2 : Int32} {u uf : Wo} {rf : Int32} (h : fX6_in x0 x1 x2 u = some (rf, uf)) : CI l dC dI cI (WM ad cI) (AF ad 9) yX6_in cX6_in 3 (some .boolean) 0 0 [.int x0, .int x1, .int x2] u rf uf := by
  refine ci_begin (by decide) (Nat.le_of_ble_eq_true rfl) ?_
  intro p e s m args below meth c S hr hlk hK
  have B_15 : ∀ (s0 : Int32) (u : Wo), fX6_in_15 s0 u = some (rf, uf) → J p l e (rmk 0 0) s m args below meth c dC dI (WM ad cI) (AF ad 9) (MQ below (QI dC dI cI (WM ad cI) (AF ad 9) rf uf) args s 0 0 (AF ad 9)) u 15 3 [] [.int s0] := by
    intro s0 u h H locs ls hP hS hl
    unfold fX6_in_15 at h
    obtain ⟨q2, h⟩ := gi_some h
    exact x_zret S hr hlk hK hP hS q2 h dX6_in_15
  have B_14 : ∀ (u : Wo), fX6_in_14 u = some (rf, uf) → J p l e (rmk 0 0) s m args below meth c dC dI (WM ad cI) (AF ad 9) (MQ below (QI dC dI cI (WM ad cI) (AF ad 9) rf uf) args s 0 0 (AF ad 9)) u 14 3 [] [] := by
    intro u h H locs ls hP hS hl
    unfold fX6_in_14 at h
    refine lv_iconst (v := (0 : Int32)) S.1 S.2.1 dX6_in_14 (by decide) ?_
    exact B_15 _ u h _ _ _ hP hS (lv_sub hl [] rfl)
  intro H locs ls hP hS hl
  have hl : lv_has ls 3 [(0, .int x0), (1, .int x1), (2, .int x2)] := hl
  unfold fX6_in at h
  refine lv_iload_n S.1 S.2.1 dX6_in_0 rfl (lv_at hl 0 rfl) ?_
  refine lv_iload_n S.1 S.2.1 dX6_in_1 rfl (lv_at hl 1 rfl) ?_
  refine lv_icmp_lt (tgt := 14) S.1 S.2.1 dX6_in_2 (by decide) (fun c1 => ?_) (fun c1 => ?_)
  · rw [if_pos c1] at h
    exact B_14 u h _ _ _ hP hS (lv_sub hl [] rfl)
  · rw [if_neg c1] at h
    refine lv_iload_n S.1 S.2.1 dX6_in_5 rfl (lv_at hl 0 rfl) ?_
    refine lv_iload_n S.1 S.2.1 dX6_in_6 rfl (lv_at hl 2 rfl) ?_
    refine lv_icmp_gt (tgt := 14) S.1 S.2.1 dX6_in_7 (by decide) (fun c3 => ?_) (fun c3 => ?_)
    · rw [if_pos c3] at h
      exact B_14 u h _ _ _ hP hS (lv_sub hl [] rfl)
    · rw [if_neg c3] at h
      refine lv_iconst (v := (1 : Int32)) S.1 S.2.1 dX6_in_10 (by decide) ?_
      refine lv_goto (tgt := 15) S.1 S.2.1 dX6_in_11 (by decide) ?_
      exact B_15 _ u h _ _ _ hP hS (lv_sub hl [] rfl)
theorem hy_X6_begin : yX6_begin.cls ≠ "java/lang/invoke/MethodHandle" ∧ yX6_begin.cls ≠ "java/lang/invoke/VarHandle" ∧ (parseMethodDescriptor yX6_begin.desc).map (fun d => d.parameters.length) = some 2 := by decide +kernel
set_option maxHeartbeats 4000000 in
set_option maxRecDepth 100000 in
theorem k_X6_begin {l : Launch} {dC : Nat → ClassId} {dI : Nat → Nat → Nat} {ad : Nat → Nat} {cI : ClassId} (hap : AP ad 9) {x1 x2 : Int32} {u uf : Wo} {rf : Int32} (h : fX6_begin x1 x2 u = some (rf, uf)) : CI l dC dI cI (WM ad cI) (AF ad 9) yX6_begin cX6_begin 3 (some .int) 2 42 [.ref (ad 0), .int x1, .int x2] u rf uf := by
  refine ci_begin (by decide) (Nat.le_of_ble_eq_true rfl) ?_
  intro p e s m args below meth c S hr hlk hK
  have B_19 : ∀ (u : Wo), fX6_begin_19 u = some (rf, uf) → J p l e (rmk 2 42) s m args below meth c dC dI (WM ad cI) (AF ad 9) (MQ below (QI dC dI cI (WM ad cI) (AF ad 9) rf uf) args s 0 0 (AF ad 9)) u 19 3 [] [] := by
    intro u h H locs ls hP hS hl
    unfold fX6_begin_19 at h
    refine lv_iconst (v := (-1 : Int32)) S.1 S.2.1 dX6_begin_19 (by decide) ?_
    exact x_iret S hr hlk hK hP hS h dX6_begin_20
  intro H locs ls hP hS hl
  have hl : lv_has ls 3 [(0, .ref (ad 0)), (1, .int x1), (2, .int x2)] := hl
  unfold fX6_begin at h
  refine lv_iload_n S.1 S.2.1 dX6_begin_0 rfl (lv_at hl 1 rfl) ?_
  refine lv_iconst (v := (0 : Int32)) S.1 S.2.1 dX6_begin_1 (by decide) ?_
  refine lv_iconst (v := (2 : Int32)) S.1 S.2.1 dX6_begin_2 (by decide) ?_
  obtain ⟨r2, u3, q1, h⟩ := bd_some h
  refine x_si (Wf := WM ad cI) (As := [.int x1, .int (0 : Int32), .int (2 : Int32)]) (rest := []) S hK hP hS (k_X6_in hap q1) wl_X6_47 wt_X6_in wz_X6 wc_X6_in hy_X6_in ⟨Nat.le_of_ble_eq_true rfl, Nat.le_of_ble_eq_true rfl⟩ hl.1 rfl (Nat.le_of_ble_eq_true rfl) dX6_begin_3 (fun H locs hP hS => ?_)
  refine lv_if_eq (tgt := 19) S.1 S.2.1 dX6_begin_6 (by decide) (fun c4 => ?_) (fun c4 => ?_)
  · rw [if_pos c4] at h
    exact B_19 u3 h _ _ _ hP hS (lv_sub hl [] rfl)
  · rw [if_neg c4] at h
    refine lv_iload_n S.1 S.2.1 dX6_begin_9 rfl (lv_at hl 2 rfl) ?_
    refine lv_iconst (v := (2 : Int32)) S.1 S.2.1 dX6_begin_10 (by decide) ?_
    refine lv_bipush (v := (6 : Int32)) S.1 S.2.1 dX6_begin_11 (by decide) ?_
    obtain ⟨r6, u7, q5, h⟩ := bd_some h
    refine x_si (Wf := WM ad cI) (As := [.int x2, .int (2 : Int32), .int (6 : Int32)]) (rest := []) S hK hP hS (k_X6_in hap q5) wl_X6_47 wt_X6_in wz_X6 wc_X6_in hy_X6_in ⟨Nat.le_of_ble_eq_true rfl, Nat.le_of_ble_eq_true rfl⟩ hl.1 rfl (Nat.le_of_ble_eq_true rfl) dX6_begin_13 (fun H locs hP hS => ?_)
    refine lv_if_ne (tgt := 21) S.1 S.2.1 dX6_begin_16 (by decide) (fun c8 => ?_) (fun c8 => ?_)
    · rw [if_neg c8] at h
      refine lv_aload_n S.1 S.2.1 dX6_begin_21 rfl (lv_at hl 0 rfl) ?_
      refine gM_0_begins S hK hP wf_X6_63 dX6_begin_22 ?_
      refine lv_bipush (v := (10 : Int32)) S.1 S.2.1 dX6_begin_25 (by decide) ?_
      refine lv_icmp_ne (tgt := 33) S.1 S.2.1 dX6_begin_27 (by decide) (fun c9 => ?_) (fun c9 => ?_)
      · rw [if_neg c9] at h
        refine lv_aload_n S.1 S.2.1 dX6_begin_33 rfl (lv_at hl 0 rfl) ?_
        refine lv_dup S.1 S.2.1 dX6_begin_34 rfl ?_
        refine gM_0_begins S hK hP wf_X6_63 dX6_begin_35 ?_
        refine lv_iconst (v := (1 : Int32)) S.1 S.2.1 dX6_begin_38 (by decide) ?_
        refine lv_iadd S.1 S.2.1 dX6_begin_39 ?_
        obtain ⟨u10, hu10, h⟩ := bw_some h
        refine pM_0_begins S hK hap hP hS wf_X6_63 dX6_begin_40 hu10 (fun H locs hP hS => ?_)
        refine lv_aload_n S.1 S.2.1 dX6_begin_43 rfl (lv_at hl 0 rfl) ?_
        refine lv_iload_n S.1 S.2.1 dX6_begin_44 rfl (lv_at hl 1 rfl) ?_
        obtain ⟨u11, hu11, h⟩ := bw_some h
        refine pM_0_way S hK hap hP hS wf_X6_66 dX6_begin_45 hu11 (fun H locs hP hS => ?_)
        refine lv_aload_n S.1 S.2.1 dX6_begin_48 rfl (lv_at hl 0 rfl) ?_
        refine lv_iload_n S.1 S.2.1 dX6_begin_49 rfl (lv_at hl 2 rfl) ?_
        obtain ⟨u12, hu12, h⟩ := bw_some h
        refine pM_0_n S hK hap hP hS wf_X6_7 dX6_begin_50 hu12 (fun H locs hP hS => ?_)
        refine lv_aload_n S.1 S.2.1 dX6_begin_53 rfl (lv_at hl 0 rfl) ?_
        obtain ⟨r14, u15, q13, h⟩ := bd_some h
        refine x_vv (Wf := WM ad cI) (q0 := 0) (ci := 6) (As := []) (rest := []) S hK hP hS (k_X6_clear hap q13) rfl rfl wl_X6_44 wi_X6_clear ws_X6_clear wz_X6 wc_X6_clear hy_X6_clear ⟨Nat.le_of_ble_eq_true rfl, Nat.le_of_ble_eq_true rfl⟩ hl.1 rfl (Nat.le_of_ble_eq_true rfl) dX6_begin_54 (fun H locs hP hS => ?_)
        refine lv_aload_n S.1 S.2.1 dX6_begin_57 rfl (lv_at hl 0 rfl) ?_
        refine gM_0_n S hK hP wf_X6_7 dX6_begin_58 ?_
        exact x_iret S hr hlk hK hP hS h dX6_begin_61
      · rw [if_pos c9] at h
        refine lv_bipush (v := (-3 : Int32)) S.1 S.2.1 dX6_begin_30 (by decide) ?_
        exact x_iret S hr hlk hK hP hS h dX6_begin_32
    · rw [if_pos c8] at h
      exact B_19 u7 h _ _ _ hP hS (lv_sub hl [] rfl)
theorem hy_X6_parent : yX6_parent.cls ≠ "java/lang/invoke/MethodHandle" ∧ yX6_parent.cls ≠ "java/lang/invoke/VarHandle" ∧ (parseMethodDescriptor yX6_parent.desc).map (fun d => d.parameters.length) = some 2 := by decide +kernel
set_option maxHeartbeats 4000000 in
set_option maxRecDepth 100000 in
theorem k_X6_parent {l : Launch} {dC : Nat → ClassId} {dI : Nat → Nat → Nat} {ad : Nat → Nat} {cI : ClassId} (hap : AP ad 9) {x1 x2 : Int32} {u uf : Wo} {rf : Int32} (h : fX6_parent x1 x2 u = some (rf, uf)) : CI l dC dI cI (WM ad cI) (AF ad 9) yX6_parent cX6_parent 4 (some .int) 1 22 [.ref (ad 0), .int x1, .int x2] u rf uf := by
  refine ci_begin (by decide) (Nat.le_of_ble_eq_true rfl) ?_
  intro p e s m args below meth c S hr hlk hK
  have B_25 : ∀ (u : Wo), fX6_parent_25 u = some (rf, uf) → J p l e (rmk 1 22) s m args below meth c dC dI (WM ad cI) (AF ad 9) (MQ below (QI dC dI cI (WM ad cI) (AF ad 9) rf uf) args s 0 0 (AF ad 9)) u 25 4 [] [] := by
    intro u h H locs ls hP hS hl
    unfold fX6_parent_25 at h
    refine lv_iconst (v := (-1 : Int32)) S.1 S.2.1 dX6_parent_25 (by decide) ?_
    exact x_iret S hr hlk hK hP hS h dX6_parent_26
  have B_42 : ∀ (u : Wo), fX6_parent_42 u = some (rf, uf) → J p l e (rmk 1 22) s m args below meth c dC dI (WM ad cI) (AF ad 9) (MQ below (QI dC dI cI (WM ad cI) (AF ad 9) rf uf) args s 0 0 (AF ad 9)) u 42 4 [] [] := by
    intro u h H locs ls hP hS hl
    unfold fX6_parent_42 at h
    refine lv_bipush (v := (-2 : Int32)) S.1 S.2.1 dX6_parent_42 (by decide) ?_
    exact x_iret S hr hlk hK hP hS h dX6_parent_44
  intro H locs ls hP hS hl
  have hl : lv_has ls 4 [(0, .ref (ad 0)), (1, .int x1), (2, .int x2)] := hl
  unfold fX6_parent at h
  refine lv_iload_n S.1 S.2.1 dX6_parent_0 rfl (lv_at hl 1 rfl) ?_
  refine lv_iconst (v := (1 : Int32)) S.1 S.2.1 dX6_parent_1 (by decide) ?_
  refine lv_aload_n S.1 S.2.1 dX6_parent_2 rfl (lv_at hl 0 rfl) ?_
  refine gM_0_n S hK hP wf_X6_7 dX6_parent_3 ?_
  refine lv_iconst (v := (1 : Int32)) S.1 S.2.1 dX6_parent_6 (by decide) ?_
  refine lv_isub S.1 S.2.1 dX6_parent_7 ?_
  obtain ⟨r2, u3, q1, h⟩ := bd_some h
  refine x_si (Wf := WM ad cI) (As := [.int x1, .int (1 : Int32), .int ((u 0 1) - (1 : Int32))]) (rest := []) S hK hP hS (k_X6_in hap q1) wl_X6_47 wt_X6_in wz_X6 wc_X6_in hy_X6_in ⟨Nat.le_of_ble_eq_true rfl, Nat.le_of_ble_eq_true rfl⟩ hl.1 rfl (Nat.le_of_ble_eq_true rfl) dX6_parent_8 (fun H locs hP hS => ?_)
  refine lv_if_eq (tgt := 25) S.1 S.2.1 dX6_parent_11 (by decide) (fun c4 => ?_) (fun c4 => ?_)
  · rw [if_pos c4] at h
    exact B_25 u3 h _ _ _ hP hS (lv_sub hl [] rfl)
  · rw [if_neg c4] at h
    refine lv_iload_n S.1 S.2.1 dX6_parent_14 rfl (lv_at hl 2 rfl) ?_
    refine lv_iconst (v := (0 : Int32)) S.1 S.2.1 dX6_parent_15 (by decide) ?_
    refine lv_iload_n S.1 S.2.1 dX6_parent_16 rfl (lv_at hl 1 rfl) ?_
    refine lv_iconst (v := (1 : Int32)) S.1 S.2.1 dX6_parent_17 (by decide) ?_
    refine lv_isub S.1 S.2.1 dX6_parent_18 ?_
    obtain ⟨r6, u7, q5, h⟩ := bd_some h
    refine x_si (Wf := WM ad cI) (As := [.int x2, .int (0 : Int32), .int (x1 - (1 : Int32))]) (rest := []) S hK hP hS (k_X6_in hap q5) wl_X6_47 wt_X6_in wz_X6 wc_X6_in hy_X6_in ⟨Nat.le_of_ble_eq_true rfl, Nat.le_of_ble_eq_true rfl⟩ hl.1 rfl (Nat.le_of_ble_eq_true rfl) dX6_parent_19 (fun H locs hP hS => ?_)
    refine lv_if_ne (tgt := 27) S.1 S.2.1 dX6_parent_22 (by decide) (fun c8 => ?_) (fun c8 => ?_)
    · rw [if_neg c8] at h
      refine lv_aload_n S.1 S.2.1 dX6_parent_27 rfl (lv_at hl 0 rfl) ?_
      refine gM_0_way S hK hP wf_X6_66 dX6_parent_28 ?_
      refine lv_iconst (v := (2 : Int32)) S.1 S.2.1 dX6_parent_31 (by decide) ?_
      refine lv_icmp_ne (tgt := 42) S.1 S.2.1 dX6_parent_32 (by decide) (fun c9 => ?_) (fun c9 => ?_)
      · rw [if_neg c9] at h
        exact B_42 u7 h _ _ _ hP hS (lv_sub hl [] rfl)
      · rw [if_pos c9] at h
        refine lv_aload_n S.1 S.2.1 dX6_parent_35 rfl (lv_at hl 0 rfl) ?_
        refine gM_0_acted S hK hP wf_X6_57 dX6_parent_36 ?_
        refine lv_if_eq (tgt := 45) S.1 S.2.1 dX6_parent_39 (by decide) (fun c10 => ?_) (fun c10 => ?_)
        · rw [if_pos c10] at h
          refine lv_aload_n S.1 S.2.1 dX6_parent_45 rfl (lv_at hl 0 rfl) ?_
          refine gM_0_parent S hK hP wf_X6_13 dX6_parent_46 ?_
          refine lv_iload_n S.1 S.2.1 dX6_parent_49 rfl (lv_at hl 1 rfl) ?_
          obtain ⟨q11, h⟩ := gi_some h
          refine lM_1 S hK hP q11 dX6_parent_50 ?_
          refine lv_istore_n (lv' := [(3, .int (u7 1 (x1).toNatClampNeg)), (0, .ref (ad 0)), (1, .int x1), (2, .int x2)]) S.1 S.2.1 dX6_parent_51 rfl hl (by decide) rfl (fun ls hl => ?_)
          refine lv_aload_n S.1 S.2.1 dX6_parent_52 rfl (lv_at hl 1 rfl) ?_
          refine gM_0_parent S hK hP wf_X6_13 dX6_parent_53 ?_
          refine lv_iload_n S.1 S.2.1 dX6_parent_56 rfl (lv_at hl 2 rfl) ?_
          refine lv_iload_n S.1 S.2.1 dX6_parent_57 rfl (lv_at hl 3 rfl) ?_
          obtain ⟨q12, h⟩ := gi_some h
          obtain ⟨u13, hu13, h⟩ := bw_some h
          refine tM_1 S hK hap hP hS q12 dX6_parent_58 hu13 (fun H locs hP hS => ?_)
          refine lv_aload_n S.1 S.2.1 dX6_parent_59 rfl (lv_at hl 1 rfl) ?_
          obtain ⟨r15, u16, q14, h⟩ := bd_some h
          refine x_vv (Wf := WM ad cI) (q0 := 0) (ci := 6) (As := []) (rest := []) S hK hP hS (k_X6_layHolders hap q14) rfl rfl wl_X6_51 wi_X6_layHolders ws_X6_layHolders wz_X6 wc_X6_layHolders hy_X6_layHolders ⟨Nat.le_of_ble_eq_true rfl, Nat.le_of_ble_eq_true rfl⟩ hl.1 rfl (Nat.le_of_ble_eq_true rfl) dX6_parent_60 (fun H locs hP hS => ?_)
          refine lv_iload_n S.1 S.2.1 dX6_parent_63 rfl (lv_at hl 0 rfl) ?_
          exact x_iret S hr hlk hK hP hS h dX6_parent_64
        · rw [if_neg c10] at h
          exact B_42 u7 h _ _ _ hP hS (lv_sub hl [] rfl)
    · rw [if_pos c8] at h
      exact B_25 u7 h _ _ _ hP hS (lv_sub hl [] rfl)
theorem hy_X6_isKeeper : yX6_isKeeper.cls ≠ "java/lang/invoke/MethodHandle" ∧ yX6_isKeeper.cls ≠ "java/lang/invoke/VarHandle" ∧ (parseMethodDescriptor yX6_isKeeper.desc).map (fun d => d.parameters.length) = some 1 := by decide +kernel
set_option maxHeartbeats 4000000 in
set_option maxRecDepth 100000 in
theorem k_X6_isKeeper {l : Launch} {dC : Nat → ClassId} {dI : Nat → Nat → Nat} {ad : Nat → Nat} {cI : ClassId} (hap : AP ad 9) {x1 : Int32} {u uf : Wo} {rf : Int32} (h : fX6_isKeeper x1 u = some (rf, uf)) : CI l dC dI cI (WM ad cI) (AF ad 9) yX6_isKeeper cX6_isKeeper 2 (some .boolean) 1 22 [.ref (ad 0), .int x1] u rf uf := by
  refine ci_begin (by decide) (Nat.le_of_ble_eq_true rfl) ?_
  intro p e s m args below meth c S hr hlk hK
  intro H locs ls hP hS hl
  have hl : lv_has ls 2 [(0, .ref (ad 0)), (1, .int x1)] := hl
  unfold fX6_isKeeper at h
  refine lv_iload_n S.1 S.2.1 dX6_isKeeper_0 rfl (lv_at hl 1 rfl) ?_
  refine lv_iconst (v := (0 : Int32)) S.1 S.2.1 dX6_isKeeper_1 (by decide) ?_
  refine lv_aload_n S.1 S.2.1 dX6_isKeeper_2 rfl (lv_at hl 0 rfl) ?_
  refine gM_0_n S hK hP wf_X6_7 dX6_isKeeper_3 ?_
  refine lv_iconst (v := (1 : Int32)) S.1 S.2.1 dX6_isKeeper_6 (by decide) ?_
  refine lv_isub S.1 S.2.1 dX6_isKeeper_7 ?_
  obtain ⟨r2, u3, q1, h⟩ := bd_some h
  refine x_si (Wf := WM ad cI) (As := [.int x1, .int (0 : Int32), .int ((u 0 1) - (1 : Int32))]) (rest := []) S hK hP hS (k_X6_in hap q1) wl_X6_47 wt_X6_in wz_X6 wc_X6_in hy_X6_in ⟨Nat.le_of_ble_eq_true rfl, Nat.le_of_ble_eq_true rfl⟩ hl.1 rfl (Nat.le_of_ble_eq_true rfl) dX6_isKeeper_8 (fun H locs hP hS => ?_)
  obtain ⟨q4, h⟩ := gi_some h
  exact x_zret S hr hlk hK hP hS q4 h dX6_isKeeper_11
theorem hy_X6_store : yX6_store.cls ≠ "java/lang/invoke/MethodHandle" ∧ yX6_store.cls ≠ "java/lang/invoke/VarHandle" ∧ (parseMethodDescriptor yX6_store.desc).map (fun d => d.parameters.length) = some 0 := by decide +kernel
set_option maxHeartbeats 4000000 in
set_option maxRecDepth 100000 in
theorem k_X6_store {l : Launch} {dC : Nat → ClassId} {dI : Nat → Nat → Nat} {ad : Nat → Nat} {cI : ClassId} (hap : AP ad 9) {u uf : Wo} {rf : Int32} (h : fX6_store u = some (rf, uf)) : CV l dC dI cI (WM ad cI) (AF ad 9) yX6_store cX6_store 2 none 0 0 [.ref (ad 0)] u uf := by
  refine cv_begin (by decide) (Nat.le_of_ble_eq_true rfl) ?_
  intro p e s m args below meth c S hr hlk hK
  have B_2 : ∀ (k27 : Wo → Re) (hk27 : ∀ (u : Wo), k27  u = some (rf, uf) → J p l e (rmk 0 0) s m args below meth c dC dI (WM ad cI) (AF ad 9) (MQ below (QV dC dI cI (WM ad cI) (AF ad 9) uf) args s 0 0 (AF ad 9)) u 27 2 [(0, .ref (ad 0))] []) (n : Nat) (x1 : Int32) (u : Wo), fX6_store_2 k27 n x1 u = some (rf, uf) → J p l e (rmk 0 0) s m args below meth c dC dI (WM ad cI) (AF ad 9) (MQ below (QV dC dI cI (WM ad cI) (AF ad 9) uf) args s 0 0 (AF ad 9)) u 2 2 [(0, .ref (ad 0)), (1, .int x1)] [] := by
    intro k27 hk27
    intro n
    induction n with
    | zero => intro x1 u h; cases h
    | succ n ih =>
      intro x1 u h H locs ls hP hS hl
      rw [fX6_store_2.eq_2] at h
      refine lv_iload_n S.1 S.2.1 dX6_store_2 rfl (lv_at hl 1 rfl) ?_
      refine lv_sipush (v := (1040 : Int32)) S.1 S.2.1 dX6_store_3 (by decide) ?_
      refine lv_icmp_ge (tgt := 27) S.1 S.2.1 dX6_store_6 (by decide) (fun c1 => ?_) (fun c1 => ?_)
      · rw [if_pos c1] at h
        exact hk27 u h _ _ _ hP hS (lv_sub hl [0] rfl)
      · rw [if_neg c1] at h
        refine lv_aload_n S.1 S.2.1 dX6_store_9 rfl (lv_at hl 0 rfl) ?_
        refine gM_0_back S hK hP wf_X6_31 dX6_store_10 ?_
        refine lv_iload_n S.1 S.2.1 dX6_store_13 rfl (lv_at hl 1 rfl) ?_
        refine lv_aload_n S.1 S.2.1 dX6_store_14 rfl (lv_at hl 0 rfl) ?_
        refine gM_0_st S hK hP wf_X6_17 dX6_store_15 ?_
        refine lv_iload_n S.1 S.2.1 dX6_store_18 rfl (lv_at hl 1 rfl) ?_
        obtain ⟨q2, h⟩ := gi_some h
        refine lM_2 S hK hP q2 dX6_store_19 ?_
        obtain ⟨q3, h⟩ := gi_some h
        obtain ⟨u4, hu4, h⟩ := bw_some h
        refine tM_5 S hK hap hP hS q3 dX6_store_20 hu4 (fun H locs hP hS => ?_)
        refine lv_iinc (v := (x1 + (1 : Int32))) (lv' := [(1, .int (x1 + (1 : Int32))), (0, .ref (ad 0))]) S.1 S.2.1 dX6_store_21 hl (k := 1) rfl rfl (by decide) rfl (fun ls hl => ?_)
        refine lv_goto (tgt := 2) S.1 S.2.1 dX6_store_24 (by decide) ?_
        exact ih _ u4 h _ _ _ hP hS (lv_sub hl [1, 0] rfl)
  have B_29 : ∀ (k58 : Wo → Re) (hk58 : ∀ (u : Wo), k58  u = some (rf, uf) → J p l e (rmk 0 0) s m args below meth c dC dI (WM ad cI) (AF ad 9) (MQ below (QV dC dI cI (WM ad cI) (AF ad 9) uf) args s 0 0 (AF ad 9)) u 58 2 [(0, .ref (ad 0))] []) (n : Nat) (x1 : Int32) (u : Wo), fX6_store_29 k58 n x1 u = some (rf, uf) → J p l e (rmk 0 0) s m args below meth c dC dI (WM ad cI) (AF ad 9) (MQ below (QV dC dI cI (WM ad cI) (AF ad 9) uf) args s 0 0 (AF ad 9)) u 29 2 [(0, .ref (ad 0)), (1, .int x1)] [] := by
    intro k58 hk58
    intro n
    induction n with
    | zero => intro x1 u h; cases h
    | succ n ih =>
      intro x1 u h H locs ls hP hS hl
      rw [fX6_store_29.eq_2] at h
      refine lv_iload_n S.1 S.2.1 dX6_store_29 rfl (lv_at hl 1 rfl) ?_
      refine lv_sipush (v := (190 : Int32)) S.1 S.2.1 dX6_store_30 (by decide) ?_
      refine lv_icmp_ge (tgt := 58) S.1 S.2.1 dX6_store_33 (by decide) (fun c5 => ?_) (fun c5 => ?_)
      · rw [if_pos c5] at h
        exact hk58 u h _ _ _ hP hS (lv_sub hl [0] rfl)
      · rw [if_neg c5] at h
        refine lv_aload_n S.1 S.2.1 dX6_store_36 rfl (lv_at hl 0 rfl) ?_
        refine gM_0_back S hK hP wf_X6_31 dX6_store_37 ?_
        refine lv_sipush (v := (1040 : Int32)) S.1 S.2.1 dX6_store_40 (by decide) ?_
        refine lv_iload_n S.1 S.2.1 dX6_store_43 rfl (lv_at hl 1 rfl) ?_
        refine lv_iadd S.1 S.2.1 dX6_store_44 ?_
        refine lv_aload_n S.1 S.2.1 dX6_store_45 rfl (lv_at hl 0 rfl) ?_
        refine gM_0_ex S hK hP wf_X6_20 dX6_store_46 ?_
        refine lv_iload_n S.1 S.2.1 dX6_store_49 rfl (lv_at hl 1 rfl) ?_
        obtain ⟨q6, h⟩ := gi_some h
        refine lM_3 S hK hP q6 dX6_store_50 ?_
        obtain ⟨q7, h⟩ := gi_some h
        obtain ⟨u8, hu8, h⟩ := bw_some h
        refine tM_5 S hK hap hP hS q7 dX6_store_51 hu8 (fun H locs hP hS => ?_)
        refine lv_iinc (v := (x1 + (1 : Int32))) (lv' := [(1, .int (x1 + (1 : Int32))), (0, .ref (ad 0))]) S.1 S.2.1 dX6_store_52 hl (k := 1) rfl rfl (by decide) rfl (fun ls hl => ?_)
        refine lv_goto (tgt := 29) S.1 S.2.1 dX6_store_55 (by decide) ?_
        exact ih _ u8 h _ _ _ hP hS (lv_sub hl [1, 0] rfl)
  have B_58 : ∀ (u : Wo), fX6_store_58 u = some (rf, uf) → J p l e (rmk 0 0) s m args below meth c dC dI (WM ad cI) (AF ad 9) (MQ below (QV dC dI cI (WM ad cI) (AF ad 9) uf) args s 0 0 (AF ad 9)) u 58 2 [(0, .ref (ad 0))] [] := by
    intro u h H locs ls hP hS hl
    unfold fX6_store_58 at h
    refine lv_aload_n S.1 S.2.1 dX6_store_58 rfl (lv_at hl 0 rfl) ?_
    refine lv_iconst (v := (0 : Int32)) S.1 S.2.1 dX6_store_59 (by decide) ?_
    obtain ⟨u9, hu9, h⟩ := bw_some h
    refine pM_0_isOver S hK hap hP hS wf_X6_73 dX6_store_60 (by decide) hu9 (fun H locs hP hS => ?_)
    exact x_vret S hr hlk hK hP hS h dX6_store_63
  have B_27 : ∀ (u : Wo), fX6_store_27 u = some (rf, uf) → J p l e (rmk 0 0) s m args below meth c dC dI (WM ad cI) (AF ad 9) (MQ below (QV dC dI cI (WM ad cI) (AF ad 9) uf) args s 0 0 (AF ad 9)) u 27 2 [(0, .ref (ad 0))] [] := by
    intro u h H locs ls hP hS hl
    unfold fX6_store_27 at h
    refine lv_iconst (v := (0 : Int32)) S.1 S.2.1 dX6_store_27 (by decide) ?_
    refine lv_istore_n (lv' := [(1, .int (0 : Int32)), (0, .ref (ad 0))]) S.1 S.2.1 dX6_store_28 rfl hl (by decide) rfl (fun ls hl => ?_)
    exact B_29 _ B_58 FU _ u h _ _ _ hP hS (lv_sub hl [1, 0] rfl)
  intro H locs ls hP hS hl
  have hl : lv_has ls 2 [(0, .ref (ad 0))] := hl
  unfold fX6_store at h
  refine lv_iconst (v := (0 : Int32)) S.1 S.2.1 dX6_store_0 (by decide) ?_
  refine lv_istore_n (lv' := [(1, .int (0 : Int32)), (0, .ref (ad 0))]) S.1 S.2.1 dX6_store_1 rfl hl (by decide) rfl (fun ls hl => ?_)
  exact B_2 _ B_27 FU _ u h _ _ _ hP hS (lv_sub hl [1, 0] rfl)
theorem hy_X6_queue : yX6_queue.cls ≠ "java/lang/invoke/MethodHandle" ∧ yX6_queue.cls ≠ "java/lang/invoke/VarHandle" ∧ (parseMethodDescriptor yX6_queue.desc).map (fun d => d.parameters.length) = some 2 := by decide +kernel
set_option maxHeartbeats 4000000 in
set_option maxRecDepth 100000 in
theorem k_X6_queue {l : Launch} {dC : Nat → ClassId} {dI : Nat → Nat → Nat} {ad : Nat → Nat} {cI : ClassId} (hap : AP ad 9) {x1 x2 : Int32} {u uf : Wo} {rf : Int32} (h : fX6_queue x1 x2 u = some (rf, uf)) : CV l dC dI cI (WM ad cI) (AF ad 9) yX6_queue cX6_queue 4 none 0 0 [.ref (ad 0), .int x1, .int x2] u uf := by
  refine cv_begin (by decide) (Nat.le_of_ble_eq_true rfl) ?_
  intro p e s m args below meth c S hr hlk hK
  intro H locs ls hP hS hl
  have hl : lv_has ls 4 [(0, .ref (ad 0)), (1, .int x1), (2, .int x2)] := hl
  unfold fX6_queue at h
  refine lv_bipush (v := (21 : Int32)) S.1 S.2.1 dX6_queue_0 (by decide) ?_
  refine lv_iload_n S.1 S.2.1 dX6_queue_2 rfl (lv_at hl 1 rfl) ?_
  refine lv_imul S.1 S.2.1 dX6_queue_3 ?_
  refine lv_istore_n (lv' := [(3, .int ((21 : Int32) * x1)), (0, .ref (ad 0)), (1, .int x1), (2, .int x2)]) S.1 S.2.1 dX6_queue_4 rfl hl (by decide) rfl (fun ls hl => ?_)
  refine lv_aload_n S.1 S.2.1 dX6_queue_5 rfl (lv_at hl 1 rfl) ?_
  refine gM_0_st S hK hP wf_X6_17 dX6_queue_6 ?_
  refine lv_iload_n S.1 S.2.1 dX6_queue_9 rfl (lv_at hl 0 rfl) ?_
  refine lv_bipush (v := (8 : Int32)) S.1 S.2.1 dX6_queue_10 (by decide) ?_
  refine lv_iadd S.1 S.2.1 dX6_queue_12 ?_
  refine lv_aload_n S.1 S.2.1 dX6_queue_13 rfl (lv_at hl 1 rfl) ?_
  refine gM_0_st S hK hP wf_X6_17 dX6_queue_14 ?_
  refine lv_iload_n S.1 S.2.1 dX6_queue_17 rfl (lv_at hl 0 rfl) ?_
  refine lv_bipush (v := (7 : Int32)) S.1 S.2.1 dX6_queue_18 (by decide) ?_
  refine lv_iadd S.1 S.2.1 dX6_queue_20 ?_
  obtain ⟨q1, h⟩ := gi_some h
  refine lM_2 S hK hP q1 dX6_queue_21 ?_
  refine lv_iadd S.1 S.2.1 dX6_queue_22 ?_
  refine lv_iload_n S.1 S.2.1 dX6_queue_23 rfl (lv_at hl 3 rfl) ?_
  obtain ⟨q2, h⟩ := gi_some h
  obtain ⟨u3, hu3, h⟩ := bw_some h
  refine tM_2 S hK hap hP hS q2 dX6_queue_24 hu3 (fun H locs hP hS => ?_)
  refine lv_aload_n S.1 S.2.1 dX6_queue_25 rfl (lv_at hl 1 rfl) ?_
  refine gM_0_st S hK hP wf_X6_17 dX6_queue_26 ?_
  refine lv_iload_n S.1 S.2.1 dX6_queue_29 rfl (lv_at hl 0 rfl) ?_
  refine lv_bipush (v := (7 : Int32)) S.1 S.2.1 dX6_queue_30 (by decide) ?_
  refine lv_iadd S.1 S.2.1 dX6_queue_32 ?_
  refine lv_dup2_11 S.1 S.2.1 dX6_queue_33 rfl rfl ?_
  obtain ⟨q4, h⟩ := gi_some h
  refine lM_2 S hK hP q4 dX6_queue_34 ?_
  refine lv_iconst (v := (1 : Int32)) S.1 S.2.1 dX6_queue_35 (by decide) ?_
  refine lv_iadd S.1 S.2.1 dX6_queue_36 ?_
  obtain ⟨q5, h⟩ := gi_some h
  obtain ⟨u6, hu6, h⟩ := bw_some h
  refine tM_2 S hK hap hP hS q5 dX6_queue_37 hu6 (fun H locs hP hS => ?_)
  exact x_vret S hr hlk hK hP hS h dX6_queue_38
theorem hy_X6_pairAt : yX6_pairAt.cls ≠ "java/lang/invoke/MethodHandle" ∧ yX6_pairAt.cls ≠ "java/lang/invoke/VarHandle" ∧ (parseMethodDescriptor yX6_pairAt.desc).map (fun d => d.parameters.length) = some 2 := by decide +kernel
set_option maxHeartbeats 4000000 in
set_option maxRecDepth 100000 in
theorem k_X6_pairAt {l : Launch} {dC : Nat → ClassId} {dI : Nat → Nat → Nat} {ad : Nat → Nat} {cI : ClassId} (hap : AP ad 9) {x1 x2 : Int32} {u uf : Wo} {rf : Int32} (h : fX6_pairAt x1 x2 u = some (rf, uf)) : CI l dC dI cI (WM ad cI) (AF ad 9) yX6_pairAt cX6_pairAt 3 (some .int) 0 0 [.ref (ad 0), .int x1, .int x2] u rf uf := by
  refine ci_begin (by decide) (Nat.le_of_ble_eq_true rfl) ?_
  intro p e s m args below meth c S hr hlk hK
  intro H locs ls hP hS hl
  have hl : lv_has ls 3 [(0, .ref (ad 0)), (1, .int x1), (2, .int x2)] := hl
  unfold fX6_pairAt at h
  refine lv_sipush (v := (140 : Int32)) S.1 S.2.1 dX6_pairAt_0 (by decide) ?_
  refine lv_bipush (v := (25 : Int32)) S.1 S.2.1 dX6_pairAt_3 (by decide) ?_
  refine lv_bipush (v := (6 : Int32)) S.1 S.2.1 dX6_pairAt_5 (by decide) ?_
  refine lv_iload_n S.1 S.2.1 dX6_pairAt_7 rfl (lv_at hl 1 rfl) ?_
  refine lv_imul S.1 S.2.1 dX6_pairAt_8 ?_
  refine lv_iload_n S.1 S.2.1 dX6_pairAt_9 rfl (lv_at hl 2 rfl) ?_
  refine lv_iadd S.1 S.2.1 dX6_pairAt_10 ?_
  refine lv_imul S.1 S.2.1 dX6_pairAt_11 ?_
  refine lv_iadd S.1 S.2.1 dX6_pairAt_12 ?_
  exact x_iret S hr hlk hK hP hS h dX6_pairAt_13
theorem hy_X6_send : yX6_send.cls ≠ "java/lang/invoke/MethodHandle" ∧ yX6_send.cls ≠ "java/lang/invoke/VarHandle" ∧ (parseMethodDescriptor yX6_send.desc).map (fun d => d.parameters.length) = some 4 := by decide +kernel
set_option maxHeartbeats 4000000 in
set_option maxRecDepth 100000 in
theorem k_X6_send {l : Launch} {dC : Nat → ClassId} {dI : Nat → Nat → Nat} {ad : Nat → Nat} {cI : ClassId} (hap : AP ad 9) {x1 x2 x3 x4 : Int32} {u uf : Wo} {rf : Int32} (h : fX6_send x1 x2 x3 x4 u = some (rf, uf)) : CV l dC dI cI (WM ad cI) (AF ad 9) yX6_send cX6_send 7 none 1 22 [.ref (ad 0), .int x1, .int x2, .int x3, .int x4] u uf := by
  refine cv_begin (by decide) (Nat.le_of_ble_eq_true rfl) ?_
  intro p e s m args below meth c S hr hlk hK
  have B_92 : ∀ (u : Wo), fX6_send_92 u = some (rf, uf) → J p l e (rmk 1 22) s m args below meth c dC dI (WM ad cI) (AF ad 9) (MQ below (QV dC dI cI (WM ad cI) (AF ad 9) uf) args s 0 0 (AF ad 9)) u 92 7 [] [] := by
    intro u h H locs ls hP hS hl
    unfold fX6_send_92 at h
    exact x_vret S hr hlk hK hP hS h dX6_send_92
  intro H locs ls hP hS hl
  have hl : lv_has ls 7 [(0, .ref (ad 0)), (1, .int x1), (2, .int x2), (3, .int x3), (4, .int x4)] := hl
  unfold fX6_send at h
  refine lv_aload_n S.1 S.2.1 dX6_send_0 rfl (lv_at hl 0 rfl) ?_
  refine lv_iload_n S.1 S.2.1 dX6_send_1 rfl (lv_at hl 1 rfl) ?_
  refine lv_iload_n S.1 S.2.1 dX6_send_2 rfl (lv_at hl 2 rfl) ?_
  obtain ⟨r2, u3, q1, h⟩ := bd_some h
  refine x_vi (Wf := WM ad cI) (q0 := 0) (ci := 6) (As := [.int x1, .int x2]) (rest := []) S hK hP hS (k_X6_pairAt hap q1) rfl rfl wl_X6_69 wi_X6_pairAt ws_X6_pairAt wz_X6 wc_X6_pairAt hy_X6_pairAt ⟨Nat.le_of_ble_eq_true rfl, Nat.le_of_ble_eq_true rfl⟩ hl.1 rfl (Nat.le_of_ble_eq_true rfl) dX6_send_3 (fun H locs hP hS => ?_)
  refine lv_istore (lv' := [(5, .int r2), (0, .ref (ad 0)), (1, .int x1), (2, .int x2), (3, .int x3), (4, .int x4)]) S.1 S.2.1 dX6_send_6 hl (by decide) rfl (fun ls hl => ?_)
  refine lv_aload_n S.1 S.2.1 dX6_send_8 rfl (lv_at hl 1 rfl) ?_
  refine gM_0_st S hK hP wf_X6_17 dX6_send_9 ?_
  refine lv_iload S.1 S.2.1 dX6_send_12 (lv_at hl 0 rfl) ?_
  obtain ⟨q4, h⟩ := gi_some h
  refine lM_2 S hK hP q4 dX6_send_14 ?_
  refine lv_istore (lv' := [(6, .int (u3 2 (r2).toNatClampNeg)), (5, .int r2), (0, .ref (ad 0)), (1, .int x1), (2, .int x2), (3, .int x3), (4, .int x4)]) S.1 S.2.1 dX6_send_15 hl (by decide) rfl (fun ls hl => ?_)
  refine lv_iload S.1 S.2.1 dX6_send_17 (lv_at hl 0 rfl) ?_
  refine lv_bipush (v := (12 : Int32)) S.1 S.2.1 dX6_send_19 (by decide) ?_
  refine lv_icmp_ne (tgt := 30) S.1 S.2.1 dX6_send_21 (by decide) (fun c5 => ?_) (fun c5 => ?_)
  · rw [if_neg c5] at h
    refine lv_aload_n S.1 S.2.1 dX6_send_30 rfl (lv_at hl 2 rfl) ?_
    refine gM_0_st S hK hP wf_X6_17 dX6_send_31 ?_
    refine lv_iload S.1 S.2.1 dX6_send_34 (lv_at hl 1 rfl) ?_
    refine lv_iconst (v := (1 : Int32)) S.1 S.2.1 dX6_send_36 (by decide) ?_
    refine lv_iadd S.1 S.2.1 dX6_send_37 ?_
    refine lv_iconst (v := (2 : Int32)) S.1 S.2.1 dX6_send_38 (by decide) ?_
    refine lv_iload S.1 S.2.1 dX6_send_39 (lv_at hl 0 rfl) ?_
    refine lv_imul S.1 S.2.1 dX6_send_41 ?_
    refine lv_iadd S.1 S.2.1 dX6_send_42 ?_
    refine lv_iload_n S.1 S.2.1 dX6_send_43 rfl (lv_at hl 5 rfl) ?_
    obtain ⟨q6, h⟩ := gi_some h
    obtain ⟨u7, hu7, h⟩ := bw_some h
    refine tM_2 S hK hap hP hS q6 dX6_send_44 hu7 (fun H locs hP hS => ?_)
    refine lv_aload_n S.1 S.2.1 dX6_send_45 rfl (lv_at hl 2 rfl) ?_
    refine gM_0_st S hK hP wf_X6_17 dX6_send_46 ?_
    refine lv_iload S.1 S.2.1 dX6_send_49 (lv_at hl 1 rfl) ?_
    refine lv_iconst (v := (2 : Int32)) S.1 S.2.1 dX6_send_51 (by decide) ?_
    refine lv_iadd S.1 S.2.1 dX6_send_52 ?_
    refine lv_iconst (v := (2 : Int32)) S.1 S.2.1 dX6_send_53 (by decide) ?_
    refine lv_iload S.1 S.2.1 dX6_send_54 (lv_at hl 0 rfl) ?_
    refine lv_imul S.1 S.2.1 dX6_send_56 ?_
    refine lv_iadd S.1 S.2.1 dX6_send_57 ?_
    refine lv_iload S.1 S.2.1 dX6_send_58 (lv_at hl 6 rfl) ?_
    obtain ⟨q8, h⟩ := gi_some h
    obtain ⟨u9, hu9, h⟩ := bw_some h
    refine tM_2 S hK hap hP hS q8 dX6_send_60 hu9 (fun H locs hP hS => ?_)
    refine lv_aload_n S.1 S.2.1 dX6_send_61 rfl (lv_at hl 2 rfl) ?_
    refine gM_0_st S hK hP wf_X6_17 dX6_send_62 ?_
    refine lv_iload S.1 S.2.1 dX6_send_65 (lv_at hl 1 rfl) ?_
    refine lv_dup2_11 S.1 S.2.1 dX6_send_67 rfl rfl ?_
    obtain ⟨q10, h⟩ := gi_some h
    refine lM_2 S hK hP q10 dX6_send_68 ?_
    refine lv_iconst (v := (1 : Int32)) S.1 S.2.1 dX6_send_69 (by decide) ?_
    refine lv_iadd S.1 S.2.1 dX6_send_70 ?_
    obtain ⟨q11, h⟩ := gi_some h
    obtain ⟨u12, hu12, h⟩ := bw_some h
    refine tM_2 S hK hap hP hS q11 dX6_send_71 hu12 (fun H locs hP hS => ?_)
    refine lv_aload_n S.1 S.2.1 dX6_send_72 rfl (lv_at hl 2 rfl) ?_
    refine gM_0_records S hK hP wf_X6_23 dX6_send_73 ?_
    refine lv_if_eq (tgt := 92) S.1 S.2.1 dX6_send_76 (by decide) (fun c13 => ?_) (fun c13 => ?_)
    · rw [if_pos c13] at h
      exact B_92 u12 h _ _ _ hP hS (lv_sub hl [] rfl)
    · rw [if_neg c13] at h
      refine lv_aload_n S.1 S.2.1 dX6_send_79 rfl (lv_at hl 2 rfl) ?_
      refine gM_0_ex S hK hP wf_X6_20 dX6_send_80 ?_
      refine lv_bipush (v := (7 : Int32)) S.1 S.2.1 dX6_send_83 (by decide) ?_
      refine lv_iload_n S.1 S.2.1 dX6_send_85 rfl (lv_at hl 5 rfl) ?_
      refine lv_iadd S.1 S.2.1 dX6_send_86 ?_
      refine lv_dup2_11 S.1 S.2.1 dX6_send_87 rfl rfl ?_
      obtain ⟨q14, h⟩ := gi_some h
      refine lM_3 S hK hP q14 dX6_send_88 ?_
      refine lv_iconst (v := (1 : Int32)) S.1 S.2.1 dX6_send_89 (by decide) ?_
      refine lv_iadd S.1 S.2.1 dX6_send_90 ?_
      obtain ⟨q15, h⟩ := gi_some h
      obtain ⟨u16, hu16, h⟩ := bw_some h
      refine tM_3 S hK hap hP hS q15 dX6_send_91 hu16 (fun H locs hP hS => ?_)
      exact B_92 u16 h _ _ _ hP hS (lv_sub hl [] rfl)
  · rw [if_pos c5] at h
    refine lv_aload_n S.1 S.2.1 dX6_send_24 rfl (lv_at hl 2 rfl) ?_
    refine lv_iconst (v := (1 : Int32)) S.1 S.2.1 dX6_send_25 (by decide) ?_
    obtain ⟨u17, hu17, h⟩ := bw_some h
    refine pM_0_isOver S hK hap hP hS wf_X6_73 dX6_send_26 (by decide) hu17 (fun H locs hP hS => ?_)
    exact x_vret S hr hlk hK hP hS h dX6_send_29
theorem hy_X6_sent : yX6_sent.cls ≠ "java/lang/invoke/MethodHandle" ∧ yX6_sent.cls ≠ "java/lang/invoke/VarHandle" ∧ (parseMethodDescriptor yX6_sent.desc).map (fun d => d.parameters.length) = some 0 := by decide +kernel
set_option maxHeartbeats 4000000 in
set_option maxRecDepth 100000 in
theorem k_X6_sent {l : Launch} {dC : Nat → ClassId} {dI : Nat → Nat → Nat} {ad : Nat → Nat} {cI : ClassId} (hap : AP ad 9) {u uf : Wo} {rf : Int32} (h : fX6_sent u = some (rf, uf)) : CI l dC dI cI (WM ad cI) (AF ad 9) yX6_sent cX6_sent 1 (some .int) 0 0 [.ref (ad 0)] u rf uf := by
  refine ci_begin (by decide) (Nat.le_of_ble_eq_true rfl) ?_
  intro p e s m args below meth c S hr hlk hK
  intro H locs ls hP hS hl
  have hl : lv_has ls 1 [(0, .ref (ad 0))] := hl
  unfold fX6_sent at h
  refine lv_aload_n S.1 S.2.1 dX6_sent_0 rfl (lv_at hl 0 rfl) ?_
  refine gM_0_ex S hK hP wf_X6_20 dX6_sent_1 ?_
  refine lv_bipush (v := (7 : Int32)) S.1 S.2.1 dX6_sent_4 (by decide) ?_
  obtain ⟨q1, h⟩ := gi_some h
  refine lM_3 S hK hP q1 dX6_sent_6 ?_
  refine lv_aload_n S.1 S.2.1 dX6_sent_7 rfl (lv_at hl 0 rfl) ?_
  refine gM_0_ex S hK hP wf_X6_20 dX6_sent_8 ?_
  refine lv_bipush (v := (8 : Int32)) S.1 S.2.1 dX6_sent_11 (by decide) ?_
  obtain ⟨q2, h⟩ := gi_some h
  refine lM_3 S hK hP q2 dX6_sent_13 ?_
  refine lv_iadd S.1 S.2.1 dX6_sent_14 ?_
  refine lv_aload_n S.1 S.2.1 dX6_sent_15 rfl (lv_at hl 0 rfl) ?_
  refine gM_0_ex S hK hP wf_X6_20 dX6_sent_16 ?_
  refine lv_bipush (v := (9 : Int32)) S.1 S.2.1 dX6_sent_19 (by decide) ?_
  obtain ⟨q3, h⟩ := gi_some h
  refine lM_3 S hK hP q3 dX6_sent_21 ?_
  refine lv_iadd S.1 S.2.1 dX6_sent_22 ?_
  exact x_iret S hr hlk hK hP hS h dX6_sent_23
theorem hy_X6_comesIn : yX6_comesIn.cls ≠ "java/lang/invoke/MethodHandle" ∧ yX6_comesIn.cls ≠ "java/lang/invoke/VarHandle" ∧ (parseMethodDescriptor yX6_comesIn.desc).map (fun d => d.parameters.length) = some 1 := by decide +kernel
set_option maxHeartbeats 4000000 in
set_option maxRecDepth 100000 in
theorem k_X6_comesIn {l : Launch} {dC : Nat → ClassId} {dI : Nat → Nat → Nat} {ad : Nat → Nat} {cI : ClassId} (hap : AP ad 9) {x1 : Int32} {u uf : Wo} {rf : Int32} (h : fX6_comesIn x1 u = some (rf, uf)) : CV l dC dI cI (WM ad cI) (AF ad 9) yX6_comesIn cX6_comesIn 4 none 1 20 [.ref (ad 0), .int x1] u uf := by
  refine cv_begin (by decide) (Nat.le_of_ble_eq_true rfl) ?_
  intro p e s m args below meth c S hr hlk hK
  have B_29 : ∀ (k68 : Int32 → Int32 → Wo → Re) (hk68 : ∀ (x1 : Int32) (x2 : Int32) (u : Wo), k68 x1 x2 u = some (rf, uf) → J p l e (rmk 1 20) s m args below meth c dC dI (WM ad cI) (AF ad 9) (MQ below (QV dC dI cI (WM ad cI) (AF ad 9) uf) args s 0 0 (AF ad 9)) u 68 4 [(0, .ref (ad 0)), (1, .int x1), (2, .int x2)] []) (n : Nat) (x1 : Int32) (x2 : Int32) (x3 : Int32) (u : Wo), fX6_comesIn_29 k68 n x1 x2 x3 u = some (rf, uf) → J p l e (rmk 1 20) s m args below meth c dC dI (WM ad cI) (AF ad 9) (MQ below (QV dC dI cI (WM ad cI) (AF ad 9) uf) args s 0 0 (AF ad 9)) u 29 4 [(0, .ref (ad 0)), (1, .int x1), (2, .int x2), (3, .int x3)] [] := by
    intro k68 hk68
    intro n
    induction n with
    | zero => intro x1 x2 x3 u h; cases h
    | succ n ih =>
      intro x1 x2 x3 u h H locs ls hP hS hl
      rw [fX6_comesIn_29.eq_2] at h
      refine lv_iload_n S.1 S.2.1 dX6_comesIn_29 rfl (lv_at hl 3 rfl) ?_
      refine lv_iconst (v := (3 : Int32)) S.1 S.2.1 dX6_comesIn_30 (by decide) ?_
      refine lv_icmp_ge (tgt := 68) S.1 S.2.1 dX6_comesIn_31 (by decide) (fun c5 => ?_) (fun c5 => ?_)
      · rw [if_pos c5] at h
        exact hk68 _ _ u h _ _ _ hP hS (lv_sub hl [0, 1, 2] rfl)
      · rw [if_neg c5] at h
        refine lv_aload_n S.1 S.2.1 dX6_comesIn_34 rfl (lv_at hl 0 rfl) ?_
        refine gM_0_ex S hK hP wf_X6_20 dX6_comesIn_35 ?_
        refine lv_bipush (v := (10 : Int32)) S.1 S.2.1 dX6_comesIn_38 (by decide) ?_
        refine lv_iconst (v := (3 : Int32)) S.1 S.2.1 dX6_comesIn_40 (by decide) ?_
        refine lv_iload_n S.1 S.2.1 dX6_comesIn_41 rfl (lv_at hl 2 rfl) ?_
        refine lv_imul S.1 S.2.1 dX6_comesIn_42 ?_
        refine lv_iadd S.1 S.2.1 dX6_comesIn_43 ?_
        refine lv_iload_n S.1 S.2.1 dX6_comesIn_44 rfl (lv_at hl 3 rfl) ?_
        refine lv_iadd S.1 S.2.1 dX6_comesIn_45 ?_
        refine lv_aload_n S.1 S.2.1 dX6_comesIn_46 rfl (lv_at hl 0 rfl) ?_
        refine gM_0_ex S hK hP wf_X6_20 dX6_comesIn_47 ?_
        refine lv_bipush (v := (10 : Int32)) S.1 S.2.1 dX6_comesIn_50 (by decide) ?_
        refine lv_iconst (v := (3 : Int32)) S.1 S.2.1 dX6_comesIn_52 (by decide) ?_
        refine lv_iload_n S.1 S.2.1 dX6_comesIn_53 rfl (lv_at hl 2 rfl) ?_
        refine lv_imul S.1 S.2.1 dX6_comesIn_54 ?_
        refine lv_iadd S.1 S.2.1 dX6_comesIn_55 ?_
        refine lv_iconst (v := (3 : Int32)) S.1 S.2.1 dX6_comesIn_56 (by decide) ?_
        refine lv_isub S.1 S.2.1 dX6_comesIn_57 ?_
        refine lv_iload_n S.1 S.2.1 dX6_comesIn_58 rfl (lv_at hl 3 rfl) ?_
        refine lv_iadd S.1 S.2.1 dX6_comesIn_59 ?_
        obtain ⟨q6, h⟩ := gi_some h
        refine lM_3 S hK hP q6 dX6_comesIn_60 ?_
        obtain ⟨q7, h⟩ := gi_some h
        obtain ⟨u8, hu8, h⟩ := bw_some h
        refine tM_3 S hK hap hP hS q7 dX6_comesIn_61 hu8 (fun H locs hP hS => ?_)
        refine lv_iinc (v := (x3 + (1 : Int32))) (lv' := [(3, .int (x3 + (1 : Int32))), (0, .ref (ad 0)), (1, .int x1), (2, .int x2)]) S.1 S.2.1 dX6_comesIn_62 hl (k := 3) rfl rfl (by decide) rfl (fun ls hl => ?_)
        refine lv_goto (tgt := 29) S.1 S.2.1 dX6_comesIn_65 (by decide) ?_
        exact ih _ _ _ u8 h _ _ _ hP hS (lv_sub hl [1, 2, 3, 0] rfl)
  have B_68 : ∀ (k23 : Int32 → Int32 → Wo → Re) (hk23 : ∀ (x1 : Int32) (x2 : Int32) (u : Wo), k23 x1 x2 u = some (rf, uf) → J p l e (rmk 1 20) s m args below meth c dC dI (WM ad cI) (AF ad 9) (MQ below (QV dC dI cI (WM ad cI) (AF ad 9) uf) args s 0 0 (AF ad 9)) u 23 4 [(0, .ref (ad 0)), (1, .int x1), (2, .int x2)] []) (x1 : Int32) (x2 : Int32) (u : Wo), fX6_comesIn_68 k23 x1 x2 u = some (rf, uf) → J p l e (rmk 1 20) s m args below meth c dC dI (WM ad cI) (AF ad 9) (MQ below (QV dC dI cI (WM ad cI) (AF ad 9) uf) args s 0 0 (AF ad 9)) u 68 4 [(0, .ref (ad 0)), (1, .int x1), (2, .int x2)] [] := by
    intro k23 hk23 x1 x2 u h H locs ls hP hS hl
    unfold fX6_comesIn_68 at h
    refine lv_iinc (v := (x2 + (-1 : Int32))) (lv' := [(2, .int (x2 + (-1 : Int32))), (0, .ref (ad 0)), (1, .int x1)]) S.1 S.2.1 dX6_comesIn_68 hl (k := 2) rfl rfl (by decide) rfl (fun ls hl => ?_)
    refine lv_goto (tgt := 23) S.1 S.2.1 dX6_comesIn_71 (by decide) ?_
    exact hk23 _ _ u h _ _ _ hP hS (lv_sub hl [1, 2, 0] rfl)
  have B_23 : ∀ (k74 : Int32 → Wo → Re) (hk74 : ∀ (x1 : Int32) (u : Wo), k74 x1 u = some (rf, uf) → J p l e (rmk 1 20) s m args below meth c dC dI (WM ad cI) (AF ad 9) (MQ below (QV dC dI cI (WM ad cI) (AF ad 9) uf) args s 0 0 (AF ad 9)) u 74 4 [(0, .ref (ad 0)), (1, .int x1)] []) (n : Nat) (x1 : Int32) (x2 : Int32) (u : Wo), fX6_comesIn_23 k74 n x1 x2 u = some (rf, uf) → J p l e (rmk 1 20) s m args below meth c dC dI (WM ad cI) (AF ad 9) (MQ below (QV dC dI cI (WM ad cI) (AF ad 9) uf) args s 0 0 (AF ad 9)) u 23 4 [(0, .ref (ad 0)), (1, .int x1), (2, .int x2)] [] := by
    intro k74 hk74
    intro n
    induction n with
    | zero => intro x1 x2 u h; cases h
    | succ n ih =>
      intro x1 x2 u h H locs ls hP hS hl
      rw [fX6_comesIn_23.eq_2] at h
      refine lv_iload_n S.1 S.2.1 dX6_comesIn_23 rfl (lv_at hl 2 rfl) ?_
      refine lv_if_le (tgt := 74) S.1 S.2.1 dX6_comesIn_24 (by decide) (fun c4 => ?_) (fun c4 => ?_)
      · rw [if_pos c4] at h
        exact hk74 _ u h _ _ _ hP hS (lv_sub hl [0, 1] rfl)
      · rw [if_neg c4] at h
        refine lv_iconst (v := (0 : Int32)) S.1 S.2.1 dX6_comesIn_27 (by decide) ?_
        refine lv_istore_n (lv' := [(3, .int (0 : Int32)), (0, .ref (ad 0)), (1, .int x1), (2, .int x2)]) S.1 S.2.1 dX6_comesIn_28 rfl hl (by decide) rfl (fun ls hl => ?_)
        exact B_29 _ (B_68 _ ih) FU _ _ _ u h _ _ _ hP hS (lv_sub hl [1, 2, 3, 0] rfl)
  have B_74 : ∀ (x1 : Int32) (u : Wo), fX6_comesIn_74 x1 u = some (rf, uf) → J p l e (rmk 1 20) s m args below meth c dC dI (WM ad cI) (AF ad 9) (MQ below (QV dC dI cI (WM ad cI) (AF ad 9) uf) args s 0 0 (AF ad 9)) u 74 4 [(0, .ref (ad 0)), (1, .int x1)] [] := by
    intro x1 u h H locs ls hP hS hl
    unfold fX6_comesIn_74 at h
    refine lv_aload_n S.1 S.2.1 dX6_comesIn_74 rfl (lv_at hl 0 rfl) ?_
    refine gM_0_ex S hK hP wf_X6_20 dX6_comesIn_75 ?_
    refine lv_bipush (v := (10 : Int32)) S.1 S.2.1 dX6_comesIn_78 (by decide) ?_
    refine lv_iload_n S.1 S.2.1 dX6_comesIn_80 rfl (lv_at hl 1 rfl) ?_
    obtain ⟨q9, h⟩ := gi_some h
    obtain ⟨u10, hu10, h⟩ := bw_some h
    refine tM_3 S hK hap hP hS q9 dX6_comesIn_81 hu10 (fun H locs hP hS => ?_)
    refine lv_aload_n S.1 S.2.1 dX6_comesIn_82 rfl (lv_at hl 0 rfl) ?_
    refine gM_0_ex S hK hP wf_X6_20 dX6_comesIn_83 ?_
    refine lv_bipush (v := (11 : Int32)) S.1 S.2.1 dX6_comesIn_86 (by decide) ?_
    refine lv_aload_n S.1 S.2.1 dX6_comesIn_88 rfl (lv_at hl 0 rfl) ?_
    refine gM_0_ex S hK hP wf_X6_20 dX6_comesIn_89 ?_
    refine lv_iconst (v := (0 : Int32)) S.1 S.2.1 dX6_comesIn_92 (by decide) ?_
    obtain ⟨q11, h⟩ := gi_some h
    refine lM_3 S hK hP q11 dX6_comesIn_93 ?_
    refine lv_aload_n S.1 S.2.1 dX6_comesIn_94 rfl (lv_at hl 0 rfl) ?_
    refine gM_0_ex S hK hP wf_X6_20 dX6_comesIn_95 ?_
    refine lv_iconst (v := (1 : Int32)) S.1 S.2.1 dX6_comesIn_98 (by decide) ?_
    refine lv_iload_n S.1 S.2.1 dX6_comesIn_99 rfl (lv_at hl 1 rfl) ?_
    refine lv_iadd S.1 S.2.1 dX6_comesIn_100 ?_
    obtain ⟨q12, h⟩ := gi_some h
    refine lM_3 S hK hP q12 dX6_comesIn_101 ?_
    refine lv_isub S.1 S.2.1 dX6_comesIn_102 ?_
    obtain ⟨q13, h⟩ := gi_some h
    obtain ⟨u14, hu14, h⟩ := bw_some h
    refine tM_3 S hK hap hP hS q13 dX6_comesIn_103 hu14 (fun H locs hP hS => ?_)
    refine lv_aload_n S.1 S.2.1 dX6_comesIn_104 rfl (lv_at hl 0 rfl) ?_
    refine gM_0_ex S hK hP wf_X6_20 dX6_comesIn_105 ?_
    refine lv_bipush (v := (12 : Int32)) S.1 S.2.1 dX6_comesIn_108 (by decide) ?_
    refine lv_aload_n S.1 S.2.1 dX6_comesIn_110 rfl (lv_at hl 0 rfl) ?_
    obtain ⟨r16, u17, q15, h⟩ := bd_some h
    refine x_vi (Wf := WM ad cI) (q0 := 0) (ci := 6) (As := []) (rest := [.int (12 : Int32), .ref (ad 3)]) S hK hP hS (k_X6_sent hap q15) rfl rfl wl_X6_80 wi_X6_sent ws_X6_sent wz_X6 wc_X6_sent hy_X6_sent ⟨Nat.le_of_ble_eq_true rfl, Nat.le_of_ble_eq_true rfl⟩ hl.1 rfl (Nat.le_of_ble_eq_true rfl) dX6_comesIn_111 (fun H locs hP hS => ?_)
    obtain ⟨q18, h⟩ := gi_some h
    obtain ⟨u19, hu19, h⟩ := bw_some h
    refine tM_3 S hK hap hP hS q18 dX6_comesIn_114 hu19 (fun H locs hP hS => ?_)
    refine lv_aload_n S.1 S.2.1 dX6_comesIn_115 rfl (lv_at hl 0 rfl) ?_
    refine gM_0_ex S hK hP wf_X6_20 dX6_comesIn_116 ?_
    refine lv_iconst (v := (0 : Int32)) S.1 S.2.1 dX6_comesIn_119 (by decide) ?_
    refine lv_dup2_11 S.1 S.2.1 dX6_comesIn_120 rfl rfl ?_
    obtain ⟨q20, h⟩ := gi_some h
    refine lM_3 S hK hP q20 dX6_comesIn_121 ?_
    refine lv_iconst (v := (1 : Int32)) S.1 S.2.1 dX6_comesIn_122 (by decide) ?_
    refine lv_iadd S.1 S.2.1 dX6_comesIn_123 ?_
    obtain ⟨q21, h⟩ := gi_some h
    obtain ⟨u22, hu22, h⟩ := bw_some h
    refine tM_3 S hK hap hP hS q21 dX6_comesIn_124 hu22 (fun H locs hP hS => ?_)
    exact x_vret S hr hlk hK hP hS h dX6_comesIn_125
  intro H locs ls hP hS hl
  have hl : lv_has ls 4 [(0, .ref (ad 0)), (1, .int x1)] := hl
  unfold fX6_comesIn at h
  refine lv_aload_n S.1 S.2.1 dX6_comesIn_0 rfl (lv_at hl 0 rfl) ?_
  refine gM_0_st S hK hP wf_X6_17 dX6_comesIn_1 ?_
  refine lv_bipush (v := (21 : Int32)) S.1 S.2.1 dX6_comesIn_4 (by decide) ?_
  refine lv_iload_n S.1 S.2.1 dX6_comesIn_6 rfl (lv_at hl 1 rfl) ?_
  refine lv_imul S.1 S.2.1 dX6_comesIn_7 ?_
  refine lv_iconst (v := (0 : Int32)) S.1 S.2.1 dX6_comesIn_8 (by decide) ?_
  refine lv_iadd S.1 S.2.1 dX6_comesIn_9 ?_
  refine lv_iconst (v := (2 : Int32)) S.1 S.2.1 dX6_comesIn_10 (by decide) ?_
  obtain ⟨q1, h⟩ := gi_some h
  obtain ⟨u2, hu2, h⟩ := bw_some h
  refine tM_2 S hK hap hP hS q1 dX6_comesIn_11 hu2 (fun H locs hP hS => ?_)
  refine lv_aload_n S.1 S.2.1 dX6_comesIn_12 rfl (lv_at hl 0 rfl) ?_
  refine gM_0_records S hK hP wf_X6_23 dX6_comesIn_13 ?_
  refine lv_if_ne (tgt := 20) S.1 S.2.1 dX6_comesIn_16 (by decide) (fun c3 => ?_) (fun c3 => ?_)
  · rw [if_neg c3] at h
    refine lv_bipush (v := (59 : Int32)) S.1 S.2.1 dX6_comesIn_20 (by decide) ?_
    refine lv_istore_n (lv' := [(2, .int (59 : Int32)), (0, .ref (ad 0)), (1, .int x1)]) S.1 S.2.1 dX6_comesIn_22 rfl hl (by decide) rfl (fun ls hl => ?_)
    exact B_23 _ B_74 FU _ _ u2 h _ _ _ hP hS (lv_sub hl [1, 2, 0] rfl)
  · rw [if_pos c3] at h
    exact x_vret S hr hlk hK hP hS h dX6_comesIn_19
theorem hy_X6_rules : yX6_rules.cls ≠ "java/lang/invoke/MethodHandle" ∧ yX6_rules.cls ≠ "java/lang/invoke/VarHandle" ∧ (parseMethodDescriptor yX6_rules.desc).map (fun d => d.parameters.length) = some 1 := by decide +kernel
set_option maxHeartbeats 4000000 in
set_option maxRecDepth 100000 in
theorem k_X6_rules {l : Launch} {dC : Nat → ClassId} {dI : Nat → Nat → Nat} {ad : Nat → Nat} {cI : ClassId} (hap : AP ad 9) {x1 : Int32} {u uf : Wo} {rf : Int32} (h : fX6_rules x1 u = some (rf, uf)) : CV l dC dI cI (WM ad cI) (AF ad 9) yX6_rules cX6_rules 5 none 2 48 [.ref (ad 0), .int x1] u uf := by
  refine cv_begin (by decide) (Nat.le_of_ble_eq_true rfl) ?_
  intro p e s m args below meth c S hr hlk hK
  have B_218 : ∀ (u : Wo), fX6_rules_218 u = some (rf, uf) → J p l e (rmk 2 48) s m args below meth c dC dI (WM ad cI) (AF ad 9) (MQ below (QV dC dI cI (WM ad cI) (AF ad 9) uf) args s 0 0 (AF ad 9)) u 218 5 [] [] := by
    intro u h H locs ls hP hS hl
    unfold fX6_rules_218 at h
    exact x_vret S hr hlk hK hP hS h dX6_rules_218
  have B_157 : ∀ (x1 : Int32) (x2 : Int32) (u : Wo), fX6_rules_157 x1 x2 u = some (rf, uf) → J p l e (rmk 2 48) s m args below meth c dC dI (WM ad cI) (AF ad 9) (MQ below (QV dC dI cI (WM ad cI) (AF ad 9) uf) args s 0 0 (AF ad 9)) u 157 5 [(0, .ref (ad 0)), (1, .int x1), (2, .int x2)] [] := by
    intro x1 x2 u h H locs ls hP hS hl
    unfold fX6_rules_157 at h
    refine lv_aload_n S.1 S.2.1 dX6_rules_157 rfl (lv_at hl 0 rfl) ?_
    refine gM_0_st S hK hP wf_X6_17 dX6_rules_158 ?_
    refine lv_iload_n S.1 S.2.1 dX6_rules_161 rfl (lv_at hl 2 rfl) ?_
    refine lv_iconst (v := (5 : Int32)) S.1 S.2.1 dX6_rules_162 (by decide) ?_
    refine lv_iadd S.1 S.2.1 dX6_rules_163 ?_
    obtain ⟨q3, h⟩ := gi_some h
    refine lM_2 S hK hP q3 dX6_rules_164 ?_
    refine lv_iload_n S.1 S.2.1 dX6_rules_165 rfl (lv_at hl 1 rfl) ?_
    refine lv_icmp_eq (tgt := 218) S.1 S.2.1 dX6_rules_166 (by decide) (fun c4 => ?_) (fun c4 => ?_)
    · rw [if_pos c4] at h
      exact B_218 u h _ _ _ hP hS (lv_sub hl [] rfl)
    · rw [if_neg c4] at h
      refine lv_aload_n S.1 S.2.1 dX6_rules_169 rfl (lv_at hl 0 rfl) ?_
      refine gM_0_st S hK hP wf_X6_17 dX6_rules_170 ?_
      refine lv_iload_n S.1 S.2.1 dX6_rules_173 rfl (lv_at hl 2 rfl) ?_
      refine lv_bipush (v := (7 : Int32)) S.1 S.2.1 dX6_rules_174 (by decide) ?_
      refine lv_iadd S.1 S.2.1 dX6_rules_176 ?_
      obtain ⟨q5, h⟩ := gi_some h
      refine lM_2 S hK hP q5 dX6_rules_177 ?_
      refine lv_if_le (tgt := 218) S.1 S.2.1 dX6_rules_178 (by decide) (fun c6 => ?_) (fun c6 => ?_)
      · rw [if_pos c6] at h
        exact B_218 u h _ _ _ hP hS (lv_sub hl [] rfl)
      · rw [if_neg c6] at h
        refine lv_aload_n S.1 S.2.1 dX6_rules_181 rfl (lv_at hl 0 rfl) ?_
        refine gM_0_st S hK hP wf_X6_17 dX6_rules_182 ?_
        refine lv_iload_n S.1 S.2.1 dX6_rules_185 rfl (lv_at hl 2 rfl) ?_
        refine lv_bipush (v := (6 : Int32)) S.1 S.2.1 dX6_rules_186 (by decide) ?_
        refine lv_iadd S.1 S.2.1 dX6_rules_188 ?_
        obtain ⟨q7, h⟩ := gi_some h
        refine lM_2 S hK hP q7 dX6_rules_189 ?_
        refine lv_if_ne (tgt := 218) S.1 S.2.1 dX6_rules_190 (by decide) (fun c8 => ?_) (fun c8 => ?_)
        · rw [if_neg c8] at h
          exact B_218 u h _ _ _ hP hS (lv_sub hl [] rfl)
        · rw [if_pos c8] at h
          refine lv_aload_n S.1 S.2.1 dX6_rules_193 rfl (lv_at hl 0 rfl) ?_
          refine lv_iload_n S.1 S.2.1 dX6_rules_194 rfl (lv_at hl 1 rfl) ?_
          refine lv_aload_n S.1 S.2.1 dX6_rules_195 rfl (lv_at hl 0 rfl) ?_
          refine gM_0_st S hK hP wf_X6_17 dX6_rules_196 ?_
          refine lv_iload_n S.1 S.2.1 dX6_rules_199 rfl (lv_at hl 2 rfl) ?_
          refine lv_iconst (v := (5 : Int32)) S.1 S.2.1 dX6_rules_200 (by decide) ?_
          refine lv_iadd S.1 S.2.1 dX6_rules_201 ?_
          obtain ⟨q9, h⟩ := gi_some h
          refine lM_2 S hK hP q9 dX6_rules_202 ?_
          refine lv_iconst (v := (0 : Int32)) S.1 S.2.1 dX6_rules_203 (by decide) ?_
          refine lv_iconst (v := (0 : Int32)) S.1 S.2.1 dX6_rules_204 (by decide) ?_
          obtain ⟨r11, u12, q10, h⟩ := bd_some h
          refine x_vv (Wf := WM ad cI) (q0 := 0) (ci := 6) (As := [.int x1, .int (u 2 ((x2 + (5 : Int32))).toNatClampNeg), .int (0 : Int32), .int (0 : Int32)]) (rest := []) S hK hP hS (k_X6_send hap q10) rfl rfl wl_X6_76 wi_X6_send ws_X6_send wz_X6 wc_X6_send hy_X6_send ⟨Nat.le_of_ble_eq_true rfl, Nat.le_of_ble_eq_true rfl⟩ hl.1 rfl (Nat.le_of_ble_eq_true rfl) dX6_rules_205 (fun H locs hP hS => ?_)
          refine lv_aload_n S.1 S.2.1 dX6_rules_208 rfl (lv_at hl 0 rfl) ?_
          refine gM_0_st S hK hP wf_X6_17 dX6_rules_209 ?_
          refine lv_iload_n S.1 S.2.1 dX6_rules_212 rfl (lv_at hl 2 rfl) ?_
          refine lv_bipush (v := (6 : Int32)) S.1 S.2.1 dX6_rules_213 (by decide) ?_
          refine lv_iadd S.1 S.2.1 dX6_rules_215 ?_
          refine lv_iconst (v := (1 : Int32)) S.1 S.2.1 dX6_rules_216 (by decide) ?_
          obtain ⟨q13, h⟩ := gi_some h
          obtain ⟨u14, hu14, h⟩ := bw_some h
          refine tM_2 S hK hap hP hS q13 dX6_rules_217 hu14 (fun H locs hP hS => ?_)
          exact B_218 u14 h _ _ _ hP hS (lv_sub hl [] rfl)
  have B_54 : ∀ (k92 : Int32 → Int32 → Int32 → Wo → Re) (hk92 : ∀ (x1 : Int32) (x2 : Int32) (x3 : Int32) (u : Wo), k92 x1 x2 x3 u = some (rf, uf) → J p l e (rmk 2 48) s m args below meth c dC dI (WM ad cI) (AF ad 9) (MQ below (QV dC dI cI (WM ad cI) (AF ad 9) uf) args s 0 0 (AF ad 9)) u 92 5 [(0, .ref (ad 0)), (1, .int x1), (2, .int x2), (3, .int x3)] []) (n : Nat) (x1 : Int32) (x2 : Int32) (x3 : Int32) (x4 : Int32) (u : Wo), fX6_rules_54 k92 n x1 x2 x3 x4 u = some (rf, uf) → J p l e (rmk 2 48) s m args below meth c dC dI (WM ad cI) (AF ad 9) (MQ below (QV dC dI cI (WM ad cI) (AF ad 9) uf) args s 0 0 (AF ad 9)) u 54 5 [(0, .ref (ad 0)), (1, .int x1), (2, .int x2), (3, .int x3), (4, .int x4)] [] := by
    intro k92 hk92
    intro n
    induction n with
    | zero => intro x1 x2 x3 x4 u h; cases h
    | succ n ih =>
      intro x1 x2 x3 x4 u h H locs ls hP hS hl
      rw [fX6_rules_54.eq_2] at h
      refine lv_iload S.1 S.2.1 dX6_rules_54 (lv_at hl 4 rfl) ?_
      refine lv_iconst (v := (5 : Int32)) S.1 S.2.1 dX6_rules_56 (by decide) ?_
      refine lv_icmp_ge (tgt := 92) S.1 S.2.1 dX6_rules_57 (by decide) (fun c21 => ?_) (fun c21 => ?_)
      · rw [if_pos c21] at h
        exact hk92 _ _ _ u h _ _ _ hP hS (lv_sub hl [0, 1, 2, 3] rfl)
      · rw [if_neg c21] at h
        refine lv_aload_n S.1 S.2.1 dX6_rules_60 rfl (lv_at hl 0 rfl) ?_
        refine gM_0_st S hK hP wf_X6_17 dX6_rules_61 ?_
        refine lv_iload_n S.1 S.2.1 dX6_rules_64 rfl (lv_at hl 2 rfl) ?_
        refine lv_bipush (v := (8 : Int32)) S.1 S.2.1 dX6_rules_65 (by decide) ?_
        refine lv_iadd S.1 S.2.1 dX6_rules_67 ?_
        refine lv_iload S.1 S.2.1 dX6_rules_68 (lv_at hl 4 rfl) ?_
        refine lv_iadd S.1 S.2.1 dX6_rules_70 ?_
        refine lv_aload_n S.1 S.2.1 dX6_rules_71 rfl (lv_at hl 0 rfl) ?_
        refine gM_0_st S hK hP wf_X6_17 dX6_rules_72 ?_
        refine lv_iload_n S.1 S.2.1 dX6_rules_75 rfl (lv_at hl 2 rfl) ?_
        refine lv_bipush (v := (8 : Int32)) S.1 S.2.1 dX6_rules_76 (by decide) ?_
        refine lv_iadd S.1 S.2.1 dX6_rules_78 ?_
        refine lv_iload S.1 S.2.1 dX6_rules_79 (lv_at hl 4 rfl) ?_
        refine lv_iadd S.1 S.2.1 dX6_rules_81 ?_
        refine lv_iconst (v := (1 : Int32)) S.1 S.2.1 dX6_rules_82 (by decide) ?_
        refine lv_iadd S.1 S.2.1 dX6_rules_83 ?_
        obtain ⟨q22, h⟩ := gi_some h
        refine lM_2 S hK hP q22 dX6_rules_84 ?_
        obtain ⟨q23, h⟩ := gi_some h
        obtain ⟨u24, hu24, h⟩ := bw_some h
        refine tM_2 S hK hap hP hS q23 dX6_rules_85 hu24 (fun H locs hP hS => ?_)
        refine lv_iinc (v := (x4 + (1 : Int32))) (lv' := [(4, .int (x4 + (1 : Int32))), (0, .ref (ad 0)), (1, .int x1), (2, .int x2), (3, .int x3)]) S.1 S.2.1 dX6_rules_86 hl (k := 4) rfl rfl (by decide) rfl (fun ls hl => ?_)
        refine lv_goto (tgt := 54) S.1 S.2.1 dX6_rules_89 (by decide) ?_
        exact ih _ _ _ _ u24 h _ _ _ hP hS (lv_sub hl [1, 2, 3, 4, 0] rfl)
  have B_92 : ∀ (x1 : Int32) (x2 : Int32) (x3 : Int32) (u : Wo), fX6_rules_92 x1 x2 x3 u = some (rf, uf) → J p l e (rmk 2 48) s m args below meth c dC dI (WM ad cI) (AF ad 9) (MQ below (QV dC dI cI (WM ad cI) (AF ad 9) uf) args s 0 0 (AF ad 9)) u 92 5 [(0, .ref (ad 0)), (1, .int x1), (2, .int x2), (3, .int x3)] [] := by
    intro x1 x2 x3 u h H locs ls hP hS hl
    unfold fX6_rules_92 at h
    refine lv_aload_n S.1 S.2.1 dX6_rules_92 rfl (lv_at hl 0 rfl) ?_
    refine gM_0_st S hK hP wf_X6_17 dX6_rules_93 ?_
    refine lv_iload_n S.1 S.2.1 dX6_rules_96 rfl (lv_at hl 2 rfl) ?_
    refine lv_bipush (v := (8 : Int32)) S.1 S.2.1 dX6_rules_97 (by decide) ?_
    refine lv_iadd S.1 S.2.1 dX6_rules_99 ?_
    refine lv_iconst (v := (5 : Int32)) S.1 S.2.1 dX6_rules_100 (by decide) ?_
    refine lv_iadd S.1 S.2.1 dX6_rules_101 ?_
    refine lv_iconst (v := (0 : Int32)) S.1 S.2.1 dX6_rules_102 (by decide) ?_
    obtain ⟨q25, h⟩ := gi_some h
    obtain ⟨u26, hu26, h⟩ := bw_some h
    refine tM_2 S hK hap hP hS q25 dX6_rules_103 hu26 (fun H locs hP hS => ?_)
    refine lv_aload_n S.1 S.2.1 dX6_rules_104 rfl (lv_at hl 0 rfl) ?_
    refine gM_0_st S hK hP wf_X6_17 dX6_rules_105 ?_
    refine lv_iload_n S.1 S.2.1 dX6_rules_108 rfl (lv_at hl 2 rfl) ?_
    refine lv_bipush (v := (7 : Int32)) S.1 S.2.1 dX6_rules_109 (by decide) ?_
    refine lv_iadd S.1 S.2.1 dX6_rules_111 ?_
    refine lv_dup2_11 S.1 S.2.1 dX6_rules_112 rfl rfl ?_
    obtain ⟨q27, h⟩ := gi_some h
    refine lM_2 S hK hP q27 dX6_rules_113 ?_
    refine lv_iconst (v := (1 : Int32)) S.1 S.2.1 dX6_rules_114 (by decide) ?_
    refine lv_isub S.1 S.2.1 dX6_rules_115 ?_
    obtain ⟨q28, h⟩ := gi_some h
    obtain ⟨u29, hu29, h⟩ := bw_some h
    refine tM_2 S hK hap hP hS q28 dX6_rules_116 hu29 (fun H locs hP hS => ?_)
    refine lv_aload_n S.1 S.2.1 dX6_rules_117 rfl (lv_at hl 0 rfl) ?_
    refine gM_0_st S hK hP wf_X6_17 dX6_rules_118 ?_
    refine lv_iload_n S.1 S.2.1 dX6_rules_121 rfl (lv_at hl 2 rfl) ?_
    refine lv_iconst (v := (5 : Int32)) S.1 S.2.1 dX6_rules_122 (by decide) ?_
    refine lv_iadd S.1 S.2.1 dX6_rules_123 ?_
    refine lv_iload_n S.1 S.2.1 dX6_rules_124 rfl (lv_at hl 3 rfl) ?_
    obtain ⟨q30, h⟩ := gi_some h
    obtain ⟨u31, hu31, h⟩ := bw_some h
    refine tM_2 S hK hap hP hS q30 dX6_rules_125 hu31 (fun H locs hP hS => ?_)
    refine lv_aload_n S.1 S.2.1 dX6_rules_126 rfl (lv_at hl 0 rfl) ?_
    refine gM_0_st S hK hP wf_X6_17 dX6_rules_127 ?_
    refine lv_iload_n S.1 S.2.1 dX6_rules_130 rfl (lv_at hl 2 rfl) ?_
    refine lv_bipush (v := (6 : Int32)) S.1 S.2.1 dX6_rules_131 (by decide) ?_
    refine lv_iadd S.1 S.2.1 dX6_rules_133 ?_
    refine lv_iconst (v := (0 : Int32)) S.1 S.2.1 dX6_rules_134 (by decide) ?_
    obtain ⟨q32, h⟩ := gi_some h
    obtain ⟨u33, hu33, h⟩ := bw_some h
    refine tM_2 S hK hap hP hS q32 dX6_rules_135 hu33 (fun H locs hP hS => ?_)
    refine lv_iload_n S.1 S.2.1 dX6_rules_136 rfl (lv_at hl 3 rfl) ?_
    refine lv_iload_n S.1 S.2.1 dX6_rules_137 rfl (lv_at hl 1 rfl) ?_
    refine lv_icmp_ne (tgt := 149) S.1 S.2.1 dX6_rules_138 (by decide) (fun c34 => ?_) (fun c34 => ?_)
    · rw [if_neg c34] at h
      refine lv_aload_n S.1 S.2.1 dX6_rules_149 rfl (lv_at hl 0 rfl) ?_
      refine lv_iload_n S.1 S.2.1 dX6_rules_150 rfl (lv_at hl 1 rfl) ?_
      refine lv_iload_n S.1 S.2.1 dX6_rules_151 rfl (lv_at hl 3 rfl) ?_
      refine lv_iconst (v := (2 : Int32)) S.1 S.2.1 dX6_rules_152 (by decide) ?_
      refine lv_iconst (v := (0 : Int32)) S.1 S.2.1 dX6_rules_153 (by decide) ?_
      obtain ⟨r36, u37, q35, h⟩ := bd_some h
      refine x_vv (Wf := WM ad cI) (q0 := 0) (ci := 6) (As := [.int x1, .int x3, .int (2 : Int32), .int (0 : Int32)]) (rest := []) S hK hP hS (k_X6_send hap q35) rfl rfl wl_X6_76 wi_X6_send ws_X6_send wz_X6 wc_X6_send hy_X6_send ⟨Nat.le_of_ble_eq_true rfl, Nat.le_of_ble_eq_true rfl⟩ hl.1 rfl (Nat.le_of_ble_eq_true rfl) dX6_rules_154 (fun H locs hP hS => ?_)
      exact B_157 _ _ u37 h _ _ _ hP hS (lv_sub hl [0, 1, 2] rfl)
    · rw [if_pos c34] at h
      refine lv_aload_n S.1 S.2.1 dX6_rules_141 rfl (lv_at hl 0 rfl) ?_
      refine lv_iload_n S.1 S.2.1 dX6_rules_142 rfl (lv_at hl 1 rfl) ?_
      obtain ⟨r39, u40, q38, h⟩ := bd_some h
      refine x_vv (Wf := WM ad cI) (q0 := 0) (ci := 6) (As := [.int x1]) (rest := []) S hK hP hS (k_X6_comesIn hap q38) rfl rfl wl_X6_84 wi_X6_comesIn ws_X6_comesIn wz_X6 wc_X6_comesIn hy_X6_comesIn ⟨Nat.le_of_ble_eq_true rfl, Nat.le_of_ble_eq_true rfl⟩ hl.1 rfl (Nat.le_of_ble_eq_true rfl) dX6_rules_143 (fun H locs hP hS => ?_)
      refine lv_goto (tgt := 157) S.1 S.2.1 dX6_rules_146 (by decide) ?_
      exact B_157 _ _ u40 h _ _ _ hP hS (lv_sub hl [0, 1, 2] rfl)
  intro H locs ls hP hS hl
  have hl : lv_has ls 5 [(0, .ref (ad 0)), (1, .int x1)] := hl
  unfold fX6_rules at h
  refine lv_bipush (v := (21 : Int32)) S.1 S.2.1 dX6_rules_0 (by decide) ?_
  refine lv_iload_n S.1 S.2.1 dX6_rules_2 rfl (lv_at hl 1 rfl) ?_
  refine lv_imul S.1 S.2.1 dX6_rules_3 ?_
  refine lv_istore_n (lv' := [(2, .int ((21 : Int32) * x1)), (0, .ref (ad 0)), (1, .int x1)]) S.1 S.2.1 dX6_rules_4 rfl hl (by decide) rfl (fun ls hl => ?_)
  refine lv_aload_n S.1 S.2.1 dX6_rules_5 rfl (lv_at hl 1 rfl) ?_
  refine gM_0_st S hK hP wf_X6_17 dX6_rules_6 ?_
  refine lv_iload_n S.1 S.2.1 dX6_rules_9 rfl (lv_at hl 0 rfl) ?_
  refine lv_iconst (v := (5 : Int32)) S.1 S.2.1 dX6_rules_10 (by decide) ?_
  refine lv_iadd S.1 S.2.1 dX6_rules_11 ?_
  obtain ⟨q1, h⟩ := gi_some h
  refine lM_2 S hK hP q1 dX6_rules_12 ?_
  refine lv_iload_n S.1 S.2.1 dX6_rules_13 rfl (lv_at hl 2 rfl) ?_
  refine lv_icmp_ne (tgt := 157) S.1 S.2.1 dX6_rules_14 (by decide) (fun c2 => ?_) (fun c2 => ?_)
  · rw [if_neg c2] at h
    exact B_157 _ _ u h _ _ _ hP hS (lv_sub hl [1, 2, 0] rfl)
  · rw [if_pos c2] at h
    refine lv_aload_n S.1 S.2.1 dX6_rules_17 rfl (lv_at hl 1 rfl) ?_
    refine gM_0_st S hK hP wf_X6_17 dX6_rules_18 ?_
    refine lv_iload_n S.1 S.2.1 dX6_rules_21 rfl (lv_at hl 0 rfl) ?_
    refine lv_iconst (v := (0 : Int32)) S.1 S.2.1 dX6_rules_22 (by decide) ?_
    refine lv_iadd S.1 S.2.1 dX6_rules_23 ?_
    obtain ⟨q15, h⟩ := gi_some h
    refine lM_2 S hK hP q15 dX6_rules_24 ?_
    refine lv_iconst (v := (2 : Int32)) S.1 S.2.1 dX6_rules_25 (by decide) ?_
    refine lv_icmp_eq (tgt := 157) S.1 S.2.1 dX6_rules_26 (by decide) (fun c16 => ?_) (fun c16 => ?_)
    · rw [if_pos c16] at h
      exact B_157 _ _ u h _ _ _ hP hS (lv_sub hl [1, 2, 0] rfl)
    · rw [if_neg c16] at h
      refine lv_aload_n S.1 S.2.1 dX6_rules_29 rfl (lv_at hl 1 rfl) ?_
      refine gM_0_st S hK hP wf_X6_17 dX6_rules_30 ?_
      refine lv_iload_n S.1 S.2.1 dX6_rules_33 rfl (lv_at hl 0 rfl) ?_
      refine lv_bipush (v := (7 : Int32)) S.1 S.2.1 dX6_rules_34 (by decide) ?_
      refine lv_iadd S.1 S.2.1 dX6_rules_36 ?_
      obtain ⟨q17, h⟩ := gi_some h
      refine lM_2 S hK hP q17 dX6_rules_37 ?_
      refine lv_if_le (tgt := 157) S.1 S.2.1 dX6_rules_38 (by decide) (fun c18 => ?_) (fun c18 => ?_)
      · rw [if_pos c18] at h
        exact B_157 _ _ u h _ _ _ hP hS (lv_sub hl [1, 2, 0] rfl)
      · rw [if_neg c18] at h
        refine lv_aload_n S.1 S.2.1 dX6_rules_41 rfl (lv_at hl 1 rfl) ?_
        refine gM_0_st S hK hP wf_X6_17 dX6_rules_42 ?_
        refine lv_iload_n S.1 S.2.1 dX6_rules_45 rfl (lv_at hl 0 rfl) ?_
        refine lv_bipush (v := (8 : Int32)) S.1 S.2.1 dX6_rules_46 (by decide) ?_
        refine lv_iadd S.1 S.2.1 dX6_rules_48 ?_
        obtain ⟨q19, h⟩ := gi_some h
        refine lM_2 S hK hP q19 dX6_rules_49 ?_
        obtain ⟨y20, hy20, h⟩ := bn_some h
        rw [hy20]
        refine lv_istore_n (lv' := [(3, .int y20), (2, .int ((21 : Int32) * x1)), (0, .ref (ad 0)), (1, .int x1)]) S.1 S.2.1 dX6_rules_50 rfl hl (by decide) rfl (fun ls hl => ?_)
        refine lv_iconst (v := (0 : Int32)) S.1 S.2.1 dX6_rules_51 (by decide) ?_
        refine lv_istore (lv' := [(4, .int (0 : Int32)), (3, .int y20), (2, .int ((21 : Int32) * x1)), (0, .ref (ad 0)), (1, .int x1)]) S.1 S.2.1 dX6_rules_52 hl (by decide) rfl (fun ls hl => ?_)
        exact B_54 _ B_92 FU _ _ _ _ u h _ _ _ hP hS (lv_sub hl [3, 4, 2, 1, 0] rfl)
theorem hy_X6_askAll : yX6_askAll.cls ≠ "java/lang/invoke/MethodHandle" ∧ yX6_askAll.cls ≠ "java/lang/invoke/VarHandle" ∧ (parseMethodDescriptor yX6_askAll.desc).map (fun d => d.parameters.length) = some 2 := by decide +kernel
set_option maxHeartbeats 4000000 in
set_option maxRecDepth 100000 in
theorem k_X6_askAll {l : Launch} {dC : Nat → ClassId} {dI : Nat → Nat → Nat} {ad : Nat → Nat} {cI : ClassId} (hap : AP ad 9) {x1 x2 : Int32} {u uf : Wo} {rf : Int32} (h : fX6_askAll x1 x2 u = some (rf, uf)) : CV l dC dI cI (WM ad cI) (AF ad 9) yX6_askAll cX6_askAll 4 none 2 48 [.ref (ad 0), .int x1, .int x2] u uf := by
  refine cv_begin (by decide) (Nat.le_of_ble_eq_true rfl) ?_
  intro p e s m args below meth c S hr hlk hK
  have B_23 : ∀ (k2 : Int32 → Int32 → Int32 → Wo → Re) (hk2 : ∀ (x1 : Int32) (x2 : Int32) (x3 : Int32) (u : Wo), k2 x1 x2 x3 u = some (rf, uf) → J p l e (rmk 2 48) s m args below meth c dC dI (WM ad cI) (AF ad 9) (MQ below (QV dC dI cI (WM ad cI) (AF ad 9) uf) args s 0 0 (AF ad 9)) u 2 4 [(0, .ref (ad 0)), (1, .int x1), (2, .int x2), (3, .int x3)] []) (x1 : Int32) (x2 : Int32) (x3 : Int32) (u : Wo), fX6_askAll_23 k2 x1 x2 x3 u = some (rf, uf) → J p l e (rmk 2 48) s m args below meth c dC dI (WM ad cI) (AF ad 9) (MQ below (QV dC dI cI (WM ad cI) (AF ad 9) uf) args s 0 0 (AF ad 9)) u 23 4 [(0, .ref (ad 0)), (1, .int x1), (2, .int x2), (3, .int x3)] [] := by
    intro k2 hk2 x1 x2 x3 u h H locs ls hP hS hl
    unfold fX6_askAll_23 at h
    refine lv_iinc (v := (x3 + (1 : Int32))) (lv' := [(3, .int (x3 + (1 : Int32))), (0, .ref (ad 0)), (1, .int x1), (2, .int x2)]) S.1 S.2.1 dX6_askAll_23 hl (k := 3) rfl rfl (by decide) rfl (fun ls hl => ?_)
    refine lv_goto (tgt := 2) S.1 S.2.1 dX6_askAll_26 (by decide) ?_
    exact hk2 _ _ _ u h _ _ _ hP hS (lv_sub hl [1, 2, 3, 0] rfl)
  have B_2 : ∀ (k29 : Wo → Re) (hk29 : ∀ (u : Wo), k29  u = some (rf, uf) → J p l e (rmk 2 48) s m args below meth c dC dI (WM ad cI) (AF ad 9) (MQ below (QV dC dI cI (WM ad cI) (AF ad 9) uf) args s 0 0 (AF ad 9)) u 29 4 [] []) (n : Nat) (x1 : Int32) (x2 : Int32) (x3 : Int32) (u : Wo), fX6_askAll_2 k29 n x1 x2 x3 u = some (rf, uf) → J p l e (rmk 2 48) s m args below meth c dC dI (WM ad cI) (AF ad 9) (MQ below (QV dC dI cI (WM ad cI) (AF ad 9) uf) args s 0 0 (AF ad 9)) u 2 4 [(0, .ref (ad 0)), (1, .int x1), (2, .int x2), (3, .int x3)] [] := by
    intro k29 hk29
    intro n
    induction n with
    | zero => intro x1 x2 x3 u h; cases h
    | succ n ih =>
      intro x1 x2 x3 u h H locs ls hP hS hl
      rw [fX6_askAll_2.eq_2] at h
      refine lv_iload_n S.1 S.2.1 dX6_askAll_2 rfl (lv_at hl 3 rfl) ?_
      refine lv_aload_n S.1 S.2.1 dX6_askAll_3 rfl (lv_at hl 0 rfl) ?_
      refine gM_0_n S hK hP wf_X6_7 dX6_askAll_4 ?_
      refine lv_icmp_ge (tgt := 29) S.1 S.2.1 dX6_askAll_7 (by decide) (fun c1 => ?_) (fun c1 => ?_)
      · rw [if_pos c1] at h
        exact hk29 u h _ _ _ hP hS (lv_sub hl [] rfl)
      · rw [if_neg c1] at h
        refine lv_iload_n S.1 S.2.1 dX6_askAll_10 rfl (lv_at hl 3 rfl) ?_
        refine lv_iload_n S.1 S.2.1 dX6_askAll_11 rfl (lv_at hl 1 rfl) ?_
        refine lv_icmp_eq (tgt := 23) S.1 S.2.1 dX6_askAll_12 (by decide) (fun c2 => ?_) (fun c2 => ?_)
        · rw [if_pos c2] at h
          exact B_23 _ ih _ _ _ u h _ _ _ hP hS (lv_sub hl [0, 1, 2, 3] rfl)
        · rw [if_neg c2] at h
          refine lv_aload_n S.1 S.2.1 dX6_askAll_15 rfl (lv_at hl 0 rfl) ?_
          refine lv_iload_n S.1 S.2.1 dX6_askAll_16 rfl (lv_at hl 1 rfl) ?_
          refine lv_iload_n S.1 S.2.1 dX6_askAll_17 rfl (lv_at hl 3 rfl) ?_
          refine lv_iconst (v := (0 : Int32)) S.1 S.2.1 dX6_askAll_18 (by decide) ?_
          refine lv_iload_n S.1 S.2.1 dX6_askAll_19 rfl (lv_at hl 2 rfl) ?_
          obtain ⟨r4, u5, q3, h⟩ := bd_some h
          refine x_vv (Wf := WM ad cI) (q0 := 0) (ci := 6) (As := [.int x1, .int x3, .int (0 : Int32), .int x2]) (rest := []) S hK hP hS (k_X6_send hap q3) rfl rfl wl_X6_76 wi_X6_send ws_X6_send wz_X6 wc_X6_send hy_X6_send ⟨Nat.le_of_ble_eq_true rfl, Nat.le_of_ble_eq_true rfl⟩ hl.1 rfl (Nat.le_of_ble_eq_true rfl) dX6_askAll_20 (fun H locs hP hS => ?_)
          exact B_23 _ ih _ _ _ u5 h _ _ _ hP hS (lv_sub hl [0, 1, 2, 3] rfl)
  have B_29 : ∀ (u : Wo), fX6_askAll_29 u = some (rf, uf) → J p l e (rmk 2 48) s m args below meth c dC dI (WM ad cI) (AF ad 9) (MQ below (QV dC dI cI (WM ad cI) (AF ad 9) uf) args s 0 0 (AF ad 9)) u 29 4 [] [] := by
    intro u h H locs ls hP hS hl
    unfold fX6_askAll_29 at h
    exact x_vret S hr hlk hK hP hS h dX6_askAll_29
  intro H locs ls hP hS hl
  have hl : lv_has ls 4 [(0, .ref (ad 0)), (1, .int x1), (2, .int x2)] := hl
  unfold fX6_askAll at h
  refine lv_iconst (v := (0 : Int32)) S.1 S.2.1 dX6_askAll_0 (by decide) ?_
  refine lv_istore_n (lv' := [(3, .int (0 : Int32)), (0, .ref (ad 0)), (1, .int x1), (2, .int x2)]) S.1 S.2.1 dX6_askAll_1 rfl hl (by decide) rfl (fun ls hl => ?_)
  exact B_2 _ B_29 FU _ _ _ u h _ _ _ hP hS (lv_sub hl [1, 2, 3, 0] rfl)
theorem hy_X6_wants : yX6_wants.cls ≠ "java/lang/invoke/MethodHandle" ∧ yX6_wants.cls ≠ "java/lang/invoke/VarHandle" ∧ (parseMethodDescriptor yX6_wants.desc).map (fun d => d.parameters.length) = some 1 := by decide +kernel
set_option maxHeartbeats 4000000 in
set_option maxRecDepth 100000 in
theorem k_X6_wants {l : Launch} {dC : Nat → ClassId} {dI : Nat → Nat → Nat} {ad : Nat → Nat} {cI : ClassId} (hap : AP ad 9) {x1 : Int32} {u uf : Wo} {rf : Int32} (h : fX6_wants x1 u = some (rf, uf)) : CV l dC dI cI (WM ad cI) (AF ad 9) yX6_wants cX6_wants 3 none 3 72 [.ref (ad 0), .int x1] u uf := by
  refine cv_begin (by decide) (Nat.le_of_ble_eq_true rfl) ?_
  intro p e s m args below meth c S hr hlk hK
  have B_165 : ∀ (u : Wo), fX6_wants_165 u = some (rf, uf) → J p l e (rmk 3 72) s m args below meth c dC dI (WM ad cI) (AF ad 9) (MQ below (QV dC dI cI (WM ad cI) (AF ad 9) uf) args s 0 0 (AF ad 9)) u 165 3 [] [] := by
    intro u h H locs ls hP hS hl
    unfold fX6_wants_165 at h
    exact x_vret S hr hlk hK hP hS h dX6_wants_165
  intro H locs ls hP hS hl
  have hl : lv_has ls 3 [(0, .ref (ad 0)), (1, .int x1)] := hl
  unfold fX6_wants at h
  refine lv_bipush (v := (21 : Int32)) S.1 S.2.1 dX6_wants_0 (by decide) ?_
  refine lv_iload_n S.1 S.2.1 dX6_wants_2 rfl (lv_at hl 1 rfl) ?_
  refine lv_imul S.1 S.2.1 dX6_wants_3 ?_
  refine lv_istore_n (lv' := [(2, .int ((21 : Int32) * x1)), (0, .ref (ad 0)), (1, .int x1)]) S.1 S.2.1 dX6_wants_4 rfl hl (by decide) rfl (fun ls hl => ?_)
  refine lv_aload_n S.1 S.2.1 dX6_wants_5 rfl (lv_at hl 1 rfl) ?_
  refine gM_0_st S hK hP wf_X6_17 dX6_wants_6 ?_
  refine lv_iload_n S.1 S.2.1 dX6_wants_9 rfl (lv_at hl 0 rfl) ?_
  refine lv_iconst (v := (0 : Int32)) S.1 S.2.1 dX6_wants_10 (by decide) ?_
  refine lv_iadd S.1 S.2.1 dX6_wants_11 ?_
  refine lv_iconst (v := (1 : Int32)) S.1 S.2.1 dX6_wants_12 (by decide) ?_
  obtain ⟨q1, h⟩ := gi_some h
  obtain ⟨u2, hu2, h⟩ := bw_some h
  refine tM_2 S hK hap hP hS q1 dX6_wants_13 hu2 (fun H locs hP hS => ?_)
  refine lv_aload_n S.1 S.2.1 dX6_wants_14 rfl (lv_at hl 1 rfl) ?_
  refine gM_0_ex S hK hP wf_X6_20 dX6_wants_15 ?_
  refine lv_iconst (v := (1 : Int32)) S.1 S.2.1 dX6_wants_18 (by decide) ?_
  refine lv_iload_n S.1 S.2.1 dX6_wants_19 rfl (lv_at hl 2 rfl) ?_
  refine lv_iadd S.1 S.2.1 dX6_wants_20 ?_
  refine lv_aload_n S.1 S.2.1 dX6_wants_21 rfl (lv_at hl 1 rfl) ?_
  refine gM_0_ex S hK hP wf_X6_20 dX6_wants_22 ?_
  refine lv_iconst (v := (0 : Int32)) S.1 S.2.1 dX6_wants_25 (by decide) ?_
  obtain ⟨q3, h⟩ := gi_some h
  refine lM_3 S hK hP q3 dX6_wants_26 ?_
  obtain ⟨q4, h⟩ := gi_some h
  obtain ⟨u5, hu5, h⟩ := bw_some h
  refine tM_3 S hK hap hP hS q4 dX6_wants_27 hu5 (fun H locs hP hS => ?_)
  refine lv_aload_n S.1 S.2.1 dX6_wants_28 rfl (lv_at hl 1 rfl) ?_
  refine gM_0_way S hK hP wf_X6_66 dX6_wants_29 ?_
  refine lv_if_ne (tgt := 93) S.1 S.2.1 dX6_wants_32 (by decide) (fun c6 => ?_) (fun c6 => ?_)
  · rw [if_neg c6] at h
    refine lv_aload_n S.1 S.2.1 dX6_wants_93 rfl (lv_at hl 1 rfl) ?_
    refine gM_0_way S hK hP wf_X6_66 dX6_wants_94 ?_
    refine lv_iconst (v := (1 : Int32)) S.1 S.2.1 dX6_wants_97 (by decide) ?_
    refine lv_icmp_ne (tgt := 154) S.1 S.2.1 dX6_wants_98 (by decide) (fun c7 => ?_) (fun c7 => ?_)
    · rw [if_neg c7] at h
      refine lv_aload_n S.1 S.2.1 dX6_wants_154 rfl (lv_at hl 1 rfl) ?_
      refine lv_iload_n S.1 S.2.1 dX6_wants_155 rfl (lv_at hl 2 rfl) ?_
      refine lv_iload_n S.1 S.2.1 dX6_wants_156 rfl (lv_at hl 2 rfl) ?_
      obtain ⟨r9, u10, q8, h⟩ := bd_some h
      refine x_vv (Wf := WM ad cI) (q0 := 0) (ci := 6) (As := [.int x1, .int x1]) (rest := []) S hK hP hS (k_X6_queue hap q8) rfl rfl wl_X6_92 wi_X6_queue ws_X6_queue wz_X6 wc_X6_queue hy_X6_queue ⟨Nat.le_of_ble_eq_true rfl, Nat.le_of_ble_eq_true rfl⟩ hl.1 rfl (Nat.le_of_ble_eq_true rfl) dX6_wants_157 (fun H locs hP hS => ?_)
      refine lv_aload_n S.1 S.2.1 dX6_wants_160 rfl (lv_at hl 1 rfl) ?_
      refine lv_iload_n S.1 S.2.1 dX6_wants_161 rfl (lv_at hl 2 rfl) ?_
      obtain ⟨r12, u13, q11, h⟩ := bd_some h
      refine x_vv (Wf := WM ad cI) (q0 := 0) (ci := 6) (As := [.int x1]) (rest := []) S hK hP hS (k_X6_rules hap q11) rfl rfl wl_X6_95 wi_X6_rules ws_X6_rules wz_X6 wc_X6_rules hy_X6_rules ⟨Nat.le_of_ble_eq_true rfl, Nat.le_of_ble_eq_true rfl⟩ hl.1 rfl (Nat.le_of_ble_eq_true rfl) dX6_wants_162 (fun H locs hP hS => ?_)
      exact B_165 u13 h _ _ _ hP hS (lv_sub hl [] rfl)
    · rw [if_pos c7] at h
      refine lv_aload_n S.1 S.2.1 dX6_wants_101 rfl (lv_at hl 1 rfl) ?_
      refine gM_0_st S hK hP wf_X6_17 dX6_wants_102 ?_
      refine lv_bipush (v := (126 : Int32)) S.1 S.2.1 dX6_wants_105 (by decide) ?_
      obtain ⟨q14, h⟩ := gi_some h
      refine lM_2 S hK hP q14 dX6_wants_107 ?_
      refine lv_iload_n S.1 S.2.1 dX6_wants_108 rfl (lv_at hl 2 rfl) ?_
      refine lv_icmp_ne (tgt := 120) S.1 S.2.1 dX6_wants_109 (by decide) (fun c15 => ?_) (fun c15 => ?_)
      · rw [if_neg c15] at h
        refine lv_aload_n S.1 S.2.1 dX6_wants_120 rfl (lv_at hl 1 rfl) ?_
        refine gM_0_st S hK hP wf_X6_17 dX6_wants_121 ?_
        refine lv_iload_n S.1 S.2.1 dX6_wants_124 rfl (lv_at hl 0 rfl) ?_
        refine lv_bipush (v := (14 : Int32)) S.1 S.2.1 dX6_wants_125 (by decide) ?_
        refine lv_iadd S.1 S.2.1 dX6_wants_127 ?_
        refine lv_iload_n S.1 S.2.1 dX6_wants_128 rfl (lv_at hl 2 rfl) ?_
        refine lv_iadd S.1 S.2.1 dX6_wants_129 ?_
        refine lv_dup2_11 S.1 S.2.1 dX6_wants_130 rfl rfl ?_
        obtain ⟨q16, h⟩ := gi_some h
        refine lM_2 S hK hP q16 dX6_wants_131 ?_
        refine lv_iconst (v := (1 : Int32)) S.1 S.2.1 dX6_wants_132 (by decide) ?_
        refine lv_iadd S.1 S.2.1 dX6_wants_133 ?_
        obtain ⟨q17, h⟩ := gi_some h
        obtain ⟨u18, hu18, h⟩ := bw_some h
        refine tM_2 S hK hap hP hS q17 dX6_wants_134 hu18 (fun H locs hP hS => ?_)
        refine lv_aload_n S.1 S.2.1 dX6_wants_135 rfl (lv_at hl 1 rfl) ?_
        refine lv_iload_n S.1 S.2.1 dX6_wants_136 rfl (lv_at hl 2 rfl) ?_
        refine lv_aload_n S.1 S.2.1 dX6_wants_137 rfl (lv_at hl 1 rfl) ?_
        refine gM_0_st S hK hP wf_X6_17 dX6_wants_138 ?_
        refine lv_iload_n S.1 S.2.1 dX6_wants_141 rfl (lv_at hl 0 rfl) ?_
        refine lv_bipush (v := (14 : Int32)) S.1 S.2.1 dX6_wants_142 (by decide) ?_
        refine lv_iadd S.1 S.2.1 dX6_wants_144 ?_
        refine lv_iload_n S.1 S.2.1 dX6_wants_145 rfl (lv_at hl 2 rfl) ?_
        refine lv_iadd S.1 S.2.1 dX6_wants_146 ?_
        obtain ⟨q19, h⟩ := gi_some h
        refine lM_2 S hK hP q19 dX6_wants_147 ?_
        obtain ⟨r21, u22, q20, h⟩ := bd_some h
        refine x_vv (Wf := WM ad cI) (q0 := 0) (ci := 6) (As := [.int x1, .int (u18 2 (((((21 : Int32) * x1) + (14 : Int32)) + x1)).toNatClampNeg)]) (rest := []) S hK hP hS (k_X6_askAll hap q20) rfl rfl wl_X6_88 wi_X6_askAll ws_X6_askAll wz_X6 wc_X6_askAll hy_X6_askAll ⟨Nat.le_of_ble_eq_true rfl, Nat.le_of_ble_eq_true rfl⟩ hl.1 rfl (Nat.le_of_ble_eq_true rfl) dX6_wants_148 (fun H locs hP hS => ?_)
        refine lv_goto (tgt := 165) S.1 S.2.1 dX6_wants_151 (by decide) ?_
        exact B_165 u22 h _ _ _ hP hS (lv_sub hl [] rfl)
      · rw [if_pos c15] at h
        refine lv_aload_n S.1 S.2.1 dX6_wants_112 rfl (lv_at hl 1 rfl) ?_
        refine lv_iload_n S.1 S.2.1 dX6_wants_113 rfl (lv_at hl 2 rfl) ?_
        obtain ⟨r24, u25, q23, h⟩ := bd_some h
        refine x_vv (Wf := WM ad cI) (q0 := 0) (ci := 6) (As := [.int x1]) (rest := []) S hK hP hS (k_X6_comesIn hap q23) rfl rfl wl_X6_84 wi_X6_comesIn ws_X6_comesIn wz_X6 wc_X6_comesIn hy_X6_comesIn ⟨Nat.le_of_ble_eq_true rfl, Nat.le_of_ble_eq_true rfl⟩ hl.1 rfl (Nat.le_of_ble_eq_true rfl) dX6_wants_114 (fun H locs hP hS => ?_)
        refine lv_goto (tgt := 165) S.1 S.2.1 dX6_wants_117 (by decide) ?_
        exact B_165 u25 h _ _ _ hP hS (lv_sub hl [] rfl)
  · rw [if_pos c6] at h
    refine lv_aload_n S.1 S.2.1 dX6_wants_35 rfl (lv_at hl 1 rfl) ?_
    refine gM_0_st S hK hP wf_X6_17 dX6_wants_36 ?_
    refine lv_iload_n S.1 S.2.1 dX6_wants_39 rfl (lv_at hl 0 rfl) ?_
    refine lv_iconst (v := (1 : Int32)) S.1 S.2.1 dX6_wants_40 (by decide) ?_
    refine lv_iadd S.1 S.2.1 dX6_wants_41 ?_
    refine lv_dup2_11 S.1 S.2.1 dX6_wants_42 rfl rfl ?_
    obtain ⟨q26, h⟩ := gi_some h
    refine lM_2 S hK hP q26 dX6_wants_43 ?_
    refine lv_iconst (v := (1 : Int32)) S.1 S.2.1 dX6_wants_44 (by decide) ?_
    refine lv_iadd S.1 S.2.1 dX6_wants_45 ?_
    obtain ⟨q27, h⟩ := gi_some h
    obtain ⟨u28, hu28, h⟩ := bw_some h
    refine tM_2 S hK hap hP hS q27 dX6_wants_46 hu28 (fun H locs hP hS => ?_)
    refine lv_aload_n S.1 S.2.1 dX6_wants_47 rfl (lv_at hl 1 rfl) ?_
    refine gM_0_st S hK hP wf_X6_17 dX6_wants_48 ?_
    refine lv_iload_n S.1 S.2.1 dX6_wants_51 rfl (lv_at hl 0 rfl) ?_
    refine lv_iconst (v := (2 : Int32)) S.1 S.2.1 dX6_wants_52 (by decide) ?_
    refine lv_iadd S.1 S.2.1 dX6_wants_53 ?_
    refine lv_aload_n S.1 S.2.1 dX6_wants_54 rfl (lv_at hl 1 rfl) ?_
    refine gM_0_st S hK hP wf_X6_17 dX6_wants_55 ?_
    refine lv_iload_n S.1 S.2.1 dX6_wants_58 rfl (lv_at hl 0 rfl) ?_
    refine lv_iconst (v := (1 : Int32)) S.1 S.2.1 dX6_wants_59 (by decide) ?_
    refine lv_iadd S.1 S.2.1 dX6_wants_60 ?_
    obtain ⟨q29, h⟩ := gi_some h
    refine lM_2 S hK hP q29 dX6_wants_61 ?_
    obtain ⟨q30, h⟩ := gi_some h
    obtain ⟨u31, hu31, h⟩ := bw_some h
    refine tM_2 S hK hap hP hS q30 dX6_wants_62 hu31 (fun H locs hP hS => ?_)
    refine lv_aload_n S.1 S.2.1 dX6_wants_63 rfl (lv_at hl 1 rfl) ?_
    refine gM_0_st S hK hP wf_X6_17 dX6_wants_64 ?_
    refine lv_iload_n S.1 S.2.1 dX6_wants_67 rfl (lv_at hl 0 rfl) ?_
    refine lv_iconst (v := (3 : Int32)) S.1 S.2.1 dX6_wants_68 (by decide) ?_
    refine lv_iadd S.1 S.2.1 dX6_wants_69 ?_
    refine lv_aload_n S.1 S.2.1 dX6_wants_70 rfl (lv_at hl 1 rfl) ?_
    refine gM_0_n S hK hP wf_X6_7 dX6_wants_71 ?_
    refine lv_iconst (v := (1 : Int32)) S.1 S.2.1 dX6_wants_74 (by decide) ?_
    refine lv_isub S.1 S.2.1 dX6_wants_75 ?_
    obtain ⟨q32, h⟩ := gi_some h
    obtain ⟨u33, hu33, h⟩ := bw_some h
    refine tM_2 S hK hap hP hS q32 dX6_wants_76 hu33 (fun H locs hP hS => ?_)
    refine lv_aload_n S.1 S.2.1 dX6_wants_77 rfl (lv_at hl 1 rfl) ?_
    refine lv_iload_n S.1 S.2.1 dX6_wants_78 rfl (lv_at hl 2 rfl) ?_
    refine lv_aload_n S.1 S.2.1 dX6_wants_79 rfl (lv_at hl 1 rfl) ?_
    refine gM_0_st S hK hP wf_X6_17 dX6_wants_80 ?_
    refine lv_iload_n S.1 S.2.1 dX6_wants_83 rfl (lv_at hl 0 rfl) ?_
    refine lv_iconst (v := (2 : Int32)) S.1 S.2.1 dX6_wants_84 (by decide) ?_
    refine lv_iadd S.1 S.2.1 dX6_wants_85 ?_
    obtain ⟨q34, h⟩ := gi_some h
    refine lM_2 S hK hP q34 dX6_wants_86 ?_
    obtain ⟨r36, u37, q35, h⟩ := bd_some h
    refine x_vv (Wf := WM ad cI) (q0 := 0) (ci := 6) (As := [.int x1, .int (u33 2 ((((21 : Int32) * x1) + (2 : Int32))).toNatClampNeg)]) (rest := []) S hK hP hS (k_X6_askAll hap q35) rfl rfl wl_X6_88 wi_X6_askAll ws_X6_askAll wz_X6 wc_X6_askAll hy_X6_askAll ⟨Nat.le_of_ble_eq_true rfl, Nat.le_of_ble_eq_true rfl⟩ hl.1 rfl (Nat.le_of_ble_eq_true rfl) dX6_wants_87 (fun H locs hP hS => ?_)
    refine lv_goto (tgt := 165) S.1 S.2.1 dX6_wants_90 (by decide) ?_
    exact B_165 u37 h _ _ _ hP hS (lv_sub hl [] rfl)
theorem hy_X6_stands : yX6_stands.cls ≠ "java/lang/invoke/MethodHandle" ∧ yX6_stands.cls ≠ "java/lang/invoke/VarHandle" ∧ (parseMethodDescriptor yX6_stands.desc).map (fun d => d.parameters.length) = some 0 := by decide +kernel
set_option maxHeartbeats 4000000 in
set_option maxRecDepth 100000 in
theorem k_X6_stands {l : Launch} {dC : Nat → ClassId} {dI : Nat → Nat → Nat} {ad : Nat → Nat} {cI : ClassId} (hap : AP ad 9) {u uf : Wo} {rf : Int32} (h : fX6_stands u = some (rf, uf)) : CI l dC dI cI (WM ad cI) (AF ad 9) yX6_stands cX6_stands 2 (some .boolean) 0 0 [.ref (ad 0)] u rf uf := by
  refine ci_begin (by decide) (Nat.le_of_ble_eq_true rfl) ?_
  intro p e s m args below meth c S hr hlk hK
  have B_118 : ∀ (k152 : Wo → Re) (hk152 : ∀ (u : Wo), k152  u = some (rf, uf) → J p l e (rmk 0 0) s m args below meth c dC dI (WM ad cI) (AF ad 9) (MQ below (QI dC dI cI (WM ad cI) (AF ad 9) rf uf) args s 0 0 (AF ad 9)) u 152 2 [(0, .ref (ad 0))] []) (n : Nat) (x1 : Int32) (u : Wo), fX6_stands_118 k152 n x1 u = some (rf, uf) → J p l e (rmk 0 0) s m args below meth c dC dI (WM ad cI) (AF ad 9) (MQ below (QI dC dI cI (WM ad cI) (AF ad 9) rf uf) args s 0 0 (AF ad 9)) u 118 2 [(0, .ref (ad 0)), (1, .int x1)] [] := by
    intro k152 hk152
    intro n
    induction n with
    | zero => intro x1 u h; cases h
    | succ n ih =>
      intro x1 u h H locs ls hP hS hl
      rw [fX6_stands_118.eq_2] at h
      refine lv_iload_n S.1 S.2.1 dX6_stands_118 rfl (lv_at hl 1 rfl) ?_
      refine lv_sipush (v := (1230 : Int32)) S.1 S.2.1 dX6_stands_119 (by decide) ?_
      refine lv_icmp_ge (tgt := 152) S.1 S.2.1 dX6_stands_122 (by decide) (fun c3 => ?_) (fun c3 => ?_)
      · rw [if_pos c3] at h
        exact hk152 u h _ _ _ hP hS (lv_sub hl [0] rfl)
      · rw [if_neg c3] at h
        refine lv_aload_n S.1 S.2.1 dX6_stands_125 rfl (lv_at hl 0 rfl) ?_
        refine gM_0_was S hK hP wf_X6_28 dX6_stands_126 ?_
        refine lv_sipush (v := (1230 : Int32)) S.1 S.2.1 dX6_stands_129 (by decide) ?_
        refine lv_aload_n S.1 S.2.1 dX6_stands_132 rfl (lv_at hl 0 rfl) ?_
        refine gM_0_kept S hK hP wf_X6_54 dX6_stands_133 ?_
        refine lv_imul S.1 S.2.1 dX6_stands_136 ?_
        refine lv_iload_n S.1 S.2.1 dX6_stands_137 rfl (lv_at hl 1 rfl) ?_
        refine lv_iadd S.1 S.2.1 dX6_stands_138 ?_
        refine lv_aload_n S.1 S.2.1 dX6_stands_139 rfl (lv_at hl 0 rfl) ?_
        refine gM_0_back S hK hP wf_X6_31 dX6_stands_140 ?_
        refine lv_iload_n S.1 S.2.1 dX6_stands_143 rfl (lv_at hl 1 rfl) ?_
        obtain ⟨q4, h⟩ := gi_some h
        refine lM_5 S hK hP q4 dX6_stands_144 ?_
        obtain ⟨q5, h⟩ := gi_some h
        obtain ⟨u6, hu6, h⟩ := bw_some h
        refine tM_4 S hK hap hP hS q5 dX6_stands_145 hu6 (fun H locs hP hS => ?_)
        refine lv_iinc (v := (x1 + (1 : Int32))) (lv' := [(1, .int (x1 + (1 : Int32))), (0, .ref (ad 0))]) S.1 S.2.1 dX6_stands_146 hl (k := 1) rfl rfl (by decide) rfl (fun ls hl => ?_)
        refine lv_goto (tgt := 118) S.1 S.2.1 dX6_stands_149 (by decide) ?_
        exact ih _ u6 h _ _ _ hP hS (lv_sub hl [1, 0] rfl)
  have B_152 : ∀ (u : Wo), fX6_stands_152 u = some (rf, uf) → J p l e (rmk 0 0) s m args below meth c dC dI (WM ad cI) (AF ad 9) (MQ below (QI dC dI cI (WM ad cI) (AF ad 9) rf uf) args s 0 0 (AF ad 9)) u 152 2 [(0, .ref (ad 0))] [] := by
    intro u h H locs ls hP hS hl
    unfold fX6_stands_152 at h
    refine lv_aload_n S.1 S.2.1 dX6_stands_152 rfl (lv_at hl 0 rfl) ?_
    refine lv_dup S.1 S.2.1 dX6_stands_153 rfl ?_
    refine gM_0_kept S hK hP wf_X6_54 dX6_stands_154 ?_
    refine lv_iconst (v := (1 : Int32)) S.1 S.2.1 dX6_stands_157 (by decide) ?_
    refine lv_iadd S.1 S.2.1 dX6_stands_158 ?_
    obtain ⟨u7, hu7, h⟩ := bw_some h
    refine pM_0_kept S hK hap hP hS wf_X6_54 dX6_stands_159 hu7 (fun H locs hP hS => ?_)
    refine lv_aload_n S.1 S.2.1 dX6_stands_162 rfl (lv_at hl 0 rfl) ?_
    refine lv_iconst (v := (1 : Int32)) S.1 S.2.1 dX6_stands_163 (by decide) ?_
    obtain ⟨u8, hu8, h⟩ := bw_some h
    refine pM_0_acted S hK hap hP hS wf_X6_57 dX6_stands_164 (by decide) hu8 (fun H locs hP hS => ?_)
    refine lv_iconst (v := (1 : Int32)) S.1 S.2.1 dX6_stands_167 (by decide) ?_
    exact x_zret S hr hlk hK hP hS (by decide) h dX6_stands_168
  have B_116 : ∀ (u : Wo), fX6_stands_116 u = some (rf, uf) → J p l e (rmk 0 0) s m args below meth c dC dI (WM ad cI) (AF ad 9) (MQ below (QI dC dI cI (WM ad cI) (AF ad 9) rf uf) args s 0 0 (AF ad 9)) u 116 2 [(0, .ref (ad 0))] [] := by
    intro u h H locs ls hP hS hl
    unfold fX6_stands_116 at h
    refine lv_iconst (v := (0 : Int32)) S.1 S.2.1 dX6_stands_116 (by decide) ?_
    refine lv_istore_n (lv' := [(1, .int (0 : Int32)), (0, .ref (ad 0))]) S.1 S.2.1 dX6_stands_117 rfl hl (by decide) rfl (fun ls hl => ?_)
    exact B_118 _ B_152 FU _ u h _ _ _ hP hS (lv_sub hl [1, 0] rfl)
  have B_78 : ∀ (k106 : Wo → Re) (hk106 : ∀ (u : Wo), k106  u = some (rf, uf) → J p l e (rmk 0 0) s m args below meth c dC dI (WM ad cI) (AF ad 9) (MQ below (QI dC dI cI (WM ad cI) (AF ad 9) rf uf) args s 0 0 (AF ad 9)) u 106 2 [(0, .ref (ad 0))] []) (n : Nat) (x1 : Int32) (u : Wo), fX6_stands_78 k106 n x1 u = some (rf, uf) → J p l e (rmk 0 0) s m args below meth c dC dI (WM ad cI) (AF ad 9) (MQ below (QI dC dI cI (WM ad cI) (AF ad 9) rf uf) args s 0 0 (AF ad 9)) u 78 2 [(0, .ref (ad 0)), (1, .int x1)] [] := by
    intro k106 hk106
    intro n
    induction n with
    | zero => intro x1 u h; cases h
    | succ n ih =>
      intro x1 u h H locs ls hP hS hl
      rw [fX6_stands_78.eq_2] at h
      refine lv_iload_n S.1 S.2.1 dX6_stands_78 rfl (lv_at hl 1 rfl) ?_
      refine x_ldc S wk_X6_112 dX6_stands_79 ?_
      refine lv_icmp_ge (tgt := 106) S.1 S.2.1 dX6_stands_81 (by decide) (fun c9 => ?_) (fun c9 => ?_)
      · rw [if_pos c9] at h
        exact hk106 u h _ _ _ hP hS (lv_sub hl [0] rfl)
      · rw [if_neg c9] at h
        refine lv_aload_n S.1 S.2.1 dX6_stands_84 rfl (lv_at hl 0 rfl) ?_
        refine gM_0_was S hK hP wf_X6_28 dX6_stands_85 ?_
        refine lv_iload_n S.1 S.2.1 dX6_stands_88 rfl (lv_at hl 1 rfl) ?_
        refine lv_aload_n S.1 S.2.1 dX6_stands_89 rfl (lv_at hl 0 rfl) ?_
        refine gM_0_was S hK hP wf_X6_28 dX6_stands_90 ?_
        refine lv_iload_n S.1 S.2.1 dX6_stands_93 rfl (lv_at hl 1 rfl) ?_
        refine lv_sipush (v := (1230 : Int32)) S.1 S.2.1 dX6_stands_94 (by decide) ?_
        refine lv_iadd S.1 S.2.1 dX6_stands_97 ?_
        obtain ⟨q10, h⟩ := gi_some h
        refine lM_4 S hK hP q10 dX6_stands_98 ?_
        obtain ⟨q11, h⟩ := gi_some h
        obtain ⟨u12, hu12, h⟩ := bw_some h
        refine tM_4 S hK hap hP hS q11 dX6_stands_99 hu12 (fun H locs hP hS => ?_)
        refine lv_iinc (v := (x1 + (1 : Int32))) (lv' := [(1, .int (x1 + (1 : Int32))), (0, .ref (ad 0))]) S.1 S.2.1 dX6_stands_100 hl (k := 1) rfl rfl (by decide) rfl (fun ls hl => ?_)
        refine lv_goto (tgt := 78) S.1 S.2.1 dX6_stands_103 (by decide) ?_
        exact ih _ u12 h _ _ _ hP hS (lv_sub hl [1, 0] rfl)
  have B_106 : ∀ (u : Wo), fX6_stands_106 u = some (rf, uf) → J p l e (rmk 0 0) s m args below meth c dC dI (WM ad cI) (AF ad 9) (MQ below (QI dC dI cI (WM ad cI) (AF ad 9) rf uf) args s 0 0 (AF ad 9)) u 106 2 [(0, .ref (ad 0))] [] := by
    intro u h H locs ls hP hS hl
    unfold fX6_stands_106 at h
    refine lv_aload_n S.1 S.2.1 dX6_stands_106 rfl (lv_at hl 0 rfl) ?_
    refine lv_dup S.1 S.2.1 dX6_stands_107 rfl ?_
    refine gM_0_kept S hK hP wf_X6_54 dX6_stands_108 ?_
    refine lv_iconst (v := (1 : Int32)) S.1 S.2.1 dX6_stands_111 (by decide) ?_
    refine lv_isub S.1 S.2.1 dX6_stands_112 ?_
    obtain ⟨u13, hu13, h⟩ := bw_some h
    refine pM_0_kept S hK hap hP hS wf_X6_54 dX6_stands_113 hu13 (fun H locs hP hS => ?_)
    exact B_116 u13 h _ _ _ hP hS (lv_sub hl [0] rfl)
  have B_9 : ∀ (k34 : Wo → Re) (hk34 : ∀ (u : Wo), k34  u = some (rf, uf) → J p l e (rmk 0 0) s m args below meth c dC dI (WM ad cI) (AF ad 9) (MQ below (QI dC dI cI (WM ad cI) (AF ad 9) rf uf) args s 0 0 (AF ad 9)) u 34 2 [(0, .ref (ad 0))] []) (n : Nat) (x1 : Int32) (u : Wo), fX6_stands_9 k34 n x1 u = some (rf, uf) → J p l e (rmk 0 0) s m args below meth c dC dI (WM ad cI) (AF ad 9) (MQ below (QI dC dI cI (WM ad cI) (AF ad 9) rf uf) args s 0 0 (AF ad 9)) u 9 2 [(0, .ref (ad 0)), (1, .int x1)] [] := by
    intro k34 hk34
    intro n
    induction n with
    | zero => intro x1 u h; cases h
    | succ n ih =>
      intro x1 u h H locs ls hP hS hl
      rw [fX6_stands_9.eq_2] at h
      refine lv_iload_n S.1 S.2.1 dX6_stands_9 rfl (lv_at hl 1 rfl) ?_
      refine lv_sipush (v := (1040 : Int32)) S.1 S.2.1 dX6_stands_10 (by decide) ?_
      refine lv_icmp_ge (tgt := 34) S.1 S.2.1 dX6_stands_13 (by decide) (fun c14 => ?_) (fun c14 => ?_)
      · rw [if_pos c14] at h
        exact hk34 u h _ _ _ hP hS (lv_sub hl [0] rfl)
      · rw [if_neg c14] at h
        refine lv_aload_n S.1 S.2.1 dX6_stands_16 rfl (lv_at hl 0 rfl) ?_
        refine gM_0_st S hK hP wf_X6_17 dX6_stands_17 ?_
        refine lv_iload_n S.1 S.2.1 dX6_stands_20 rfl (lv_at hl 1 rfl) ?_
        refine lv_aload_n S.1 S.2.1 dX6_stands_21 rfl (lv_at hl 0 rfl) ?_
        refine gM_0_back S hK hP wf_X6_31 dX6_stands_22 ?_
        refine lv_iload_n S.1 S.2.1 dX6_stands_25 rfl (lv_at hl 1 rfl) ?_
        obtain ⟨q15, h⟩ := gi_some h
        refine lM_5 S hK hP q15 dX6_stands_26 ?_
        obtain ⟨q16, h⟩ := gi_some h
        obtain ⟨u17, hu17, h⟩ := bw_some h
        refine tM_2 S hK hap hP hS q16 dX6_stands_27 hu17 (fun H locs hP hS => ?_)
        refine lv_iinc (v := (x1 + (1 : Int32))) (lv' := [(1, .int (x1 + (1 : Int32))), (0, .ref (ad 0))]) S.1 S.2.1 dX6_stands_28 hl (k := 1) rfl rfl (by decide) rfl (fun ls hl => ?_)
        refine lv_goto (tgt := 9) S.1 S.2.1 dX6_stands_31 (by decide) ?_
        exact ih _ u17 h _ _ _ hP hS (lv_sub hl [1, 0] rfl)
  have B_36 : ∀ (k65 : Wo → Re) (hk65 : ∀ (u : Wo), k65  u = some (rf, uf) → J p l e (rmk 0 0) s m args below meth c dC dI (WM ad cI) (AF ad 9) (MQ below (QI dC dI cI (WM ad cI) (AF ad 9) rf uf) args s 0 0 (AF ad 9)) u 65 2 [] []) (n : Nat) (x1 : Int32) (u : Wo), fX6_stands_36 k65 n x1 u = some (rf, uf) → J p l e (rmk 0 0) s m args below meth c dC dI (WM ad cI) (AF ad 9) (MQ below (QI dC dI cI (WM ad cI) (AF ad 9) rf uf) args s 0 0 (AF ad 9)) u 36 2 [(0, .ref (ad 0)), (1, .int x1)] [] := by
    intro k65 hk65
    intro n
    induction n with
    | zero => intro x1 u h; cases h
    | succ n ih =>
      intro x1 u h H locs ls hP hS hl
      rw [fX6_stands_36.eq_2] at h
      refine lv_iload_n S.1 S.2.1 dX6_stands_36 rfl (lv_at hl 1 rfl) ?_
      refine lv_sipush (v := (190 : Int32)) S.1 S.2.1 dX6_stands_37 (by decide) ?_
      refine lv_icmp_ge (tgt := 65) S.1 S.2.1 dX6_stands_40 (by decide) (fun c18 => ?_) (fun c18 => ?_)
      · rw [if_pos c18] at h
        exact hk65 u h _ _ _ hP hS (lv_sub hl [] rfl)
      · rw [if_neg c18] at h
        refine lv_aload_n S.1 S.2.1 dX6_stands_43 rfl (lv_at hl 0 rfl) ?_
        refine gM_0_ex S hK hP wf_X6_20 dX6_stands_44 ?_
        refine lv_iload_n S.1 S.2.1 dX6_stands_47 rfl (lv_at hl 1 rfl) ?_
        refine lv_aload_n S.1 S.2.1 dX6_stands_48 rfl (lv_at hl 0 rfl) ?_
        refine gM_0_back S hK hP wf_X6_31 dX6_stands_49 ?_
        refine lv_sipush (v := (1040 : Int32)) S.1 S.2.1 dX6_stands_52 (by decide) ?_
        refine lv_iload_n S.1 S.2.1 dX6_stands_55 rfl (lv_at hl 1 rfl) ?_
        refine lv_iadd S.1 S.2.1 dX6_stands_56 ?_
        obtain ⟨q19, h⟩ := gi_some h
        refine lM_5 S hK hP q19 dX6_stands_57 ?_
        obtain ⟨q20, h⟩ := gi_some h
        obtain ⟨u21, hu21, h⟩ := bw_some h
        refine tM_3 S hK hap hP hS q20 dX6_stands_58 hu21 (fun H locs hP hS => ?_)
        refine lv_iinc (v := (x1 + (1 : Int32))) (lv' := [(1, .int (x1 + (1 : Int32))), (0, .ref (ad 0))]) S.1 S.2.1 dX6_stands_59 hl (k := 1) rfl rfl (by decide) rfl (fun ls hl => ?_)
        refine lv_goto (tgt := 36) S.1 S.2.1 dX6_stands_62 (by decide) ?_
        exact ih _ u21 h _ _ _ hP hS (lv_sub hl [1, 0] rfl)
  have B_65 : ∀ (u : Wo), fX6_stands_65 u = some (rf, uf) → J p l e (rmk 0 0) s m args below meth c dC dI (WM ad cI) (AF ad 9) (MQ below (QI dC dI cI (WM ad cI) (AF ad 9) rf uf) args s 0 0 (AF ad 9)) u 65 2 [] [] := by
    intro u h H locs ls hP hS hl
    unfold fX6_stands_65 at h
    refine lv_iconst (v := (0 : Int32)) S.1 S.2.1 dX6_stands_65 (by decide) ?_
    exact x_zret S hr hlk hK hP hS (by decide) h dX6_stands_66
  have B_34 : ∀ (u : Wo), fX6_stands_34 u = some (rf, uf) → J p l e (rmk 0 0) s m args below meth c dC dI (WM ad cI) (AF ad 9) (MQ below (QI dC dI cI (WM ad cI) (AF ad 9) rf uf) args s 0 0 (AF ad 9)) u 34 2 [(0, .ref (ad 0))] [] := by
    intro u h H locs ls hP hS hl
    unfold fX6_stands_34 at h
    refine lv_iconst (v := (0 : Int32)) S.1 S.2.1 dX6_stands_34 (by decide) ?_
    refine lv_istore_n (lv' := [(1, .int (0 : Int32)), (0, .ref (ad 0))]) S.1 S.2.1 dX6_stands_35 rfl hl (by decide) rfl (fun ls hl => ?_)
    exact B_36 _ B_65 FU _ u h _ _ _ hP hS (lv_sub hl [1, 0] rfl)
  intro H locs ls hP hS hl
  have hl : lv_has ls 2 [(0, .ref (ad 0))] := hl
  unfold fX6_stands at h
  refine lv_aload_n S.1 S.2.1 dX6_stands_0 rfl (lv_at hl 0 rfl) ?_
  refine gM_0_isOver S hK hP wf_X6_73 dX6_stands_1 ?_
  refine lv_if_eq (tgt := 67) S.1 S.2.1 dX6_stands_4 (by decide) (fun c1 => ?_) (fun c1 => ?_)
  · rw [if_pos c1] at h
    refine lv_aload_n S.1 S.2.1 dX6_stands_67 rfl (lv_at hl 0 rfl) ?_
    refine gM_0_kept S hK hP wf_X6_54 dX6_stands_68 ?_
    refine lv_bipush (v := (30 : Int32)) S.1 S.2.1 dX6_stands_71 (by decide) ?_
    refine lv_icmp_ne (tgt := 116) S.1 S.2.1 dX6_stands_73 (by decide) (fun c2 => ?_) (fun c2 => ?_)
    · rw [if_neg c2] at h
      exact B_116 u h _ _ _ hP hS (lv_sub hl [0] rfl)
    · rw [if_pos c2] at h
      refine lv_iconst (v := (0 : Int32)) S.1 S.2.1 dX6_stands_76 (by decide) ?_
      refine lv_istore_n (lv' := [(1, .int (0 : Int32)), (0, .ref (ad 0))]) S.1 S.2.1 dX6_stands_77 rfl hl (by decide) rfl (fun ls hl => ?_)
      exact B_78 _ B_106 FU _ u h _ _ _ hP hS (lv_sub hl [1, 0] rfl)
  · rw [if_neg c1] at h
    refine lv_iconst (v := (0 : Int32)) S.1 S.2.1 dX6_stands_7 (by decide) ?_
    refine lv_istore_n (lv' := [(1, .int (0 : Int32)), (0, .ref (ad 0))]) S.1 S.2.1 dX6_stands_8 rfl hl (by decide) rfl (fun ls hl => ?_)
    exact B_9 _ B_34 FU _ u h _ _ _ hP hS (lv_sub hl [1, 0] rfl)
theorem hy_X6_want : yX6_want.cls ≠ "java/lang/invoke/MethodHandle" ∧ yX6_want.cls ≠ "java/lang/invoke/VarHandle" ∧ (parseMethodDescriptor yX6_want.desc).map (fun d => d.parameters.length) = some 1 := by decide +kernel
set_option maxHeartbeats 4000000 in
set_option maxRecDepth 100000 in
theorem k_X6_want {l : Launch} {dC : Nat → ClassId} {dI : Nat → Nat → Nat} {ad : Nat → Nat} {cI : ClassId} (hap : AP ad 9) {x1 : Int32} {u uf : Wo} {rf : Int32} (h : fX6_want x1 u = some (rf, uf)) : CI l dC dI cI (WM ad cI) (AF ad 9) yX6_want cX6_want 2 (some .int) 4 94 [.ref (ad 0), .int x1] u rf uf := by
  refine ci_begin (by decide) (Nat.le_of_ble_eq_true rfl) ?_
  intro p e s m args below meth c S hr hlk hK
  have B_68 : ∀ (s0 : Int32) (u : Wo), fX6_want_68 s0 u = some (rf, uf) → J p l e (rmk 4 94) s m args below meth c dC dI (WM ad cI) (AF ad 9) (MQ below (QI dC dI cI (WM ad cI) (AF ad 9) rf uf) args s 0 0 (AF ad 9)) u 68 2 [] [.int s0] := by
    intro s0 u h H locs ls hP hS hl
    unfold fX6_want_68 at h
    exact x_iret S hr hlk hK hP hS h dX6_want_68
  intro H locs ls hP hS hl
  have hl : lv_has ls 2 [(0, .ref (ad 0)), (1, .int x1)] := hl
  unfold fX6_want at h
  refine lv_aload_n S.1 S.2.1 dX6_want_0 rfl (lv_at hl 0 rfl) ?_
  refine lv_iload_n S.1 S.2.1 dX6_want_1 rfl (lv_at hl 1 rfl) ?_
  obtain ⟨r2, u3, q1, h⟩ := bd_some h
  refine x_vi (Wf := WM ad cI) (q0 := 0) (ci := 6) (As := [.int x1]) (rest := []) S hK hP hS (k_X6_isKeeper hap q1) rfl rfl wl_X6_113 wi_X6_isKeeper ws_X6_isKeeper wz_X6 wc_X6_isKeeper hy_X6_isKeeper ⟨Nat.le_of_ble_eq_true rfl, Nat.le_of_ble_eq_true rfl⟩ hl.1 rfl (Nat.le_of_ble_eq_true rfl) dX6_want_2 (fun H locs hP hS => ?_)
  refine lv_if_ne (tgt := 10) S.1 S.2.1 dX6_want_5 (by decide) (fun c4 => ?_) (fun c4 => ?_)
  · rw [if_neg c4] at h
    refine lv_aload_n S.1 S.2.1 dX6_want_10 rfl (lv_at hl 0 rfl) ?_
    refine gM_0_st S hK hP wf_X6_17 dX6_want_11 ?_
    refine lv_bipush (v := (21 : Int32)) S.1 S.2.1 dX6_want_14 (by decide) ?_
    refine lv_iload_n S.1 S.2.1 dX6_want_16 rfl (lv_at hl 1 rfl) ?_
    refine lv_imul S.1 S.2.1 dX6_want_17 ?_
    refine lv_iconst (v := (0 : Int32)) S.1 S.2.1 dX6_want_18 (by decide) ?_
    refine lv_iadd S.1 S.2.1 dX6_want_19 ?_
    obtain ⟨q5, h⟩ := gi_some h
    refine lM_2 S hK hP q5 dX6_want_20 ?_
    refine lv_if_eq (tgt := 27) S.1 S.2.1 dX6_want_21 (by decide) (fun c6 => ?_) (fun c6 => ?_)
    · rw [if_pos c6] at h
      refine lv_aload_n S.1 S.2.1 dX6_want_27 rfl (lv_at hl 0 rfl) ?_
      obtain ⟨r8, u9, q7, h⟩ := bd_some h
      refine x_vv (Wf := WM ad cI) (q0 := 0) (ci := 6) (As := []) (rest := []) S hK hP hS (k_X6_store hap q7) rfl rfl wl_X6_116 wi_X6_store ws_X6_store wz_X6 wc_X6_store hy_X6_store ⟨Nat.le_of_ble_eq_true rfl, Nat.le_of_ble_eq_true rfl⟩ hl.1 rfl (Nat.le_of_ble_eq_true rfl) dX6_want_28 (fun H locs hP hS => ?_)
      refine lv_aload_n S.1 S.2.1 dX6_want_31 rfl (lv_at hl 0 rfl) ?_
      refine lv_iload_n S.1 S.2.1 dX6_want_32 rfl (lv_at hl 1 rfl) ?_
      obtain ⟨r11, u12, q10, h⟩ := bd_some h
      refine x_vv (Wf := WM ad cI) (q0 := 0) (ci := 6) (As := [.int x1]) (rest := []) S hK hP hS (k_X6_wants hap q10) rfl rfl wl_X6_119 wi_X6_wants ws_X6_wants wz_X6 wc_X6_wants hy_X6_wants ⟨Nat.le_of_ble_eq_true rfl, Nat.le_of_ble_eq_true rfl⟩ hl.1 rfl (Nat.le_of_ble_eq_true rfl) dX6_want_33 (fun H locs hP hS => ?_)
      refine lv_aload_n S.1 S.2.1 dX6_want_36 rfl (lv_at hl 0 rfl) ?_
      obtain ⟨r14, u15, q13, h⟩ := bd_some h
      refine x_vi (Wf := WM ad cI) (q0 := 0) (ci := 6) (As := []) (rest := []) S hK hP hS (k_X6_stands hap q13) rfl rfl wl_X6_122 wi_X6_stands ws_X6_stands wz_X6 wc_X6_stands hy_X6_stands ⟨Nat.le_of_ble_eq_true rfl, Nat.le_of_ble_eq_true rfl⟩ hl.1 rfl (Nat.le_of_ble_eq_true rfl) dX6_want_37 (fun H locs hP hS => ?_)
      refine lv_if_ne (tgt := 48) S.1 S.2.1 dX6_want_40 (by decide) (fun c16 => ?_) (fun c16 => ?_)
      · rw [if_neg c16] at h
        refine lv_aload_n S.1 S.2.1 dX6_want_48 rfl (lv_at hl 0 rfl) ?_
        refine gM_0_st S hK hP wf_X6_17 dX6_want_49 ?_
        refine lv_bipush (v := (21 : Int32)) S.1 S.2.1 dX6_want_52 (by decide) ?_
        refine lv_iload_n S.1 S.2.1 dX6_want_54 rfl (lv_at hl 1 rfl) ?_
        refine lv_imul S.1 S.2.1 dX6_want_55 ?_
        refine lv_iconst (v := (0 : Int32)) S.1 S.2.1 dX6_want_56 (by decide) ?_
        refine lv_iadd S.1 S.2.1 dX6_want_57 ?_
        obtain ⟨q17, h⟩ := gi_some h
        refine lM_2 S hK hP q17 dX6_want_58 ?_
        refine lv_iconst (v := (2 : Int32)) S.1 S.2.1 dX6_want_59 (by decide) ?_
        refine lv_icmp_ne (tgt := 67) S.1 S.2.1 dX6_want_60 (by decide) (fun c18 => ?_) (fun c18 => ?_)
        · rw [if_neg c18] at h
          refine lv_iconst (v := (0 : Int32)) S.1 S.2.1 dX6_want_67 (by decide) ?_
          exact B_68 _ u15 h _ _ _ hP hS (lv_sub hl [] rfl)
        · rw [if_pos c18] at h
          refine lv_iconst (v := (1 : Int32)) S.1 S.2.1 dX6_want_63 (by decide) ?_
          refine lv_goto (tgt := 68) S.1 S.2.1 dX6_want_64 (by decide) ?_
          exact B_68 _ u15 h _ _ _ hP hS (lv_sub hl [] rfl)
      · rw [if_pos c16] at h
        refine lv_bipush (v := (-3 : Int32)) S.1 S.2.1 dX6_want_43 (by decide) ?_
        refine lv_goto (tgt := 68) S.1 S.2.1 dX6_want_45 (by decide) ?_
        exact B_68 _ u15 h _ _ _ hP hS (lv_sub hl [] rfl)
    · rw [if_neg c6] at h
      refine lv_bipush (v := (-2 : Int32)) S.1 S.2.1 dX6_want_24 (by decide) ?_
      exact x_iret S hr hlk hK hP hS h dX6_want_26
  · rw [if_pos c4] at h
    refine lv_iconst (v := (-1 : Int32)) S.1 S.2.1 dX6_want_8 (by decide) ?_
    exact x_iret S hr hlk hK hP hS h dX6_want_9
theorem hy_X6_isRowed : yX6_isRowed.cls ≠ "java/lang/invoke/MethodHandle" ∧ yX6_isRowed.cls ≠ "java/lang/invoke/VarHandle" ∧ (parseMethodDescriptor yX6_isRowed.desc).map (fun d => d.parameters.length) = some 1 := by decide +kernel
set_option maxHeartbeats 4000000 in
set_option maxRecDepth 100000 in
theorem k_X6_isRowed {l : Launch} {dC : Nat → ClassId} {dI : Nat → Nat → Nat} {ad : Nat → Nat} {cI : ClassId} (hap : AP ad 9) {x1 : Int32} {u uf : Wo} {rf : Int32} (h : fX6_isRowed x1 u = some (rf, uf)) : CI l dC dI cI (WM ad cI) (AF ad 9) yX6_isRowed cX6_isRowed 4 (some .boolean) 0 0 [.ref (ad 0), .int x1] u rf uf := by
  refine ci_begin (by decide) (Nat.le_of_ble_eq_true rfl) ?_
  intro p e s m args below meth c S hr hlk hK
  have B_39 : ∀ (k4 : Int32 → Int32 → Int32 → Wo → Re) (hk4 : ∀ (x1 : Int32) (x2 : Int32) (x3 : Int32) (u : Wo), k4 x1 x2 x3 u = some (rf, uf) → J p l e (rmk 0 0) s m args below meth c dC dI (WM ad cI) (AF ad 9) (MQ below (QI dC dI cI (WM ad cI) (AF ad 9) rf uf) args s 0 0 (AF ad 9)) u 4 4 [(0, .ref (ad 0)), (1, .int x1), (2, .int x2), (3, .int x3)] []) (x1 : Int32) (x3 : Int32) (s0 : Int32) (u : Wo), fX6_isRowed_39 k4 x1 x3 s0 u = some (rf, uf) → J p l e (rmk 0 0) s m args below meth c dC dI (WM ad cI) (AF ad 9) (MQ below (QI dC dI cI (WM ad cI) (AF ad 9) rf uf) args s 0 0 (AF ad 9)) u 39 4 [(0, .ref (ad 0)), (1, .int x1), (3, .int x3)] [.int s0] := by
    intro k4 hk4 x1 x3 s0 u h H locs ls hP hS hl
    unfold fX6_isRowed_39 at h
    refine lv_istore_n (lv' := [(2, .int s0), (0, .ref (ad 0)), (1, .int x1), (3, .int x3)]) S.1 S.2.1 dX6_isRowed_39 rfl hl (by decide) rfl (fun ls hl => ?_)
    refine lv_iinc (v := (x3 + (1 : Int32))) (lv' := [(3, .int (x3 + (1 : Int32))), (2, .int s0), (0, .ref (ad 0)), (1, .int x1)]) S.1 S.2.1 dX6_isRowed_40 hl (k := 3) rfl rfl (by decide) rfl (fun ls hl => ?_)
    refine lv_goto (tgt := 4) S.1 S.2.1 dX6_isRowed_43 (by decide) ?_
    exact hk4 _ _ _ u h _ _ _ hP hS (lv_sub hl [2, 3, 1, 0] rfl)
  have B_34 : ∀ (k4 : Int32 → Int32 → Int32 → Wo → Re) (hk4 : ∀ (x1 : Int32) (x2 : Int32) (x3 : Int32) (u : Wo), k4 x1 x2 x3 u = some (rf, uf) → J p l e (rmk 0 0) s m args below meth c dC dI (WM ad cI) (AF ad 9) (MQ below (QI dC dI cI (WM ad cI) (AF ad 9) rf uf) args s 0 0 (AF ad 9)) u 4 4 [(0, .ref (ad 0)), (1, .int x1), (2, .int x2), (3, .int x3)] []) (x1 : Int32) (x3 : Int32) (u : Wo), fX6_isRowed_34 k4 x1 x3 u = some (rf, uf) → J p l e (rmk 0 0) s m args below meth c dC dI (WM ad cI) (AF ad 9) (MQ below (QI dC dI cI (WM ad cI) (AF ad 9) rf uf) args s 0 0 (AF ad 9)) u 34 4 [(0, .ref (ad 0)), (1, .int x1), (3, .int x3)] [] := by
    intro k4 hk4 x1 x3 u h H locs ls hP hS hl
    unfold fX6_isRowed_34 at h
    refine lv_iconst (v := (1 : Int32)) S.1 S.2.1 dX6_isRowed_34 (by decide) ?_
    refine lv_goto (tgt := 39) S.1 S.2.1 dX6_isRowed_35 (by decide) ?_
    exact B_39 _ hk4 _ _ _ u h _ _ _ hP hS (lv_sub hl [0, 1, 2] rfl)
  have B_4 : ∀ (k46 : Int32 → Wo → Re) (hk46 : ∀ (x2 : Int32) (u : Wo), k46 x2 u = some (rf, uf) → J p l e (rmk 0 0) s m args below meth c dC dI (WM ad cI) (AF ad 9) (MQ below (QI dC dI cI (WM ad cI) (AF ad 9) rf uf) args s 0 0 (AF ad 9)) u 46 4 [(2, .int x2)] []) (n : Nat) (x1 : Int32) (x2 : Int32) (x3 : Int32) (u : Wo), fX6_isRowed_4 k46 n x1 x2 x3 u = some (rf, uf) → J p l e (rmk 0 0) s m args below meth c dC dI (WM ad cI) (AF ad 9) (MQ below (QI dC dI cI (WM ad cI) (AF ad 9) rf uf) args s 0 0 (AF ad 9)) u 4 4 [(0, .ref (ad 0)), (1, .int x1), (2, .int x2), (3, .int x3)] [] := by
    intro k46 hk46
    intro n
    induction n with
    | zero => intro x1 x2 x3 u h; cases h
    | succ n ih =>
      intro x1 x2 x3 u h H locs ls hP hS hl
      rw [fX6_isRowed_4.eq_2] at h
      refine lv_iload_n S.1 S.2.1 dX6_isRowed_4 rfl (lv_at hl 3 rfl) ?_
      refine lv_aload_n S.1 S.2.1 dX6_isRowed_5 rfl (lv_at hl 0 rfl) ?_
      refine gM_0_st S hK hP wf_X6_17 dX6_isRowed_6 ?_
      refine lv_sipush (v := (133 : Int32)) S.1 S.2.1 dX6_isRowed_9 (by decide) ?_
      obtain ⟨q1, h⟩ := gi_some h
      refine lM_2 S hK hP q1 dX6_isRowed_12 ?_
      refine lv_icmp_ge (tgt := 46) S.1 S.2.1 dX6_isRowed_13 (by decide) (fun c2 => ?_) (fun c2 => ?_)
      · rw [if_pos c2] at h
        exact hk46 _ u h _ _ _ hP hS (lv_sub hl [2] rfl)
      · rw [if_neg c2] at h
        refine lv_iload_n S.1 S.2.1 dX6_isRowed_16 rfl (lv_at hl 2 rfl) ?_
        refine lv_if_ne (tgt := 34) S.1 S.2.1 dX6_isRowed_17 (by decide) (fun c3 => ?_) (fun c3 => ?_)
        · rw [if_neg c3] at h
          exact B_34 _ ih _ _ u h _ _ _ hP hS (lv_sub hl [0, 1, 3] rfl)
        · rw [if_pos c3] at h
          refine lv_aload_n S.1 S.2.1 dX6_isRowed_20 rfl (lv_at hl 0 rfl) ?_
          refine gM_0_st S hK hP wf_X6_17 dX6_isRowed_21 ?_
          refine lv_sipush (v := (134 : Int32)) S.1 S.2.1 dX6_isRowed_24 (by decide) ?_
          refine lv_iload_n S.1 S.2.1 dX6_isRowed_27 rfl (lv_at hl 3 rfl) ?_
          refine lv_iadd S.1 S.2.1 dX6_isRowed_28 ?_
          obtain ⟨q4, h⟩ := gi_some h
          refine lM_2 S hK hP q4 dX6_isRowed_29 ?_
          refine lv_iload_n S.1 S.2.1 dX6_isRowed_30 rfl (lv_at hl 1 rfl) ?_
          refine lv_icmp_ne (tgt := 38) S.1 S.2.1 dX6_isRowed_31 (by decide) (fun c5 => ?_) (fun c5 => ?_)
          · rw [if_neg c5] at h
            refine lv_iconst (v := (0 : Int32)) S.1 S.2.1 dX6_isRowed_38 (by decide) ?_
            exact B_39 _ ih _ _ _ u h _ _ _ hP hS (lv_sub hl [0, 1, 3] rfl)
          · rw [if_pos c5] at h
            exact B_34 _ ih _ _ u h _ _ _ hP hS (lv_sub hl [0, 1, 3] rfl)
  have B_46 : ∀ (x2 : Int32) (u : Wo), fX6_isRowed_46 x2 u = some (rf, uf) → J p l e (rmk 0 0) s m args below meth c dC dI (WM ad cI) (AF ad 9) (MQ below (QI dC dI cI (WM ad cI) (AF ad 9) rf uf) args s 0 0 (AF ad 9)) u 46 4 [(2, .int x2)] [] := by
    intro x2 u h H locs ls hP hS hl
    unfold fX6_isRowed_46 at h
    refine lv_iload_n S.1 S.2.1 dX6_isRowed_46 rfl (lv_at hl 0 rfl) ?_
    obtain ⟨q6, h⟩ := gi_some h
    exact x_zret S hr hlk hK hP hS q6 h dX6_isRowed_47
  intro H locs ls hP hS hl
  have hl : lv_has ls 4 [(0, .ref (ad 0)), (1, .int x1)] := hl
  unfold fX6_isRowed at h
  refine lv_iconst (v := (0 : Int32)) S.1 S.2.1 dX6_isRowed_0 (by decide) ?_
  refine lv_istore_n (lv' := [(2, .int (0 : Int32)), (0, .ref (ad 0)), (1, .int x1)]) S.1 S.2.1 dX6_isRowed_1 rfl hl (by decide) rfl (fun ls hl => ?_)
  refine lv_iconst (v := (0 : Int32)) S.1 S.2.1 dX6_isRowed_2 (by decide) ?_
  refine lv_istore_n (lv' := [(3, .int (0 : Int32)), (2, .int (0 : Int32)), (0, .ref (ad 0)), (1, .int x1)]) S.1 S.2.1 dX6_isRowed_3 rfl hl (by decide) rfl (fun ls hl => ?_)
  exact B_4 _ B_46 FU _ _ _ u h _ _ _ hP hS (lv_sub hl [2, 3, 1, 0] rfl)
theorem hy_X6_passToken : yX6_passToken.cls ≠ "java/lang/invoke/MethodHandle" ∧ yX6_passToken.cls ≠ "java/lang/invoke/VarHandle" ∧ (parseMethodDescriptor yX6_passToken.desc).map (fun d => d.parameters.length) = some 2 := by decide +kernel
set_option maxHeartbeats 4000000 in
set_option maxRecDepth 100000 in
theorem k_X6_passToken {l : Launch} {dC : Nat → ClassId} {dI : Nat → Nat → Nat} {ad : Nat → Nat} {cI : ClassId} (hap : AP ad 9) {x1 x2 : Int32} {u uf : Wo} {rf : Int32} (h : fX6_passToken x1 x2 u = some (rf, uf)) : CV l dC dI cI (WM ad cI) (AF ad 9) yX6_passToken cX6_passToken 3 none 2 48 [.ref (ad 0), .int x1, .int x2] u uf := by
  refine cv_begin (by decide) (Nat.le_of_ble_eq_true rfl) ?_
  intro p e s m args below meth c S hr hlk hK
  intro H locs ls hP hS hl
  have hl : lv_has ls 3 [(0, .ref (ad 0)), (1, .int x1), (2, .int x2)] := hl
  unfold fX6_passToken at h
  refine lv_aload_n S.1 S.2.1 dX6_passToken_0 rfl (lv_at hl 0 rfl) ?_
  refine gM_0_st S hK hP wf_X6_17 dX6_passToken_1 ?_
  refine lv_bipush (v := (126 : Int32)) S.1 S.2.1 dX6_passToken_4 (by decide) ?_
  refine lv_bipush (v := (-4 : Int32)) S.1 S.2.1 dX6_passToken_6 (by decide) ?_
  obtain ⟨q1, h⟩ := gi_some h
  obtain ⟨u2, hu2, h⟩ := bw_some h
  refine tM_2 S hK hap hP hS q1 dX6_passToken_8 hu2 (fun H locs hP hS => ?_)
  refine lv_aload_n S.1 S.2.1 dX6_passToken_9 rfl (lv_at hl 0 rfl) ?_
  refine lv_iload_n S.1 S.2.1 dX6_passToken_10 rfl (lv_at hl 1 rfl) ?_
  refine lv_iload_n S.1 S.2.1 dX6_passToken_11 rfl (lv_at hl 2 rfl) ?_
  refine lv_iconst (v := (2 : Int32)) S.1 S.2.1 dX6_passToken_12 (by decide) ?_
  refine lv_iconst (v := (0 : Int32)) S.1 S.2.1 dX6_passToken_13 (by decide) ?_
  obtain ⟨r4, u5, q3, h⟩ := bd_some h
  refine x_vv (Wf := WM ad cI) (q0 := 0) (ci := 6) (As := [.int x1, .int x2, .int (2 : Int32), .int (0 : Int32)]) (rest := []) S hK hP hS (k_X6_send hap q3) rfl rfl wl_X6_76 wi_X6_send ws_X6_send wz_X6 wc_X6_send hy_X6_send ⟨Nat.le_of_ble_eq_true rfl, Nat.le_of_ble_eq_true rfl⟩ hl.1 rfl (Nat.le_of_ble_eq_true rfl) dX6_passToken_14 (fun H locs hP hS => ?_)
  exact x_vret S hr hlk hK hP hS h dX6_passToken_17
theorem hy_X6_leaves : yX6_leaves.cls ≠ "java/lang/invoke/MethodHandle" ∧ yX6_leaves.cls ≠ "java/lang/invoke/VarHandle" ∧ (parseMethodDescriptor yX6_leaves.desc).map (fun d => d.parameters.length) = some 1 := by decide +kernel
set_option maxHeartbeats 4000000 in
set_option maxRecDepth 100000 in
theorem k_X6_leaves {l : Launch} {dC : Nat → ClassId} {dI : Nat → Nat → Nat} {ad : Nat → Nat} {cI : ClassId} (hap : AP ad 9) {x1 : Int32} {u uf : Wo} {rf : Int32} (h : fX6_leaves x1 u = some (rf, uf)) : CV l dC dI cI (WM ad cI) (AF ad 9) yX6_leaves cX6_leaves 5 none 3 72 [.ref (ad 0), .int x1] u uf := by
  refine cv_begin (by decide) (Nat.le_of_ble_eq_true rfl) ?_
  intro p e s m args below meth c S hr hlk hK
  have B_280 : ∀ (u : Wo), fX6_leaves_280 u = some (rf, uf) → J p l e (rmk 3 72) s m args below meth c dC dI (WM ad cI) (AF ad 9) (MQ below (QV dC dI cI (WM ad cI) (AF ad 9) uf) args s 0 0 (AF ad 9)) u 280 5 [] [] := by
    intro u h H locs ls hP hS hl
    unfold fX6_leaves_280 at h
    exact x_vret S hr hlk hK hP hS h dX6_leaves_280
  have B_180 : ∀ (k109 : Int32 → Int32 → Int32 → Wo → Re) (hk109 : ∀ (x1 : Int32) (x2 : Int32) (x3 : Int32) (u : Wo), k109 x1 x2 x3 u = some (rf, uf) → J p l e (rmk 3 72) s m args below meth c dC dI (WM ad cI) (AF ad 9) (MQ below (QV dC dI cI (WM ad cI) (AF ad 9) uf) args s 0 0 (AF ad 9)) u 109 5 [(0, .ref (ad 0)), (1, .int x1), (2, .int x2), (3, .int x3)] []) (x1 : Int32) (x2 : Int32) (x3 : Int32) (u : Wo), fX6_leaves_180 k109 x1 x2 x3 u = some (rf, uf) → J p l e (rmk 3 72) s m args below meth c dC dI (WM ad cI) (AF ad 9) (MQ below (QV dC dI cI (WM ad cI) (AF ad 9) uf) args s 0 0 (AF ad 9)) u 180 5 [(0, .ref (ad 0)), (1, .int x1), (2, .int x2), (3, .int x3)] [] := by
    intro k109 hk109 x1 x2 x3 u h H locs ls hP hS hl
    unfold fX6_leaves_180 at h
    refine lv_iinc (v := (x3 + (1 : Int32))) (lv' := [(3, .int (x3 + (1 : Int32))), (0, .ref (ad 0)), (1, .int x1), (2, .int x2)]) S.1 S.2.1 dX6_leaves_180 hl (k := 3) rfl rfl (by decide) rfl (fun ls hl => ?_)
    refine lv_goto (tgt := 109) S.1 S.2.1 dX6_leaves_183 (by decide) ?_
    exact hk109 _ _ _ u h _ _ _ hP hS (lv_sub hl [1, 2, 3, 0] rfl)
  have B_109 : ∀ (k186 : Int32 → Wo → Re) (hk186 : ∀ (x1 : Int32) (u : Wo), k186 x1 u = some (rf, uf) → J p l e (rmk 3 72) s m args below meth c dC dI (WM ad cI) (AF ad 9) (MQ below (QV dC dI cI (WM ad cI) (AF ad 9) uf) args s 0 0 (AF ad 9)) u 186 5 [(0, .ref (ad 0)), (1, .int x1)] []) (n : Nat) (x1 : Int32) (x2 : Int32) (x3 : Int32) (u : Wo), fX6_leaves_109 k186 n x1 x2 x3 u = some (rf, uf) → J p l e (rmk 3 72) s m args below meth c dC dI (WM ad cI) (AF ad 9) (MQ below (QV dC dI cI (WM ad cI) (AF ad 9) uf) args s 0 0 (AF ad 9)) u 109 5 [(0, .ref (ad 0)), (1, .int x1), (2, .int x2), (3, .int x3)] [] := by
    intro k186 hk186
    intro n
    induction n with
    | zero => intro x1 x2 x3 u h; cases h
    | succ n ih =>
      intro x1 x2 x3 u h H locs ls hP hS hl
      rw [fX6_leaves_109.eq_2] at h
      refine lv_iload_n S.1 S.2.1 dX6_leaves_109 rfl (lv_at hl 3 rfl) ?_
      refine lv_aload_n S.1 S.2.1 dX6_leaves_110 rfl (lv_at hl 0 rfl) ?_
      refine gM_0_n S hK hP wf_X6_7 dX6_leaves_111 ?_
      refine lv_icmp_ge (tgt := 186) S.1 S.2.1 dX6_leaves_114 (by decide) (fun c11 => ?_) (fun c11 => ?_)
      · rw [if_pos c11] at h
        exact hk186 _ u h _ _ _ hP hS (lv_sub hl [0, 1] rfl)
      · rw [if_neg c11] at h
        refine lv_aload_n S.1 S.2.1 dX6_leaves_117 rfl (lv_at hl 0 rfl) ?_
        refine lv_iload_n S.1 S.2.1 dX6_leaves_118 rfl (lv_at hl 3 rfl) ?_
        obtain ⟨r13, u14, q12, h⟩ := bd_some h
        refine x_vi (Wf := WM ad cI) (q0 := 0) (ci := 6) (As := [.int x3]) (rest := []) S hK hP hS (k_X6_isRowed hap q12) rfl rfl wl_X6_98 wi_X6_isRowed ws_X6_isRowed wz_X6 wc_X6_isRowed hy_X6_isRowed ⟨Nat.le_of_ble_eq_true rfl, Nat.le_of_ble_eq_true rfl⟩ hl.1 rfl (Nat.le_of_ble_eq_true rfl) dX6_leaves_119 (fun H locs hP hS => ?_)
        refine lv_if_ne (tgt := 180) S.1 S.2.1 dX6_leaves_122 (by decide) (fun c15 => ?_) (fun c15 => ?_)
        · rw [if_neg c15] at h
          exact B_180 _ ih _ _ _ u14 h _ _ _ hP hS (lv_sub hl [0, 1, 2, 3] rfl)
        · rw [if_pos c15] at h
          refine lv_aload_n S.1 S.2.1 dX6_leaves_125 rfl (lv_at hl 0 rfl) ?_
          refine gM_0_st S hK hP wf_X6_17 dX6_leaves_126 ?_
          refine lv_iload_n S.1 S.2.1 dX6_leaves_129 rfl (lv_at hl 2 rfl) ?_
          refine lv_bipush (v := (14 : Int32)) S.1 S.2.1 dX6_leaves_130 (by decide) ?_
          refine lv_iadd S.1 S.2.1 dX6_leaves_132 ?_
          refine lv_iload_n S.1 S.2.1 dX6_leaves_133 rfl (lv_at hl 3 rfl) ?_
          refine lv_iadd S.1 S.2.1 dX6_leaves_134 ?_
          obtain ⟨q16, h⟩ := gi_some h
          refine lM_2 S hK hP q16 dX6_leaves_135 ?_
          refine lv_aload_n S.1 S.2.1 dX6_leaves_136 rfl (lv_at hl 0 rfl) ?_
          refine gM_0_st S hK hP wf_X6_17 dX6_leaves_137 ?_
          refine lv_bipush (v := (127 : Int32)) S.1 S.2.1 dX6_leaves_140 (by decide) ?_
          refine lv_iload_n S.1 S.2.1 dX6_leaves_142 rfl (lv_at hl 3 rfl) ?_
          refine lv_iadd S.1 S.2.1 dX6_leaves_143 ?_
          obtain ⟨q17, h⟩ := gi_some h
          refine lM_2 S hK hP q17 dX6_leaves_144 ?_
          refine lv_iconst (v := (1 : Int32)) S.1 S.2.1 dX6_leaves_145 (by decide) ?_
          refine lv_iadd S.1 S.2.1 dX6_leaves_146 ?_
          refine lv_icmp_ne (tgt := 180) S.1 S.2.1 dX6_leaves_147 (by decide) (fun c18 => ?_) (fun c18 => ?_)
          · rw [if_neg c18] at h
            exact B_180 _ ih _ _ _ u14 h _ _ _ hP hS (lv_sub hl [0, 1, 2, 3] rfl)
          · rw [if_pos c18] at h
            refine lv_aload_n S.1 S.2.1 dX6_leaves_150 rfl (lv_at hl 0 rfl) ?_
            refine gM_0_st S hK hP wf_X6_17 dX6_leaves_151 ?_
            refine lv_sipush (v := (134 : Int32)) S.1 S.2.1 dX6_leaves_154 (by decide) ?_
            refine lv_aload_n S.1 S.2.1 dX6_leaves_157 rfl (lv_at hl 0 rfl) ?_
            refine gM_0_st S hK hP wf_X6_17 dX6_leaves_158 ?_
            refine lv_sipush (v := (133 : Int32)) S.1 S.2.1 dX6_leaves_161 (by decide) ?_
            obtain ⟨q19, h⟩ := gi_some h
            refine lM_2 S hK hP q19 dX6_leaves_164 ?_
            refine lv_iadd S.1 S.2.1 dX6_leaves_165 ?_
            refine lv_iload_n S.1 S.2.1 dX6_leaves_166 rfl (lv_at hl 3 rfl) ?_
            obtain ⟨q20, h⟩ := gi_some h
            obtain ⟨u21, hu21, h⟩ := bw_some h
            refine tM_2 S hK hap hP hS q20 dX6_leaves_167 hu21 (fun H locs hP hS => ?_)
            refine lv_aload_n S.1 S.2.1 dX6_leaves_168 rfl (lv_at hl 0 rfl) ?_
            refine gM_0_st S hK hP wf_X6_17 dX6_leaves_169 ?_
            refine lv_sipush (v := (133 : Int32)) S.1 S.2.1 dX6_leaves_172 (by decide) ?_
            refine lv_dup2_11 S.1 S.2.1 dX6_leaves_175 rfl rfl ?_
            obtain ⟨q22, h⟩ := gi_some h
            refine lM_2 S hK hP q22 dX6_leaves_176 ?_
            refine lv_iconst (v := (1 : Int32)) S.1 S.2.1 dX6_leaves_177 (by decide) ?_
            refine lv_iadd S.1 S.2.1 dX6_leaves_178 ?_
            obtain ⟨q23, h⟩ := gi_some h
            obtain ⟨u24, hu24, h⟩ := bw_some h
            refine tM_2 S hK hap hP hS q23 dX6_leaves_179 hu24 (fun H locs hP hS => ?_)
            exact B_180 _ ih _ _ _ u24 h _ _ _ hP hS (lv_sub hl [0, 1, 2, 3] rfl)
  have B_209 : ∀ (k245 : Int32 → Int32 → Wo → Re) (hk245 : ∀ (x1 : Int32) (x3 : Int32) (u : Wo), k245 x1 x3 u = some (rf, uf) → J p l e (rmk 3 72) s m args below meth c dC dI (WM ad cI) (AF ad 9) (MQ below (QV dC dI cI (WM ad cI) (AF ad 9) uf) args s 0 0 (AF ad 9)) u 245 5 [(0, .ref (ad 0)), (1, .int x1), (3, .int x3)] []) (n : Nat) (x1 : Int32) (x3 : Int32) (x4 : Int32) (u : Wo), fX6_leaves_209 k245 n x1 x3 x4 u = some (rf, uf) → J p l e (rmk 3 72) s m args below meth c dC dI (WM ad cI) (AF ad 9) (MQ below (QV dC dI cI (WM ad cI) (AF ad 9) uf) args s 0 0 (AF ad 9)) u 209 5 [(0, .ref (ad 0)), (1, .int x1), (3, .int x3), (4, .int x4)] [] := by
    intro k245 hk245
    intro n
    induction n with
    | zero => intro x1 x3 x4 u h; cases h
    | succ n ih =>
      intro x1 x3 x4 u h H locs ls hP hS hl
      rw [fX6_leaves_209.eq_2] at h
      refine lv_iload S.1 S.2.1 dX6_leaves_209 (lv_at hl 3 rfl) ?_
      refine lv_iconst (v := (5 : Int32)) S.1 S.2.1 dX6_leaves_211 (by decide) ?_
      refine lv_icmp_ge (tgt := 245) S.1 S.2.1 dX6_leaves_212 (by decide) (fun c28 => ?_) (fun c28 => ?_)
      · rw [if_pos c28] at h
        exact hk245 _ _ u h _ _ _ hP hS (lv_sub hl [0, 1, 2] rfl)
      · rw [if_neg c28] at h
        refine lv_aload_n S.1 S.2.1 dX6_leaves_215 rfl (lv_at hl 0 rfl) ?_
        refine gM_0_st S hK hP wf_X6_17 dX6_leaves_216 ?_
        refine lv_sipush (v := (134 : Int32)) S.1 S.2.1 dX6_leaves_219 (by decide) ?_
        refine lv_iload S.1 S.2.1 dX6_leaves_222 (lv_at hl 3 rfl) ?_
        refine lv_iadd S.1 S.2.1 dX6_leaves_224 ?_
        refine lv_aload_n S.1 S.2.1 dX6_leaves_225 rfl (lv_at hl 0 rfl) ?_
        refine gM_0_st S hK hP wf_X6_17 dX6_leaves_226 ?_
        refine lv_sipush (v := (134 : Int32)) S.1 S.2.1 dX6_leaves_229 (by decide) ?_
        refine lv_iload S.1 S.2.1 dX6_leaves_232 (lv_at hl 3 rfl) ?_
        refine lv_iadd S.1 S.2.1 dX6_leaves_234 ?_
        refine lv_iconst (v := (1 : Int32)) S.1 S.2.1 dX6_leaves_235 (by decide) ?_
        refine lv_iadd S.1 S.2.1 dX6_leaves_236 ?_
        obtain ⟨q29, h⟩ := gi_some h
        refine lM_2 S hK hP q29 dX6_leaves_237 ?_
        obtain ⟨q30, h⟩ := gi_some h
        obtain ⟨u31, hu31, h⟩ := bw_some h
        refine tM_2 S hK hap hP hS q30 dX6_leaves_238 hu31 (fun H locs hP hS => ?_)
        refine lv_iinc (v := (x4 + (1 : Int32))) (lv' := [(4, .int (x4 + (1 : Int32))), (0, .ref (ad 0)), (1, .int x1), (3, .int x3)]) S.1 S.2.1 dX6_leaves_239 hl (k := 3) rfl rfl (by decide) rfl (fun ls hl => ?_)
        refine lv_goto (tgt := 209) S.1 S.2.1 dX6_leaves_242 (by decide) ?_
        exact ih _ _ _ u31 h _ _ _ hP hS (lv_sub hl [1, 2, 3, 0] rfl)
  have B_245 : ∀ (x1 : Int32) (x3 : Int32) (u : Wo), fX6_leaves_245 x1 x3 u = some (rf, uf) → J p l e (rmk 3 72) s m args below meth c dC dI (WM ad cI) (AF ad 9) (MQ below (QV dC dI cI (WM ad cI) (AF ad 9) uf) args s 0 0 (AF ad 9)) u 245 5 [(0, .ref (ad 0)), (1, .int x1), (3, .int x3)] [] := by
    intro x1 x3 u h H locs ls hP hS hl
    unfold fX6_leaves_245 at h
    refine lv_aload_n S.1 S.2.1 dX6_leaves_245 rfl (lv_at hl 0 rfl) ?_
    refine gM_0_st S hK hP wf_X6_17 dX6_leaves_246 ?_
    refine lv_sipush (v := (139 : Int32)) S.1 S.2.1 dX6_leaves_249 (by decide) ?_
    refine lv_iconst (v := (0 : Int32)) S.1 S.2.1 dX6_leaves_252 (by decide) ?_
    obtain ⟨q32, h⟩ := gi_some h
    obtain ⟨u33, hu33, h⟩ := bw_some h
    refine tM_2 S hK hap hP hS q32 dX6_leaves_253 hu33 (fun H locs hP hS => ?_)
    refine lv_aload_n S.1 S.2.1 dX6_leaves_254 rfl (lv_at hl 0 rfl) ?_
    refine gM_0_st S hK hP wf_X6_17 dX6_leaves_255 ?_
    refine lv_sipush (v := (133 : Int32)) S.1 S.2.1 dX6_leaves_258 (by decide) ?_
    refine lv_dup2_11 S.1 S.2.1 dX6_leaves_261 rfl rfl ?_
    obtain ⟨q34, h⟩ := gi_some h
    refine lM_2 S hK hP q34 dX6_leaves_262 ?_
    refine lv_iconst (v := (1 : Int32)) S.1 S.2.1 dX6_leaves_263 (by decide) ?_
    refine lv_isub S.1 S.2.1 dX6_leaves_264 ?_
    obtain ⟨q35, h⟩ := gi_some h
    obtain ⟨u36, hu36, h⟩ := bw_some h
    refine tM_2 S hK hap hP hS q35 dX6_leaves_265 hu36 (fun H locs hP hS => ?_)
    refine lv_aload_n S.1 S.2.1 dX6_leaves_266 rfl (lv_at hl 0 rfl) ?_
    refine lv_iload_n S.1 S.2.1 dX6_leaves_267 rfl (lv_at hl 1 rfl) ?_
    refine lv_iload_n S.1 S.2.1 dX6_leaves_268 rfl (lv_at hl 2 rfl) ?_
    obtain ⟨r38, u39, q37, h⟩ := bd_some h
    refine x_vv (Wf := WM ad cI) (q0 := 0) (ci := 6) (As := [.int x1, .int x3]) (rest := []) S hK hP hS (k_X6_passToken hap q37) rfl rfl wl_X6_102 wi_X6_passToken ws_X6_passToken wz_X6 wc_X6_passToken hy_X6_passToken ⟨Nat.le_of_ble_eq_true rfl, Nat.le_of_ble_eq_true rfl⟩ hl.1 rfl (Nat.le_of_ble_eq_true rfl) dX6_leaves_269 (fun H locs hP hS => ?_)
    refine lv_goto (tgt := 280) S.1 S.2.1 dX6_leaves_272 (by decide) ?_
    exact B_280 u39 h _ _ _ hP hS (lv_sub hl [] rfl)
  have B_186 : ∀ (x1 : Int32) (u : Wo), fX6_leaves_186 x1 u = some (rf, uf) → J p l e (rmk 3 72) s m args below meth c dC dI (WM ad cI) (AF ad 9) (MQ below (QV dC dI cI (WM ad cI) (AF ad 9) uf) args s 0 0 (AF ad 9)) u 186 5 [(0, .ref (ad 0)), (1, .int x1)] [] := by
    intro x1 u h H locs ls hP hS hl
    unfold fX6_leaves_186 at h
    refine lv_aload_n S.1 S.2.1 dX6_leaves_186 rfl (lv_at hl 0 rfl) ?_
    refine gM_0_st S hK hP wf_X6_17 dX6_leaves_187 ?_
    refine lv_sipush (v := (133 : Int32)) S.1 S.2.1 dX6_leaves_190 (by decide) ?_
    obtain ⟨q25, h⟩ := gi_some h
    refine lM_2 S hK hP q25 dX6_leaves_193 ?_
    refine lv_if_le (tgt := 280) S.1 S.2.1 dX6_leaves_194 (by decide) (fun c26 => ?_) (fun c26 => ?_)
    · rw [if_pos c26] at h
      exact B_280 u h _ _ _ hP hS (lv_sub hl [] rfl)
    · rw [if_neg c26] at h
      refine lv_aload_n S.1 S.2.1 dX6_leaves_197 rfl (lv_at hl 0 rfl) ?_
      refine gM_0_st S hK hP wf_X6_17 dX6_leaves_198 ?_
      refine lv_sipush (v := (134 : Int32)) S.1 S.2.1 dX6_leaves_201 (by decide) ?_
      obtain ⟨q27, h⟩ := gi_some h
      refine lM_2 S hK hP q27 dX6_leaves_204 ?_
      refine lv_istore_n (lv' := [(3, .int (u 2 ((134 : Int32)).toNatClampNeg)), (0, .ref (ad 0)), (1, .int x1)]) S.1 S.2.1 dX6_leaves_205 rfl hl (by decide) rfl (fun ls hl => ?_)
      refine lv_iconst (v := (0 : Int32)) S.1 S.2.1 dX6_leaves_206 (by decide) ?_
      refine lv_istore (lv' := [(4, .int (0 : Int32)), (3, .int (u 2 ((134 : Int32)).toNatClampNeg)), (0, .ref (ad 0)), (1, .int x1)]) S.1 S.2.1 dX6_leaves_207 hl (by decide) rfl (fun ls hl => ?_)
      exact B_209 _ B_245 FU _ _ _ u h _ _ _ hP hS (lv_sub hl [2, 3, 1, 0] rfl)
  have B_70 : ∀ (k42 : Int32 → Int32 → Int32 → Wo → Re) (hk42 : ∀ (x1 : Int32) (x3 : Int32) (x4 : Int32) (u : Wo), k42 x1 x3 x4 u = some (rf, uf) → J p l e (rmk 3 72) s m args below meth c dC dI (WM ad cI) (AF ad 9) (MQ below (QV dC dI cI (WM ad cI) (AF ad 9) uf) args s 0 0 (AF ad 9)) u 42 5 [(0, .ref (ad 0)), (1, .int x1), (3, .int x3), (4, .int x4)] []) (x1 : Int32) (x3 : Int32) (x4 : Int32) (u : Wo), fX6_leaves_70 k42 x1 x3 x4 u = some (rf, uf) → J p l e (rmk 3 72) s m args below meth c dC dI (WM ad cI) (AF ad 9) (MQ below (QV dC dI cI (WM ad cI) (AF ad 9) uf) args s 0 0 (AF ad 9)) u 70 5 [(0, .ref (ad 0)), (1, .int x1), (3, .int x3), (4, .int x4)] [] := by
    intro k42 hk42 x1 x3 x4 u h H locs ls hP hS hl
    unfold fX6_leaves_70 at h
    refine lv_iinc (v := (x4 + (1 : Int32))) (lv' := [(4, .int (x4 + (1 : Int32))), (0, .ref (ad 0)), (1, .int x1), (3, .int x3)]) S.1 S.2.1 dX6_leaves_70 hl (k := 3) rfl rfl (by decide) rfl (fun ls hl => ?_)
    refine lv_goto (tgt := 42) S.1 S.2.1 dX6_leaves_73 (by decide) ?_
    exact hk42 _ _ _ u h _ _ _ hP hS (lv_sub hl [1, 2, 3, 0] rfl)
  have B_42 : ∀ (k76 : Wo → Re) (hk76 : ∀ (u : Wo), k76  u = some (rf, uf) → J p l e (rmk 3 72) s m args below meth c dC dI (WM ad cI) (AF ad 9) (MQ below (QV dC dI cI (WM ad cI) (AF ad 9) uf) args s 0 0 (AF ad 9)) u 76 5 [] []) (n : Nat) (x1 : Int32) (x3 : Int32) (x4 : Int32) (u : Wo), fX6_leaves_42 k76 n x1 x3 x4 u = some (rf, uf) → J p l e (rmk 3 72) s m args below meth c dC dI (WM ad cI) (AF ad 9) (MQ below (QV dC dI cI (WM ad cI) (AF ad 9) uf) args s 0 0 (AF ad 9)) u 42 5 [(0, .ref (ad 0)), (1, .int x1), (3, .int x3), (4, .int x4)] [] := by
    intro k76 hk76
    intro n
    induction n with
    | zero => intro x1 x3 x4 u h; cases h
    | succ n ih =>
      intro x1 x3 x4 u h H locs ls hP hS hl
      rw [fX6_leaves_42.eq_2] at h
      refine lv_iload S.1 S.2.1 dX6_leaves_42 (lv_at hl 3 rfl) ?_
      refine lv_aload_n S.1 S.2.1 dX6_leaves_44 rfl (lv_at hl 0 rfl) ?_
      refine gM_0_n S hK hP wf_X6_7 dX6_leaves_45 ?_
      refine lv_icmp_ge (tgt := 76) S.1 S.2.1 dX6_leaves_48 (by decide) (fun c44 => ?_) (fun c44 => ?_)
      · rw [if_pos c44] at h
        exact hk76 u h _ _ _ hP hS (lv_sub hl [] rfl)
      · rw [if_neg c44] at h
        refine lv_iload_n S.1 S.2.1 dX6_leaves_51 rfl (lv_at hl 2 rfl) ?_
        refine lv_iload S.1 S.2.1 dX6_leaves_52 (lv_at hl 3 rfl) ?_
        refine lv_ishr S.1 S.2.1 dX6_leaves_54 ?_
        refine lv_iconst (v := (1 : Int32)) S.1 S.2.1 dX6_leaves_55 (by decide) ?_
        refine lv_iand S.1 S.2.1 dX6_leaves_56 ?_
        refine lv_iconst (v := (1 : Int32)) S.1 S.2.1 dX6_leaves_57 (by decide) ?_
        refine lv_icmp_ne (tgt := 70) S.1 S.2.1 dX6_leaves_58 (by decide) (fun c45 => ?_) (fun c45 => ?_)
        · rw [if_neg c45] at h
          exact B_70 _ ih _ _ _ u h _ _ _ hP hS (lv_sub hl [0, 1, 2, 3] rfl)
        · rw [if_pos c45] at h
          refine lv_aload_n S.1 S.2.1 dX6_leaves_61 rfl (lv_at hl 0 rfl) ?_
          refine lv_iload_n S.1 S.2.1 dX6_leaves_62 rfl (lv_at hl 1 rfl) ?_
          refine lv_iload S.1 S.2.1 dX6_leaves_63 (lv_at hl 3 rfl) ?_
          refine lv_iconst (v := (1 : Int32)) S.1 S.2.1 dX6_leaves_65 (by decide) ?_
          refine lv_iconst (v := (0 : Int32)) S.1 S.2.1 dX6_leaves_66 (by decide) ?_
          obtain ⟨r47, u48, q46, h⟩ := bd_some h
          refine x_vv (Wf := WM ad cI) (q0 := 0) (ci := 6) (As := [.int x1, .int x4, .int (1 : Int32), .int (0 : Int32)]) (rest := []) S hK hP hS (k_X6_send hap q46) rfl rfl wl_X6_76 wi_X6_send ws_X6_send wz_X6 wc_X6_send hy_X6_send ⟨Nat.le_of_ble_eq_true rfl, Nat.le_of_ble_eq_true rfl⟩ hl.1 rfl (Nat.le_of_ble_eq_true rfl) dX6_leaves_67 (fun H locs hP hS => ?_)
          exact B_70 _ ih _ _ _ u48 h _ _ _ hP hS (lv_sub hl [0, 1, 2, 3] rfl)
  have B_76 : ∀ (u : Wo), fX6_leaves_76 u = some (rf, uf) → J p l e (rmk 3 72) s m args below meth c dC dI (WM ad cI) (AF ad 9) (MQ below (QV dC dI cI (WM ad cI) (AF ad 9) uf) args s 0 0 (AF ad 9)) u 76 5 [] [] := by
    intro u h H locs ls hP hS hl
    unfold fX6_leaves_76 at h
    refine lv_goto (tgt := 280) S.1 S.2.1 dX6_leaves_76 (by decide) ?_
    exact B_280 u h _ _ _ hP hS (lv_sub hl [] rfl)
  intro H locs ls hP hS hl
  have hl : lv_has ls 5 [(0, .ref (ad 0)), (1, .int x1)] := hl
  unfold fX6_leaves at h
  refine lv_bipush (v := (21 : Int32)) S.1 S.2.1 dX6_leaves_0 (by decide) ?_
  refine lv_iload_n S.1 S.2.1 dX6_leaves_2 rfl (lv_at hl 1 rfl) ?_
  refine lv_imul S.1 S.2.1 dX6_leaves_3 ?_
  refine lv_istore_n (lv' := [(2, .int ((21 : Int32) * x1)), (0, .ref (ad 0)), (1, .int x1)]) S.1 S.2.1 dX6_leaves_4 rfl hl (by decide) rfl (fun ls hl => ?_)
  refine lv_aload_n S.1 S.2.1 dX6_leaves_5 rfl (lv_at hl 1 rfl) ?_
  refine gM_0_st S hK hP wf_X6_17 dX6_leaves_6 ?_
  refine lv_iload_n S.1 S.2.1 dX6_leaves_9 rfl (lv_at hl 0 rfl) ?_
  refine lv_iconst (v := (0 : Int32)) S.1 S.2.1 dX6_leaves_10 (by decide) ?_
  refine lv_iadd S.1 S.2.1 dX6_leaves_11 ?_
  refine lv_iconst (v := (0 : Int32)) S.1 S.2.1 dX6_leaves_12 (by decide) ?_
  obtain ⟨q1, h⟩ := gi_some h
  obtain ⟨u2, hu2, h⟩ := bw_some h
  refine tM_2 S hK hap hP hS q1 dX6_leaves_13 hu2 (fun H locs hP hS => ?_)
  refine lv_aload_n S.1 S.2.1 dX6_leaves_14 rfl (lv_at hl 1 rfl) ?_
  refine gM_0_way S hK hP wf_X6_66 dX6_leaves_15 ?_
  refine lv_if_ne (tgt := 79) S.1 S.2.1 dX6_leaves_18 (by decide) (fun c3 => ?_) (fun c3 => ?_)
  · rw [if_neg c3] at h
    refine lv_aload_n S.1 S.2.1 dX6_leaves_79 rfl (lv_at hl 1 rfl) ?_
    refine gM_0_way S hK hP wf_X6_66 dX6_leaves_80 ?_
    refine lv_iconst (v := (1 : Int32)) S.1 S.2.1 dX6_leaves_83 (by decide) ?_
    refine lv_icmp_ne (tgt := 275) S.1 S.2.1 dX6_leaves_84 (by decide) (fun c4 => ?_) (fun c4 => ?_)
    · rw [if_neg c4] at h
      refine lv_aload_n S.1 S.2.1 dX6_leaves_275 rfl (lv_at hl 1 rfl) ?_
      refine lv_iload_n S.1 S.2.1 dX6_leaves_276 rfl (lv_at hl 2 rfl) ?_
      obtain ⟨r6, u7, q5, h⟩ := bd_some h
      refine x_vv (Wf := WM ad cI) (q0 := 0) (ci := 6) (As := [.int x1]) (rest := []) S hK hP hS (k_X6_rules hap q5) rfl rfl wl_X6_95 wi_X6_rules ws_X6_rules wz_X6 wc_X6_rules hy_X6_rules ⟨Nat.le_of_ble_eq_true rfl, Nat.le_of_ble_eq_true rfl⟩ hl.1 rfl (Nat.le_of_ble_eq_true rfl) dX6_leaves_277 (fun H locs hP hS => ?_)
      exact B_280 u7 h _ _ _ hP hS (lv_sub hl [] rfl)
    · rw [if_pos c4] at h
      refine lv_aload_n S.1 S.2.1 dX6_leaves_87 rfl (lv_at hl 1 rfl) ?_
      refine gM_0_st S hK hP wf_X6_17 dX6_leaves_88 ?_
      refine lv_bipush (v := (127 : Int32)) S.1 S.2.1 dX6_leaves_91 (by decide) ?_
      refine lv_iload_n S.1 S.2.1 dX6_leaves_93 rfl (lv_at hl 2 rfl) ?_
      refine lv_iadd S.1 S.2.1 dX6_leaves_94 ?_
      refine lv_aload_n S.1 S.2.1 dX6_leaves_95 rfl (lv_at hl 1 rfl) ?_
      refine gM_0_st S hK hP wf_X6_17 dX6_leaves_96 ?_
      refine lv_iload_n S.1 S.2.1 dX6_leaves_99 rfl (lv_at hl 0 rfl) ?_
      refine lv_bipush (v := (14 : Int32)) S.1 S.2.1 dX6_leaves_100 (by decide) ?_
      refine lv_iadd S.1 S.2.1 dX6_leaves_102 ?_
      refine lv_iload_n S.1 S.2.1 dX6_leaves_103 rfl (lv_at hl 2 rfl) ?_
      refine lv_iadd S.1 S.2.1 dX6_leaves_104 ?_
      obtain ⟨q8, h⟩ := gi_some h
      refine lM_2 S hK hP q8 dX6_leaves_105 ?_
      obtain ⟨q9, h⟩ := gi_some h
      obtain ⟨u10, hu10, h⟩ := bw_some h
      refine tM_2 S hK hap hP hS q9 dX6_leaves_106 hu10 (fun H locs hP hS => ?_)
      refine lv_iconst (v := (0 : Int32)) S.1 S.2.1 dX6_leaves_107 (by decide) ?_
      refine lv_istore_n (lv' := [(3, .int (0 : Int32)), (2, .int ((21 : Int32) * x1)), (0, .ref (ad 0)), (1, .int x1)]) S.1 S.2.1 dX6_leaves_108 rfl hl (by decide) rfl (fun ls hl => ?_)
      exact B_109 _ B_186 FU _ _ _ u10 h _ _ _ hP hS (lv_sub hl [2, 3, 1, 0] rfl)
  · rw [if_pos c3] at h
    refine lv_aload_n S.1 S.2.1 dX6_leaves_21 rfl (lv_at hl 1 rfl) ?_
    refine gM_0_st S hK hP wf_X6_17 dX6_leaves_22 ?_
    refine lv_iload_n S.1 S.2.1 dX6_leaves_25 rfl (lv_at hl 0 rfl) ?_
    refine lv_iconst (v := (4 : Int32)) S.1 S.2.1 dX6_leaves_26 (by decide) ?_
    refine lv_iadd S.1 S.2.1 dX6_leaves_27 ?_
    obtain ⟨q40, h⟩ := gi_some h
    refine lM_2 S hK hP q40 dX6_leaves_28 ?_
    obtain ⟨y41, hy41, h⟩ := bn_some h
    rw [hy41]
    refine lv_istore_n (lv' := [(3, .int y41), (2, .int ((21 : Int32) * x1)), (0, .ref (ad 0)), (1, .int x1)]) S.1 S.2.1 dX6_leaves_29 rfl hl (by decide) rfl (fun ls hl => ?_)
    refine lv_aload_n S.1 S.2.1 dX6_leaves_30 rfl (lv_at hl 2 rfl) ?_
    refine gM_0_st S hK hP wf_X6_17 dX6_leaves_31 ?_
    refine lv_iload_n S.1 S.2.1 dX6_leaves_34 rfl (lv_at hl 1 rfl) ?_
    refine lv_iconst (v := (4 : Int32)) S.1 S.2.1 dX6_leaves_35 (by decide) ?_
    refine lv_iadd S.1 S.2.1 dX6_leaves_36 ?_
    refine lv_iconst (v := (0 : Int32)) S.1 S.2.1 dX6_leaves_37 (by decide) ?_
    obtain ⟨q42, h⟩ := gi_some h
    obtain ⟨u43, hu43, h⟩ := bw_some h
    refine tM_2 S hK hap hP hS q42 dX6_leaves_38 hu43 (fun H locs hP hS => ?_)
    refine lv_iconst (v := (0 : Int32)) S.1 S.2.1 dX6_leaves_39 (by decide) ?_
    refine lv_istore (lv' := [(4, .int (0 : Int32)), (3, .int y41), (2, .int ((21 : Int32) * x1)), (0, .ref (ad 0)), (1, .int x1)]) S.1 S.2.1 dX6_leaves_40 hl (by decide) rfl (fun ls hl => ?_)
    exact B_42 _ B_76 FU _ _ _ u43 h _ _ _ hP hS (lv_sub hl [3, 4, 1, 0] rfl)
theorem hy_X6_leave : yX6_leave.cls ≠ "java/lang/invoke/MethodHandle" ∧ yX6_leave.cls ≠ "java/lang/invoke/VarHandle" ∧ (parseMethodDescriptor yX6_leave.desc).map (fun d => d.parameters.length) = some 1 := by decide +kernel
set_option maxHeartbeats 4000000 in
set_option maxRecDepth 100000 in
theorem k_X6_leave {l : Launch} {dC : Nat → ClassId} {dI : Nat → Nat → Nat} {ad : Nat → Nat} {cI : ClassId} (hap : AP ad 9) {x1 : Int32} {u uf : Wo} {rf : Int32} (h : fX6_leave x1 u = some (rf, uf)) : CI l dC dI cI (WM ad cI) (AF ad 9) yX6_leave cX6_leave 3 (some .int) 4 96 [.ref (ad 0), .int x1] u rf uf := by
  refine ci_begin (by decide) (Nat.le_of_ble_eq_true rfl) ?_
  intro p e s m args below meth c S hr hlk hK
  have B_60 : ∀ (s0 : Int32) (u : Wo), fX6_leave_60 s0 u = some (rf, uf) → J p l e (rmk 4 96) s m args below meth c dC dI (WM ad cI) (AF ad 9) (MQ below (QI dC dI cI (WM ad cI) (AF ad 9) rf uf) args s 0 0 (AF ad 9)) u 60 3 [] [.int s0] := by
    intro s0 u h H locs ls hP hS hl
    unfold fX6_leave_60 at h
    exact x_iret S hr hlk hK hP hS h dX6_leave_60
  intro H locs ls hP hS hl
  have hl : lv_has ls 3 [(0, .ref (ad 0)), (1, .int x1)] := hl
  unfold fX6_leave at h
  refine lv_aload_n S.1 S.2.1 dX6_leave_0 rfl (lv_at hl 0 rfl) ?_
  refine lv_iload_n S.1 S.2.1 dX6_leave_1 rfl (lv_at hl 1 rfl) ?_
  obtain ⟨r2, u3, q1, h⟩ := bd_some h
  refine x_vi (Wf := WM ad cI) (q0 := 0) (ci := 6) (As := [.int x1]) (rest := []) S hK hP hS (k_X6_isKeeper hap q1) rfl rfl wl_X6_113 wi_X6_isKeeper ws_X6_isKeeper wz_X6 wc_X6_isKeeper hy_X6_isKeeper ⟨Nat.le_of_ble_eq_true rfl, Nat.le_of_ble_eq_true rfl⟩ hl.1 rfl (Nat.le_of_ble_eq_true rfl) dX6_leave_2 (fun H locs hP hS => ?_)
  refine lv_if_ne (tgt := 10) S.1 S.2.1 dX6_leave_5 (by decide) (fun c4 => ?_) (fun c4 => ?_)
  · rw [if_neg c4] at h
    refine lv_aload_n S.1 S.2.1 dX6_leave_10 rfl (lv_at hl 0 rfl) ?_
    refine gM_0_st S hK hP wf_X6_17 dX6_leave_11 ?_
    refine lv_bipush (v := (21 : Int32)) S.1 S.2.1 dX6_leave_14 (by decide) ?_
    refine lv_iload_n S.1 S.2.1 dX6_leave_16 rfl (lv_at hl 1 rfl) ?_
    refine lv_imul S.1 S.2.1 dX6_leave_17 ?_
    refine lv_iconst (v := (0 : Int32)) S.1 S.2.1 dX6_leave_18 (by decide) ?_
    refine lv_iadd S.1 S.2.1 dX6_leave_19 ?_
    obtain ⟨q5, h⟩ := gi_some h
    refine lM_2 S hK hP q5 dX6_leave_20 ?_
    refine lv_iconst (v := (2 : Int32)) S.1 S.2.1 dX6_leave_21 (by decide) ?_
    refine lv_icmp_eq (tgt := 28) S.1 S.2.1 dX6_leave_22 (by decide) (fun c6 => ?_) (fun c6 => ?_)
    · rw [if_pos c6] at h
      refine lv_aload_n S.1 S.2.1 dX6_leave_28 rfl (lv_at hl 0 rfl) ?_
      obtain ⟨r8, u9, q7, h⟩ := bd_some h
      refine x_vv (Wf := WM ad cI) (q0 := 0) (ci := 6) (As := []) (rest := []) S hK hP hS (k_X6_store hap q7) rfl rfl wl_X6_116 wi_X6_store ws_X6_store wz_X6 wc_X6_store hy_X6_store ⟨Nat.le_of_ble_eq_true rfl, Nat.le_of_ble_eq_true rfl⟩ hl.1 rfl (Nat.le_of_ble_eq_true rfl) dX6_leave_29 (fun H locs hP hS => ?_)
      refine lv_aload_n S.1 S.2.1 dX6_leave_32 rfl (lv_at hl 0 rfl) ?_
      obtain ⟨r11, u12, q10, h⟩ := bd_some h
      refine x_vi (Wf := WM ad cI) (q0 := 0) (ci := 6) (As := []) (rest := []) S hK hP hS (k_X6_sent hap q10) rfl rfl wl_X6_80 wi_X6_sent ws_X6_sent wz_X6 wc_X6_sent hy_X6_sent ⟨Nat.le_of_ble_eq_true rfl, Nat.le_of_ble_eq_true rfl⟩ hl.1 rfl (Nat.le_of_ble_eq_true rfl) dX6_leave_33 (fun H locs hP hS => ?_)
      refine lv_istore_n (lv' := [(2, .int r11), (0, .ref (ad 0)), (1, .int x1)]) S.1 S.2.1 dX6_leave_36 rfl hl (by decide) rfl (fun ls hl => ?_)
      refine lv_aload_n S.1 S.2.1 dX6_leave_37 rfl (lv_at hl 1 rfl) ?_
      refine lv_iload_n S.1 S.2.1 dX6_leave_38 rfl (lv_at hl 2 rfl) ?_
      obtain ⟨r14, u15, q13, h⟩ := bd_some h
      refine x_vv (Wf := WM ad cI) (q0 := 0) (ci := 6) (As := [.int x1]) (rest := []) S hK hP hS (k_X6_leaves hap q13) rfl rfl wl_X6_126 wi_X6_leaves ws_X6_leaves wz_X6 wc_X6_leaves hy_X6_leaves ⟨Nat.le_of_ble_eq_true rfl, Nat.le_of_ble_eq_true rfl⟩ hl.1 rfl (Nat.le_of_ble_eq_true rfl) dX6_leave_39 (fun H locs hP hS => ?_)
      refine lv_aload_n S.1 S.2.1 dX6_leave_42 rfl (lv_at hl 1 rfl) ?_
      obtain ⟨r17, u18, q16, h⟩ := bd_some h
      refine x_vi (Wf := WM ad cI) (q0 := 0) (ci := 6) (As := []) (rest := []) S hK hP hS (k_X6_stands hap q16) rfl rfl wl_X6_122 wi_X6_stands ws_X6_stands wz_X6 wc_X6_stands hy_X6_stands ⟨Nat.le_of_ble_eq_true rfl, Nat.le_of_ble_eq_true rfl⟩ hl.1 rfl (Nat.le_of_ble_eq_true rfl) dX6_leave_43 (fun H locs hP hS => ?_)
      refine lv_if_ne (tgt := 54) S.1 S.2.1 dX6_leave_46 (by decide) (fun c19 => ?_) (fun c19 => ?_)
      · rw [if_neg c19] at h
        refine lv_aload_n S.1 S.2.1 dX6_leave_54 rfl (lv_at hl 1 rfl) ?_
        obtain ⟨r21, u22, q20, h⟩ := bd_some h
        refine x_vi (Wf := WM ad cI) (q0 := 0) (ci := 6) (As := []) (rest := []) S hK hP hS (k_X6_sent hap q20) rfl rfl wl_X6_80 wi_X6_sent ws_X6_sent wz_X6 wc_X6_sent hy_X6_sent ⟨Nat.le_of_ble_eq_true rfl, Nat.le_of_ble_eq_true rfl⟩ hl.1 rfl (Nat.le_of_ble_eq_true rfl) dX6_leave_55 (fun H locs hP hS => ?_)
        refine lv_iload_n S.1 S.2.1 dX6_leave_58 rfl (lv_at hl 0 rfl) ?_
        refine lv_isub S.1 S.2.1 dX6_leave_59 ?_
        exact B_60 _ u22 h _ _ _ hP hS (lv_sub hl [] rfl)
      · rw [if_pos c19] at h
        refine lv_bipush (v := (-3 : Int32)) S.1 S.2.1 dX6_leave_49 (by decide) ?_
        refine lv_goto (tgt := 60) S.1 S.2.1 dX6_leave_51 (by decide) ?_
        exact B_60 _ u18 h _ _ _ hP hS (lv_sub hl [] rfl)
    · rw [if_neg c6] at h
      refine lv_bipush (v := (-2 : Int32)) S.1 S.2.1 dX6_leave_25 (by decide) ?_
      exact x_iret S hr hlk hK hP hS h dX6_leave_27
  · rw [if_pos c4] at h
    refine lv_iconst (v := (-1 : Int32)) S.1 S.2.1 dX6_leave_8 (by decide) ?_
    exact x_iret S hr hlk hK hP hS h dX6_leave_9
