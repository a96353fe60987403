theorem hy_X5_token : yX5_token.cls ≠ "java/lang/invoke/MethodHandle" ∧ yX5_token.cls ≠ "java/lang/invoke/VarHandle" ∧ (parseMethodDescriptor yX5_token.desc).map (fun d => d.parameters.length) = some 2 := by decide +kernel
set_option maxHeartbeats 4000000 in
set_option maxRecDepth 100000 in
theorem k_X5_token {l : Launch} {dC : Nat → ClassId} {dI : Nat → Nat → Nat} {ad : Nat → Nat} {cI : ClassId} (hap : AP ad 14) {x1 x2 : Int32} {u uf : Wo} {rf : Int32} (h : fX5_token x1 x2 u = some (rf, uf)) : CI l dC dI cI (WC ad cI) (AF ad 14) yX5_token cX5_token 3 (some .int) 1 21 [.ref (ad 0), .int x1, .int x2] u rf uf := by
  refine ci_begin (by decide) (Nat.le_of_ble_eq_true rfl) ?_
  intro p e s m args below meth c S hr hlk hK
  have B_20 : ∀ (u : Wo), fX5_token_20 u = some (rf, uf) → J p l e (rmk 1 21) s m args below meth c dC dI (WC ad cI) (AF ad 14) (MQ below (QI dC dI cI (WC ad cI) (AF ad 14) rf uf) args s 0 0 (AF ad 14)) u 20 3 [] [] := by
    intro u h H locs ls hP hS hl
    unfold fX5_token_20 at h
    refine lv_iconst (v := (-1 : Int32)) S.1 S.2.1 dX5_token_20 (by decide) ?_
    exact x_iret S hr hlk hK hP hS h dX5_token_21
  have B_81 : ∀ (s0 : Int32) (u : Wo), fX5_token_81 s0 u = some (rf, uf) → J p l e (rmk 1 21) s m args below meth c dC dI (WC ad cI) (AF ad 14) (MQ below (QI dC dI cI (WC ad cI) (AF ad 14) rf uf) args s 0 0 (AF ad 14)) u 81 3 [] [.int s0] := by
    intro s0 u h H locs ls hP hS hl
    unfold fX5_token_81 at h
    exact x_iret S hr hlk hK hP hS h dX5_token_81
  intro H locs ls hP hS hl
  have hl : lv_has ls 3 [(0, .ref (ad 0)), (1, .int x1), (2, .int x2)] := hl
  unfold fX5_token at h
  refine lv_iload_n S.1 S.2.1 dX5_token_0 rfl (lv_at hl 1 rfl) ?_
  refine lv_if_lt (tgt := 20) S.1 S.2.1 dX5_token_1 (by decide) (fun c1 => ?_) (fun c1 => ?_)
  · rw [if_pos c1] at h
    exact B_20 u h _ _ _ hP hS (lv_sub hl [] rfl)
  · rw [if_neg c1] at h
    refine lv_iload_n S.1 S.2.1 dX5_token_4 rfl (lv_at hl 1 rfl) ?_
    refine lv_iconst (v := (1 : Int32)) S.1 S.2.1 dX5_token_5 (by decide) ?_
    refine lv_icmp_gt (tgt := 20) S.1 S.2.1 dX5_token_6 (by decide) (fun c2 => ?_) (fun c2 => ?_)
    · rw [if_pos c2] at h
      exact B_20 u h _ _ _ hP hS (lv_sub hl [] rfl)
    · rw [if_neg c2] at h
      refine lv_aload_n S.1 S.2.1 dX5_token_9 rfl (lv_at hl 0 rfl) ?_
      refine gC_0_stand S hK hP wf_X5_10 dX5_token_10 ?_
      refine lv_iload_n S.1 S.2.1 dX5_token_13 rfl (lv_at hl 2 rfl) ?_
      obtain ⟨r4, u5, q3, h⟩ := bd_some h
      refine x_vi (Wf := WC ad cI) (q0 := 1) (ci := 3) (As := [.int x2]) (rest := []) S hK hP hS (k_X3_isKeeper hap q3) rfl rfl wl_X5_82 wi_X3_isKeeper ws_X3_isKeeper wz_X3 wc_X3_isKeeper hy_X3_isKeeper ⟨Nat.le_of_ble_eq_true rfl, Nat.le_of_ble_eq_true rfl⟩ hl.1 rfl (Nat.le_of_ble_eq_true rfl) dX5_token_14 (fun H locs hP hS => ?_)
      refine lv_if_ne (tgt := 22) S.1 S.2.1 dX5_token_17 (by decide) (fun c6 => ?_) (fun c6 => ?_)
      · rw [if_neg c6] at h
        refine lv_aload_n S.1 S.2.1 dX5_token_22 rfl (lv_at hl 0 rfl) ?_
        refine gC_0_stand S hK hP wf_X5_10 dX5_token_23 ?_
        refine gC_1_way S hK hP wf_X5_71 dX5_token_26 ?_
        refine lv_iconst (v := (1 : Int32)) S.1 S.2.1 dX5_token_29 (by decide) ?_
        refine lv_icmp_eq (tgt := 36) S.1 S.2.1 dX5_token_30 (by decide) (fun c7 => ?_) (fun c7 => ?_)
        · rw [if_pos c7] at h
          refine lv_iload_n S.1 S.2.1 dX5_token_36 rfl (lv_at hl 1 rfl) ?_
          refine lv_if_ne (tgt := 52) S.1 S.2.1 dX5_token_37 (by decide) (fun c8 => ?_) (fun c8 => ?_)
          · rw [if_neg c8] at h
            refine lv_iload_n S.1 S.2.1 dX5_token_52 rfl (lv_at hl 2 rfl) ?_
            refine lv_aload_n S.1 S.2.1 dX5_token_53 rfl (lv_at hl 0 rfl) ?_
            refine gC_0_stand S hK hP wf_X5_10 dX5_token_54 ?_
            refine lv_bipush (v := (37 : Int32)) S.1 S.2.1 dX5_token_57 (by decide) ?_
            obtain ⟨r10, u11, q9, h⟩ := bd_some h
            refine x_vi (Wf := WC ad cI) (q0 := 1) (ci := 3) (As := [.int (37 : Int32)]) (rest := [.int x2]) S hK hP hS (k_X3_get hap q9) rfl rfl wl_X5_141 wi_X3_get ws_X3_get wz_X3 wc_X3_get hy_X3_get ⟨Nat.le_of_ble_eq_true rfl, Nat.le_of_ble_eq_true rfl⟩ hl.1 rfl (Nat.le_of_ble_eq_true rfl) dX5_token_59 (fun H locs hP hS => ?_)
            refine lv_icmp_ge (tgt := 79) S.1 S.2.1 dX5_token_62 (by decide) (fun c12 => ?_) (fun c12 => ?_)
            · rw [if_pos c12] at h
              refine lv_bipush (v := (-4 : Int32)) S.1 S.2.1 dX5_token_79 (by decide) ?_
              exact B_81 _ u11 h _ _ _ hP hS (lv_sub hl [] rfl)
            · rw [if_neg c12] at h
              refine lv_aload_n S.1 S.2.1 dX5_token_65 rfl (lv_at hl 0 rfl) ?_
              refine gC_0_stand S hK hP wf_X5_10 dX5_token_66 ?_
              refine lv_bipush (v := (38 : Int32)) S.1 S.2.1 dX5_token_69 (by decide) ?_
              refine lv_iload_n S.1 S.2.1 dX5_token_71 rfl (lv_at hl 2 rfl) ?_
              refine lv_iadd S.1 S.2.1 dX5_token_72 ?_
              obtain ⟨r14, u15, q13, h⟩ := bd_some h
              refine x_vi (Wf := WC ad cI) (q0 := 1) (ci := 3) (As := [.int ((38 : Int32) + x2)]) (rest := []) S hK hP hS (k_X3_get hap q13) rfl rfl wl_X5_141 wi_X3_get ws_X3_get wz_X3 wc_X3_get hy_X3_get ⟨Nat.le_of_ble_eq_true rfl, Nat.le_of_ble_eq_true rfl⟩ hl.1 rfl (Nat.le_of_ble_eq_true rfl) dX5_token_73 (fun H locs hP hS => ?_)
              refine lv_goto (tgt := 81) S.1 S.2.1 dX5_token_76 (by decide) ?_
              exact B_81 _ u15 h _ _ _ hP hS (lv_sub hl [] rfl)
          · rw [if_pos c8] at h
            refine lv_aload_n S.1 S.2.1 dX5_token_40 rfl (lv_at hl 0 rfl) ?_
            refine gC_0_stand S hK hP wf_X5_10 dX5_token_41 ?_
            refine lv_bipush (v := (31 : Int32)) S.1 S.2.1 dX5_token_44 (by decide) ?_
            refine lv_iload_n S.1 S.2.1 dX5_token_46 rfl (lv_at hl 2 rfl) ?_
            refine lv_iadd S.1 S.2.1 dX5_token_47 ?_
            obtain ⟨r17, u18, q16, h⟩ := bd_some h
            refine x_vi (Wf := WC ad cI) (q0 := 1) (ci := 3) (As := [.int ((31 : Int32) + x2)]) (rest := []) S hK hP hS (k_X3_get hap q16) rfl rfl wl_X5_141 wi_X3_get ws_X3_get wz_X3 wc_X3_get hy_X3_get ⟨Nat.le_of_ble_eq_true rfl, Nat.le_of_ble_eq_true rfl⟩ hl.1 rfl (Nat.le_of_ble_eq_true rfl) dX5_token_48 (fun H locs hP hS => ?_)
            exact x_iret S hr hlk hK hP hS h dX5_token_51
        · rw [if_neg c7] at h
          refine lv_bipush (v := (-2 : Int32)) S.1 S.2.1 dX5_token_33 (by decide) ?_
          exact x_iret S hr hlk hK hP hS h dX5_token_35
      · rw [if_pos c6] at h
        exact B_20 u5 h _ _ _ hP hS (lv_sub hl [] rfl)
theorem hy_X5_letter : yX5_letter.cls ≠ "java/lang/invoke/MethodHandle" ∧ yX5_letter.cls ≠ "java/lang/invoke/VarHandle" ∧ (parseMethodDescriptor yX5_letter.desc).map (fun d => d.parameters.length) = some 4 := by decide +kernel
set_option maxHeartbeats 4000000 in
set_option maxRecDepth 100000 in
theorem k_X5_letter {l : Launch} {dC : Nat → ClassId} {dI : Nat → Nat → Nat} {ad : Nat → Nat} {cI : ClassId} (hap : AP ad 14) {x1 x2 x3 x4 : Int32} {u uf : Wo} {rf : Int32} (h : fX5_letter x1 x2 x3 x4 u = some (rf, uf)) : CI l dC dI cI (WC ad cI) (AF ad 14) yX5_letter cX5_letter 7 (some .int) 2 44 [.ref (ad 0), .int x1, .int x2, .int x3, .int x4] u rf uf := by
  refine ci_begin (by decide) (Nat.le_of_ble_eq_true rfl) ?_
  intro p e s m args below meth c S hr hlk hK
  have B_28 : ∀ (u : Wo), fX5_letter_28 u = some (rf, uf) → J p l e (rmk 2 44) s m args below meth c dC dI (WC ad cI) (AF ad 14) (MQ below (QI dC dI cI (WC ad cI) (AF ad 14) rf uf) args s 0 0 (AF ad 14)) u 28 7 [] [] := by
    intro u h H locs ls hP hS hl
    unfold fX5_letter_28 at h
    refine lv_iconst (v := (-1 : Int32)) S.1 S.2.1 dX5_letter_28 (by decide) ?_
    exact x_iret S hr hlk hK hP hS h dX5_letter_29
  have B_88 : ∀ (s0 : Int32) (u : Wo), fX5_letter_88 s0 u = some (rf, uf) → J p l e (rmk 2 44) s m args below meth c dC dI (WC ad cI) (AF ad 14) (MQ below (QI dC dI cI (WC ad cI) (AF ad 14) rf uf) args s 0 0 (AF ad 14)) u 88 7 [] [.int s0] := by
    intro s0 u h H locs ls hP hS hl
    unfold fX5_letter_88 at h
    exact x_iret S hr hlk hK hP hS h dX5_letter_88
  intro H locs ls hP hS hl
  have hl : lv_has ls 7 [(0, .ref (ad 0)), (1, .int x1), (2, .int x2), (3, .int x3), (4, .int x4)] := hl
  unfold fX5_letter at h
  refine lv_aload_n S.1 S.2.1 dX5_letter_0 rfl (lv_at hl 0 rfl) ?_
  refine gC_0_stand S hK hP wf_X5_10 dX5_letter_1 ?_
  refine lv_iload_n S.1 S.2.1 dX5_letter_4 rfl (lv_at hl 1 rfl) ?_
  refine lv_iload_n S.1 S.2.1 dX5_letter_5 rfl (lv_at hl 2 rfl) ?_
  obtain ⟨r2, u3, q1, h⟩ := bd_some h
  refine x_vi (Wf := WC ad cI) (q0 := 1) (ci := 3) (As := [.int x1, .int x2]) (rest := []) S hK hP hS (k_X3_isPair hap q1) rfl rfl wl_X5_104 wi_X3_isPair ws_X3_isPair wz_X3 wc_X3_isPair hy_X3_isPair ⟨Nat.le_of_ble_eq_true rfl, Nat.le_of_ble_eq_true rfl⟩ hl.1 rfl (Nat.le_of_ble_eq_true rfl) dX5_letter_6 (fun H locs hP hS => ?_)
  refine lv_if_eq (tgt := 28) S.1 S.2.1 dX5_letter_9 (by decide) (fun c4 => ?_) (fun c4 => ?_)
  · rw [if_pos c4] at h
    exact B_28 u3 h _ _ _ hP hS (lv_sub hl [] rfl)
  · rw [if_neg c4] at h
    refine lv_iload_n S.1 S.2.1 dX5_letter_12 rfl (lv_at hl 3 rfl) ?_
    refine lv_iconst (v := (-1 : Int32)) S.1 S.2.1 dX5_letter_13 (by decide) ?_
    refine lv_icmp_lt (tgt := 28) S.1 S.2.1 dX5_letter_14 (by decide) (fun c5 => ?_) (fun c5 => ?_)
    · rw [if_pos c5] at h
      exact B_28 u3 h _ _ _ hP hS (lv_sub hl [] rfl)
    · rw [if_neg c5] at h
      refine lv_iload S.1 S.2.1 dX5_letter_17 (lv_at hl 4 rfl) ?_
      refine lv_if_lt (tgt := 28) S.1 S.2.1 dX5_letter_19 (by decide) (fun c6 => ?_) (fun c6 => ?_)
      · rw [if_pos c6] at h
        exact B_28 u3 h _ _ _ hP hS (lv_sub hl [] rfl)
      · rw [if_neg c6] at h
        refine lv_iload S.1 S.2.1 dX5_letter_22 (lv_at hl 4 rfl) ?_
        refine lv_iconst (v := (1 : Int32)) S.1 S.2.1 dX5_letter_24 (by decide) ?_
        refine lv_icmp_le (tgt := 30) S.1 S.2.1 dX5_letter_25 (by decide) (fun c7 => ?_) (fun c7 => ?_)
        · rw [if_pos c7] at h
          refine lv_aload_n S.1 S.2.1 dX5_letter_30 rfl (lv_at hl 0 rfl) ?_
          refine gC_0_stand S hK hP wf_X5_10 dX5_letter_31 ?_
          refine lv_iload_n S.1 S.2.1 dX5_letter_34 rfl (lv_at hl 1 rfl) ?_
          refine lv_iload_n S.1 S.2.1 dX5_letter_35 rfl (lv_at hl 2 rfl) ?_
          obtain ⟨r9, u10, q8, h⟩ := bd_some h
          refine x_vi (Wf := WC ad cI) (q0 := 1) (ci := 3) (As := [.int x1, .int x2]) (rest := []) S hK hP hS (k_X3_underWay hap q8) rfl rfl wl_X5_108 wi_X3_underWay ws_X3_underWay wz_X3 wc_X3_underWay hy_X3_underWay ⟨Nat.le_of_ble_eq_true rfl, Nat.le_of_ble_eq_true rfl⟩ hl.1 rfl (Nat.le_of_ble_eq_true rfl) dX5_letter_36 (fun H locs hP hS => ?_)
          refine lv_istore (lv' := [(5, .int r9), (0, .ref (ad 0)), (1, .int x1), (2, .int x2), (3, .int x3), (4, .int x4)]) S.1 S.2.1 dX5_letter_39 hl (by decide) rfl (fun ls hl => ?_)
          refine lv_iload_n S.1 S.2.1 dX5_letter_41 rfl (lv_at hl 4 rfl) ?_
          refine lv_iconst (v := (-1 : Int32)) S.1 S.2.1 dX5_letter_42 (by decide) ?_
          refine lv_icmp_ne (tgt := 49) S.1 S.2.1 dX5_letter_43 (by decide) (fun c11 => ?_) (fun c11 => ?_)
          · rw [if_neg c11] at h
            refine lv_iload_n S.1 S.2.1 dX5_letter_49 rfl (lv_at hl 4 rfl) ?_
            refine lv_iload S.1 S.2.1 dX5_letter_50 (lv_at hl 0 rfl) ?_
            refine lv_icmp_lt (tgt := 58) S.1 S.2.1 dX5_letter_52 (by decide) (fun c12 => ?_) (fun c12 => ?_)
            · rw [if_pos c12] at h
              refine lv_aload_n S.1 S.2.1 dX5_letter_58 rfl (lv_at hl 1 rfl) ?_
              refine gC_0_stand S hK hP wf_X5_10 dX5_letter_59 ?_
              refine lv_iload_n S.1 S.2.1 dX5_letter_62 rfl (lv_at hl 2 rfl) ?_
              refine lv_iload_n S.1 S.2.1 dX5_letter_63 rfl (lv_at hl 3 rfl) ?_
              refine lv_iload_n S.1 S.2.1 dX5_letter_64 rfl (lv_at hl 4 rfl) ?_
              obtain ⟨r14, u15, q13, h⟩ := bd_some h
              refine x_vi (Wf := WC ad cI) (q0 := 1) (ci := 3) (As := [.int x1, .int x2, .int x3]) (rest := []) S hK hP hS (k_X3_letterAt hap q13) rfl rfl wl_X5_147 wi_X3_letterAt ws_X3_letterAt wz_X3 wc_X3_letterAt hy_X3_letterAt ⟨Nat.le_of_ble_eq_true rfl, Nat.le_of_ble_eq_true rfl⟩ hl.1 rfl (Nat.le_of_ble_eq_true rfl) dX5_letter_65 (fun H locs hP hS => ?_)
              refine lv_istore (lv' := [(6, .int r14), (5, .int r9), (0, .ref (ad 0)), (1, .int x1), (2, .int x2), (3, .int x3), (4, .int x4)]) S.1 S.2.1 dX5_letter_68 hl (by decide) rfl (fun ls hl => ?_)
              refine lv_iload S.1 S.2.1 dX5_letter_70 (lv_at hl 6 rfl) ?_
              refine lv_if_ne (tgt := 83) S.1 S.2.1 dX5_letter_72 (by decide) (fun c16 => ?_) (fun c16 => ?_)
              · rw [if_neg c16] at h
                refine lv_iload S.1 S.2.1 dX5_letter_83 (lv_at hl 0 rfl) ?_
                obtain ⟨r18, u19, q17, h⟩ := bd_some h
                refine x_si (Wf := WC ad cI) (As := [.int r14]) (rest := []) S hK hP hS (k_X3_numberOf hap q17) wl_X5_154 wt_X3_numberOf wz_X3 wc_X3_numberOf hy_X3_numberOf ⟨Nat.le_of_ble_eq_true rfl, Nat.le_of_ble_eq_true rfl⟩ hl.1 rfl (Nat.le_of_ble_eq_true rfl) dX5_letter_85 (fun H locs hP hS => ?_)
                exact B_88 _ u19 h _ _ _ hP hS (lv_sub hl [] rfl)
              · rw [if_pos c16] at h
                refine lv_iload S.1 S.2.1 dX5_letter_75 (lv_at hl 0 rfl) ?_
                obtain ⟨r21, u22, q20, h⟩ := bd_some h
                refine x_si (Wf := WC ad cI) (As := [.int r14]) (rest := []) S hK hP hS (k_X3_kindOf hap q20) wl_X5_151 wt_X3_kindOf wz_X3 wc_X3_kindOf hy_X3_kindOf ⟨Nat.le_of_ble_eq_true rfl, Nat.le_of_ble_eq_true rfl⟩ hl.1 rfl (Nat.le_of_ble_eq_true rfl) dX5_letter_77 (fun H locs hP hS => ?_)
                refine lv_goto (tgt := 88) S.1 S.2.1 dX5_letter_80 (by decide) ?_
                exact B_88 _ u22 h _ _ _ hP hS (lv_sub hl [] rfl)
            · rw [if_neg c12] at h
              refine lv_bipush (v := (-4 : Int32)) S.1 S.2.1 dX5_letter_55 (by decide) ?_
              exact x_iret S hr hlk hK hP hS h dX5_letter_57
          · rw [if_pos c11] at h
            refine lv_iload S.1 S.2.1 dX5_letter_46 (lv_at hl 0 rfl) ?_
            exact x_iret S hr hlk hK hP hS h dX5_letter_48
        · rw [if_neg c7] at h
          exact B_28 u3 h _ _ _ hP hS (lv_sub hl [] rfl)
theorem hy_X0_read : yX0_read.cls ≠ "java/lang/invoke/MethodHandle" ∧ yX0_read.cls ≠ "java/lang/invoke/VarHandle" ∧ (parseMethodDescriptor yX0_read.desc).map (fun d => d.parameters.length) = some 2 := by decide +kernel
set_option maxHeartbeats 4000000 in
set_option maxRecDepth 100000 in
theorem k_X0_read {l : Launch} {dC : Nat → ClassId} {dI : Nat → Nat → Nat} {ad : Nat → Nat} {cI : ClassId} (hap : AP ad 14) {x1 x2 : Int32} {u uf : Wo} {rf : Int32} (h : fX0_read x1 x2 u = some (rf, uf)) : CI l dC dI cI (WC ad cI) (AF ad 14) yX0_read cX0_read 4 (some .int) 0 0 [.ref (ad 2), .int x1, .int x2] u rf uf := by
  refine ci_begin (by decide) (Nat.le_of_ble_eq_true rfl) ?_
  intro p e s m args below meth c S hr hlk hK
  have B_32 : ∀ (s0 : Int32) (u : Wo), fX0_read_32 s0 u = some (rf, uf) → J p l e (rmk 0 0) s m args below meth c dC dI (WC ad cI) (AF ad 14) (MQ below (QI dC dI cI (WC ad cI) (AF ad 14) rf uf) args s 0 0 (AF ad 14)) u 32 4 [] [.int s0] := by
    intro s0 u h H locs ls hP hS hl
    unfold fX0_read_32 at h
    exact x_iret S hr hlk hK hP hS h dX0_read_32
  have B_31 : ∀ (u : Wo), fX0_read_31 u = some (rf, uf) → J p l e (rmk 0 0) s m args below meth c dC dI (WC ad cI) (AF ad 14) (MQ below (QI dC dI cI (WC ad cI) (AF ad 14) rf uf) args s 0 0 (AF ad 14)) u 31 4 [] [] := by
    intro u h H locs ls hP hS hl
    unfold fX0_read_31 at h
    refine lv_iconst (v := (0 : Int32)) S.1 S.2.1 dX0_read_31 (by decide) ?_
    exact B_32 _ u h _ _ _ hP hS (lv_sub hl [] rfl)
  intro H locs ls hP hS hl
  have hl : lv_has ls 4 [(0, .ref (ad 2)), (1, .int x1), (2, .int x2)] := hl
  unfold fX0_read at h
  refine lv_iload_n S.1 S.2.1 dX0_read_0 rfl (lv_at hl 1 rfl) ?_
  refine lv_bipush (v := (90 : Int32)) S.1 S.2.1 dX0_read_1 (by decide) ?_
  refine lv_irem S.1 S.2.1 dX0_read_3 (by decide) ?_
  refine lv_iconst (v := (3 : Int32)) S.1 S.2.1 dX0_read_4 (by decide) ?_
  refine lv_imul S.1 S.2.1 dX0_read_5 ?_
  refine lv_iload_n S.1 S.2.1 dX0_read_6 rfl (lv_at hl 2 rfl) ?_
  refine lv_iadd S.1 S.2.1 dX0_read_7 ?_
  obtain ⟨y1, hy1, h⟩ := bn_some h
  rw [hy1]
  refine lv_istore_n (lv' := [(3, .int y1), (0, .ref (ad 2)), (1, .int x1), (2, .int x2)]) S.1 S.2.1 dX0_read_8 rfl hl (by decide) rfl (fun ls hl => ?_)
  refine lv_iload_n S.1 S.2.1 dX0_read_9 rfl (lv_at hl 0 rfl) ?_
  refine lv_if_lt (tgt := 31) S.1 S.2.1 dX0_read_10 (by decide) (fun c2 => ?_) (fun c2 => ?_)
  · rw [if_pos c2] at h
    exact B_31 u h _ _ _ hP hS (lv_sub hl [] rfl)
  · rw [if_neg c2] at h
    refine lv_iload_n S.1 S.2.1 dX0_read_13 rfl (lv_at hl 0 rfl) ?_
    refine lv_aload_n S.1 S.2.1 dX0_read_14 rfl (lv_at hl 1 rfl) ?_
    refine gC_2_lines S hK hP wf_X0_11 dX0_read_15 ?_
    refine nC_7 S hK hP dX0_read_18 ?_
    refine lv_icmp_ge (tgt := 31) S.1 S.2.1 dX0_read_19 (by decide) (fun c3 => ?_) (fun c3 => ?_)
    · rw [if_pos c3] at h
      exact B_31 u h _ _ _ hP hS (lv_sub hl [] rfl)
    · rw [if_neg c3] at h
      refine lv_aload_n S.1 S.2.1 dX0_read_22 rfl (lv_at hl 1 rfl) ?_
      refine gC_2_lines S hK hP wf_X0_11 dX0_read_23 ?_
      refine lv_iload_n S.1 S.2.1 dX0_read_26 rfl (lv_at hl 0 rfl) ?_
      obtain ⟨q4, h⟩ := gi_some h
      refine lC_7 S hK hP q4 dX0_read_27 ?_
      refine lv_goto (tgt := 32) S.1 S.2.1 dX0_read_28 (by decide) ?_
      exact B_32 _ u h _ _ _ hP hS (lv_sub hl [] rfl)
theorem hy_X5_entry : yX5_entry.cls ≠ "java/lang/invoke/MethodHandle" ∧ yX5_entry.cls ≠ "java/lang/invoke/VarHandle" ∧ (parseMethodDescriptor yX5_entry.desc).map (fun d => d.parameters.length) = some 2 := by decide +kernel
set_option maxHeartbeats 4000000 in
set_option maxRecDepth 100000 in
theorem k_X5_entry {l : Launch} {dC : Nat → ClassId} {dI : Nat → Nat → Nat} {ad : Nat → Nat} {cI : ClassId} (hap : AP ad 14) {x1 x2 : Int32} {u uf : Wo} {rf : Int32} (h : fX5_entry x1 x2 u = some (rf, uf)) : CI l dC dI cI (WC ad cI) (AF ad 14) yX5_entry cX5_entry 4 (some .int) 1 23 [.ref (ad 0), .int x1, .int x2] u rf uf := by
  refine ci_begin (by decide) (Nat.le_of_ble_eq_true rfl) ?_
  intro p e s m args below meth c S hr hlk hK
  have B_13 : ∀ (u : Wo), fX5_entry_13 u = some (rf, uf) → J p l e (rmk 1 23) s m args below meth c dC dI (WC ad cI) (AF ad 14) (MQ below (QI dC dI cI (WC ad cI) (AF ad 14) rf uf) args s 0 0 (AF ad 14)) u 13 4 [] [] := by
    intro u h H locs ls hP hS hl
    unfold fX5_entry_13 at h
    refine lv_iconst (v := (-1 : Int32)) S.1 S.2.1 dX5_entry_13 (by decide) ?_
    exact x_iret S hr hlk hK hP hS h dX5_entry_14
  have B_37 : ∀ (u : Wo), fX5_entry_37 u = some (rf, uf) → J p l e (rmk 1 23) s m args below meth c dC dI (WC ad cI) (AF ad 14) (MQ below (QI dC dI cI (WC ad cI) (AF ad 14) rf uf) args s 0 0 (AF ad 14)) u 37 4 [] [] := by
    intro u h H locs ls hP hS hl
    unfold fX5_entry_37 at h
    refine lv_bipush (v := (-4 : Int32)) S.1 S.2.1 dX5_entry_37 (by decide) ?_
    exact x_iret S hr hlk hK hP hS h dX5_entry_39
  intro H locs ls hP hS hl
  have hl : lv_has ls 4 [(0, .ref (ad 0)), (1, .int x1), (2, .int x2)] := hl
  unfold fX5_entry at h
  refine lv_iload_n S.1 S.2.1 dX5_entry_0 rfl (lv_at hl 1 rfl) ?_
  refine lv_if_lt (tgt := 13) S.1 S.2.1 dX5_entry_1 (by decide) (fun c1 => ?_) (fun c1 => ?_)
  · rw [if_pos c1] at h
    exact B_13 u h _ _ _ hP hS (lv_sub hl [] rfl)
  · rw [if_neg c1] at h
    refine lv_iload_n S.1 S.2.1 dX5_entry_4 rfl (lv_at hl 2 rfl) ?_
    refine lv_if_lt (tgt := 13) S.1 S.2.1 dX5_entry_5 (by decide) (fun c2 => ?_) (fun c2 => ?_)
    · rw [if_pos c2] at h
      exact B_13 u h _ _ _ hP hS (lv_sub hl [] rfl)
    · rw [if_neg c2] at h
      refine lv_iload_n S.1 S.2.1 dX5_entry_8 rfl (lv_at hl 2 rfl) ?_
      refine lv_iconst (v := (3 : Int32)) S.1 S.2.1 dX5_entry_9 (by decide) ?_
      refine lv_icmp_lt (tgt := 15) S.1 S.2.1 dX5_entry_10 (by decide) (fun c3 => ?_) (fun c3 => ?_)
      · rw [if_pos c3] at h
        refine lv_aload_n S.1 S.2.1 dX5_entry_15 rfl (lv_at hl 0 rfl) ?_
        refine gC_0_stand S hK hP wf_X5_10 dX5_entry_16 ?_
        refine lv_sipush (v := (611 : Int32)) S.1 S.2.1 dX5_entry_19 (by decide) ?_
        obtain ⟨r5, u6, q4, h⟩ := bd_some h
        refine x_vi (Wf := WC ad cI) (q0 := 1) (ci := 3) (As := [.int (611 : Int32)]) (rest := []) S hK hP hS (k_X3_get hap q4) rfl rfl wl_X5_141 wi_X3_get ws_X3_get wz_X3 wc_X3_get hy_X3_get ⟨Nat.le_of_ble_eq_true rfl, Nat.le_of_ble_eq_true rfl⟩ hl.1 rfl (Nat.le_of_ble_eq_true rfl) dX5_entry_22 (fun H locs hP hS => ?_)
        refine lv_istore_n (lv' := [(3, .int r5), (0, .ref (ad 0)), (1, .int x1), (2, .int x2)]) S.1 S.2.1 dX5_entry_25 rfl hl (by decide) rfl (fun ls hl => ?_)
        refine lv_iload_n S.1 S.2.1 dX5_entry_26 rfl (lv_at hl 2 rfl) ?_
        refine lv_iload_n S.1 S.2.1 dX5_entry_27 rfl (lv_at hl 0 rfl) ?_
        refine lv_icmp_ge (tgt := 37) S.1 S.2.1 dX5_entry_28 (by decide) (fun c7 => ?_) (fun c7 => ?_)
        · rw [if_pos c7] at h
          exact B_37 u6 h _ _ _ hP hS (lv_sub hl [] rfl)
        · rw [if_neg c7] at h
          refine lv_iload_n S.1 S.2.1 dX5_entry_31 rfl (lv_at hl 2 rfl) ?_
          refine lv_bipush (v := (60 : Int32)) S.1 S.2.1 dX5_entry_32 (by decide) ?_
          refine lv_icmp_lt (tgt := 40) S.1 S.2.1 dX5_entry_34 (by decide) (fun c8 => ?_) (fun c8 => ?_)
          · rw [if_pos c8] at h
            refine lv_aload_n S.1 S.2.1 dX5_entry_40 rfl (lv_at hl 1 rfl) ?_
            refine gC_0_book S hK hP wf_X5_19 dX5_entry_41 ?_
            refine lv_iload_n S.1 S.2.1 dX5_entry_44 rfl (lv_at hl 0 rfl) ?_
            refine lv_iconst (v := (1 : Int32)) S.1 S.2.1 dX5_entry_45 (by decide) ?_
            refine lv_isub S.1 S.2.1 dX5_entry_46 ?_
            refine lv_iload_n S.1 S.2.1 dX5_entry_47 rfl (lv_at hl 2 rfl) ?_
            refine lv_isub S.1 S.2.1 dX5_entry_48 ?_
            refine lv_iload_n S.1 S.2.1 dX5_entry_49 rfl (lv_at hl 3 rfl) ?_
            obtain ⟨r10, u11, q9, h⟩ := bd_some h
            refine x_vi (Wf := WC ad cI) (q0 := 2) (ci := 0) (As := [.int ((r5 - (1 : Int32)) - x1), .int x2]) (rest := []) S hK hP hS (k_X0_read hap q9) rfl rfl wl_X5_157 wi_X0_read ws_X0_read wz_X0 wc_X0_read hy_X0_read ⟨Nat.le_of_ble_eq_true rfl, Nat.le_of_ble_eq_true rfl⟩ hl.1 rfl (Nat.le_of_ble_eq_true rfl) dX5_entry_50 (fun H locs hP hS => ?_)
            exact x_iret S hr hlk hK hP hS h dX5_entry_53
          · rw [if_neg c8] at h
            exact B_37 u6 h _ _ _ hP hS (lv_sub hl [] rfl)
      · rw [if_neg c3] at h
        exact B_13 u h _ _ _ hP hS (lv_sub hl [] rfl)
theorem hy_X1_takeBack : yX1_takeBack.cls ≠ "java/lang/invoke/MethodHandle" ∧ yX1_takeBack.cls ≠ "java/lang/invoke/VarHandle" ∧ (parseMethodDescriptor yX1_takeBack.desc).map (fun d => d.parameters.length) = some 0 := by decide +kernel
set_option maxHeartbeats 4000000 in
set_option maxRecDepth 100000 in
theorem k_X1_takeBack {l : Launch} {dC : Nat → ClassId} {dI : Nat → Nat → Nat} {ad : Nat → Nat} {cI : ClassId} (hap : AP ad 14) {u uf : Wo} {rf : Int32} (h : fX1_takeBack u = some (rf, uf)) : CI l dC dI cI (WC ad cI) (AF ad 14) yX1_takeBack cX1_takeBack 1 (some .boolean) 3 69 [.ref (ad 4)] u rf uf := by
  refine ci_begin (by decide) (Nat.le_of_ble_eq_true rfl) ?_
  intro p e s m args below meth c S hr hlk hK
  intro H locs ls hP hS hl
  have hl : lv_has ls 1 [(0, .ref (ad 4))] := hl
  unfold fX1_takeBack at h
  refine lv_aload_n S.1 S.2.1 dX1_takeBack_0 rfl (lv_at hl 0 rfl) ?_
  refine gC_4_kept S hK hP wf_X1_19 dX1_takeBack_1 ?_
  refine lv_if_ne (tgt := 9) S.1 S.2.1 dX1_takeBack_4 (by decide) (fun c1 => ?_) (fun c1 => ?_)
  · rw [if_neg c1] at h
    refine lv_aload_n S.1 S.2.1 dX1_takeBack_9 rfl (lv_at hl 0 rfl) ?_
    refine lv_dup S.1 S.2.1 dX1_takeBack_10 rfl ?_
    refine gC_4_kept S hK hP wf_X1_19 dX1_takeBack_11 ?_
    refine lv_iconst (v := (1 : Int32)) S.1 S.2.1 dX1_takeBack_14 (by decide) ?_
    refine lv_isub S.1 S.2.1 dX1_takeBack_15 ?_
    obtain ⟨u2, hu2, h⟩ := bw_some h
    refine pC_4_kept S hK hap hP hS wf_X1_19 dX1_takeBack_16 hu2 (fun H locs hP hS => ?_)
    refine lv_aload_n S.1 S.2.1 dX1_takeBack_19 rfl (lv_at hl 0 rfl) ?_
    refine lv_aload_n S.1 S.2.1 dX1_takeBack_20 rfl (lv_at hl 0 rfl) ?_
    refine gC_4_place S hK hP wf_X1_23 dX1_takeBack_21 ?_
    refine lv_bipush (v := (31 : Int32)) S.1 S.2.1 dX1_takeBack_24 (by decide) ?_
    refine lv_iadd S.1 S.2.1 dX1_takeBack_26 ?_
    refine lv_iconst (v := (1 : Int32)) S.1 S.2.1 dX1_takeBack_27 (by decide) ?_
    refine lv_isub S.1 S.2.1 dX1_takeBack_28 ?_
    refine lv_bipush (v := (31 : Int32)) S.1 S.2.1 dX1_takeBack_29 (by decide) ?_
    refine lv_irem S.1 S.2.1 dX1_takeBack_31 (by decide) ?_
    obtain ⟨u3, hu3, h⟩ := bw_some h
    refine pC_4_place S hK hap hP hS wf_X1_23 dX1_takeBack_32 hu3 (fun H locs hP hS => ?_)
    refine lv_aload_n S.1 S.2.1 dX1_takeBack_35 rfl (lv_at hl 0 rfl) ?_
    obtain ⟨r5, u6, q4, h⟩ := bd_some h
    refine x_vv (Wf := WC ad cI) (q0 := 4) (ci := 1) (As := []) (rest := []) S hK hP hS (k_X1_backToMark hap q4) rfl rfl wl_X1_39 wi_X1_backToMark ws_X1_backToMark wz_X1 wc_X1_backToMark hy_X1_backToMark ⟨Nat.le_of_ble_eq_true rfl, Nat.le_of_ble_eq_true rfl⟩ hl.1 rfl (Nat.le_of_ble_eq_true rfl) dX1_takeBack_36 (fun H locs hP hS => ?_)
    refine lv_iconst (v := (1 : Int32)) S.1 S.2.1 dX1_takeBack_39 (by decide) ?_
    exact x_zret S hr hlk hK hP hS (by decide) h dX1_takeBack_40
  · rw [if_pos c1] at h
    refine lv_iconst (v := (0 : Int32)) S.1 S.2.1 dX1_takeBack_7 (by decide) ?_
    exact x_zret S hr hlk hK hP hS (by decide) h dX1_takeBack_8
theorem hy_X5_undo : yX5_undo.cls ≠ "java/lang/invoke/MethodHandle" ∧ yX5_undo.cls ≠ "java/lang/invoke/VarHandle" ∧ (parseMethodDescriptor yX5_undo.desc).map (fun d => d.parameters.length) = some 0 := by decide +kernel
set_option maxHeartbeats 4000000 in
set_option maxRecDepth 100000 in
theorem k_X5_undo {l : Launch} {dC : Nat → ClassId} {dI : Nat → Nat → Nat} {ad : Nat → Nat} {cI : ClassId} (hap : AP ad 14) {u uf : Wo} {rf : Int32} (h : fX5_undo u = some (rf, uf)) : CI l dC dI cI (WC ad cI) (AF ad 14) yX5_undo cX5_undo 1 (some .int) 4 89 [.ref (ad 0)] u rf uf := by
  refine ci_begin (by decide) (Nat.le_of_ble_eq_true rfl) ?_
  intro p e s m args below meth c S hr hlk hK
  have B_16 : ∀ (s0 : Int32) (u : Wo), fX5_undo_16 s0 u = some (rf, uf) → J p l e (rmk 4 89) s m args below meth c dC dI (WC ad cI) (AF ad 14) (MQ below (QI dC dI cI (WC ad cI) (AF ad 14) rf uf) args s 0 0 (AF ad 14)) u 16 1 [] [.int s0] := by
    intro s0 u h H locs ls hP hS hl
    unfold fX5_undo_16 at h
    exact x_iret S hr hlk hK hP hS h dX5_undo_16
  intro H locs ls hP hS hl
  have hl : lv_has ls 1 [(0, .ref (ad 0))] := hl
  unfold fX5_undo at h
  refine lv_aload_n S.1 S.2.1 dX5_undo_0 rfl (lv_at hl 0 rfl) ?_
  refine gC_0_past S hK hP wf_X5_37 dX5_undo_1 ?_
  obtain ⟨r2, u3, q1, h⟩ := bd_some h
  refine x_vi (Wf := WC ad cI) (q0 := 4) (ci := 1) (As := []) (rest := []) S hK hP hS (k_X1_takeBack hap q1) rfl rfl wl_X5_160 wi_X1_takeBack ws_X1_takeBack wz_X1 wc_X1_takeBack hy_X1_takeBack ⟨Nat.le_of_ble_eq_true rfl, Nat.le_of_ble_eq_true rfl⟩ hl.1 rfl (Nat.le_of_ble_eq_true rfl) dX5_undo_4 (fun H locs hP hS => ?_)
  refine lv_if_eq (tgt := 14) S.1 S.2.1 dX5_undo_7 (by decide) (fun c4 => ?_) (fun c4 => ?_)
  · rw [if_pos c4] at h
    refine lv_bipush (v := (-2 : Int32)) S.1 S.2.1 dX5_undo_14 (by decide) ?_
    exact B_16 _ u3 h _ _ _ hP hS (lv_sub hl [] rfl)
  · rw [if_neg c4] at h
    refine lv_iconst (v := (1 : Int32)) S.1 S.2.1 dX5_undo_10 (by decide) ?_
    refine lv_goto (tgt := 16) S.1 S.2.1 dX5_undo_11 (by decide) ?_
    exact B_16 _ u3 h _ _ _ hP hS (lv_sub hl [] rfl)
set_option maxHeartbeats 4000000 in
set_option maxRecDepth 100000 in
theorem k_J7_fill_53178_13 {l : Launch} {dC : Nat → ClassId} {dI : Nat → Nat → Nat} {ad : Nat → Nat} {cI : ClassId} (hap : AP ad 14) {x1 : Int32} {u uf : Wo} {rf : Int32} (h : fJ7_fill_53178_13 x1 u = some (rf, uf)) : CV l dC dI cI (WC ad cI) (AF ad 14) yJ7_fill_53178 cJ7_fill_53178 4 none 0 0 [.ref (ad 13), .int x1] u uf := by
  refine cv_begin (by decide) (Nat.le_of_ble_eq_true rfl) ?_
  intro p e s m args below meth c S hr hlk hK
  have B_5 : ∀ (k20 : Wo → Re) (hk20 : ∀ (u : Wo), k20  u = some (rf, uf) → J p l e (rmk 0 0) s m args below meth c dC dI (WC ad cI) (AF ad 14) (MQ below (QV dC dI cI (WC ad cI) (AF ad 14) uf) args s 0 0 (AF ad 14)) u 20 4 [] []) (n : Nat) (x1 : Int32) (x2 : Int32) (x3 : Int32) (u : Wo), fJ7_fill_53178_13_5 k20 n x1 x2 x3 u = some (rf, uf) → J p l e (rmk 0 0) s m args below meth c dC dI (WC ad cI) (AF ad 14) (MQ below (QV dC dI cI (WC ad cI) (AF ad 14) uf) args s 0 0 (AF ad 14)) u 5 4 [(0, .ref (ad 13)), (1, .int x1), (2, .int x2), (3, .int x3)] [] := by
    intro k20 hk20
    intro n
    induction n with
    | zero => intro x1 x2 x3 u h; cases h
    | succ n ih =>
      intro x1 x2 x3 u h H locs ls hP hS hl
      rw [fJ7_fill_53178_13_5.eq_2] at h
      refine lv_iload_n S.1 S.2.1 dJ7_fill_53178_5 rfl (lv_at hl 2 rfl) ?_
      refine lv_iload_n S.1 S.2.1 dJ7_fill_53178_6 rfl (lv_at hl 3 rfl) ?_
      refine lv_icmp_ge (tgt := 20) S.1 S.2.1 dJ7_fill_53178_7 (by decide) (fun c1 => ?_) (fun c1 => ?_)
      · rw [if_pos c1] at h
        exact hk20 u h _ _ _ hP hS (lv_sub hl [] rfl)
      · rw [if_neg c1] at h
        refine lv_aload_n S.1 S.2.1 dJ7_fill_53178_10 rfl (lv_at hl 0 rfl) ?_
        refine lv_iload_n S.1 S.2.1 dJ7_fill_53178_11 rfl (lv_at hl 2 rfl) ?_
        refine lv_iload_n S.1 S.2.1 dJ7_fill_53178_12 rfl (lv_at hl 1 rfl) ?_
        obtain ⟨q2, h⟩ := gi_some h
        obtain ⟨u3, hu3, h⟩ := bw_some h
        refine tC_13 S hK hap hP hS q2 dJ7_fill_53178_13 hu3 (fun H locs hP hS => ?_)
        refine lv_iinc (v := (x2 + (1 : Int32))) (lv' := [(2, .int (x2 + (1 : Int32))), (0, .ref (ad 13)), (1, .int x1), (3, .int x3)]) S.1 S.2.1 dJ7_fill_53178_14 hl (k := 2) rfl rfl (by decide) rfl (fun ls hl => ?_)
        refine lv_goto (tgt := 5) S.1 S.2.1 dJ7_fill_53178_17 (by decide) ?_
        exact ih _ _ _ u3 h _ _ _ hP hS (lv_sub hl [1, 2, 0, 3] rfl)
  have B_20 : ∀ (u : Wo), fJ7_fill_53178_13_20 u = some (rf, uf) → J p l e (rmk 0 0) s m args below meth c dC dI (WC ad cI) (AF ad 14) (MQ below (QV dC dI cI (WC ad cI) (AF ad 14) uf) args s 0 0 (AF ad 14)) u 20 4 [] [] := by
    intro u h H locs ls hP hS hl
    unfold fJ7_fill_53178_13_20 at h
    exact x_vret S hr hlk hK hP hS h dJ7_fill_53178_20
  intro H locs ls hP hS hl
  have hl : lv_has ls 4 [(0, .ref (ad 13)), (1, .int x1)] := hl
  unfold fJ7_fill_53178_13 at h
  refine lv_iconst (v := (0 : Int32)) S.1 S.2.1 dJ7_fill_53178_0 (by decide) ?_
  refine lv_istore_n (lv' := [(2, .int (0 : Int32)), (0, .ref (ad 13)), (1, .int x1)]) S.1 S.2.1 dJ7_fill_53178_1 rfl hl (by decide) rfl (fun ls hl => ?_)
  refine lv_aload_n S.1 S.2.1 dJ7_fill_53178_2 rfl (lv_at hl 1 rfl) ?_
  refine nC_13 S hK hP dJ7_fill_53178_3 ?_
  refine lv_istore_n (lv' := [(3, .int (7 : Int32)), (2, .int (0 : Int32)), (0, .ref (ad 13)), (1, .int x1)]) S.1 S.2.1 dJ7_fill_53178_4 rfl hl (by decide) rfl (fun ls hl => ?_)
  exact B_5 _ B_20 FU _ _ _ u h _ _ _ hP hS (lv_sub hl [2, 3, 1, 0] rfl)
set_option maxHeartbeats 4000000 in
set_option maxRecDepth 100000 in
theorem k_J7_fill_53178_11 {l : Launch} {dC : Nat → ClassId} {dI : Nat → Nat → Nat} {ad : Nat → Nat} {cI : ClassId} (hap : AP ad 14) {x1 : Int32} {u uf : Wo} {rf : Int32} (h : fJ7_fill_53178_11 x1 u = some (rf, uf)) : CV l dC dI cI (WC ad cI) (AF ad 14) yJ7_fill_53178 cJ7_fill_53178 4 none 0 0 [.ref (ad 11), .int x1] u uf := by
  refine cv_begin (by decide) (Nat.le_of_ble_eq_true rfl) ?_
  intro p e s m args below meth c S hr hlk hK
  have B_5 : ∀ (k20 : Wo → Re) (hk20 : ∀ (u : Wo), k20  u = some (rf, uf) → J p l e (rmk 0 0) s m args below meth c dC dI (WC ad cI) (AF ad 14) (MQ below (QV dC dI cI (WC ad cI) (AF ad 14) uf) args s 0 0 (AF ad 14)) u 20 4 [] []) (n : Nat) (x1 : Int32) (x2 : Int32) (x3 : Int32) (u : Wo), fJ7_fill_53178_11_5 k20 n x1 x2 x3 u = some (rf, uf) → J p l e (rmk 0 0) s m args below meth c dC dI (WC ad cI) (AF ad 14) (MQ below (QV dC dI cI (WC ad cI) (AF ad 14) uf) args s 0 0 (AF ad 14)) u 5 4 [(0, .ref (ad 11)), (1, .int x1), (2, .int x2), (3, .int x3)] [] := by
    intro k20 hk20
    intro n
    induction n with
    | zero => intro x1 x2 x3 u h; cases h
    | succ n ih =>
      intro x1 x2 x3 u h H locs ls hP hS hl
      rw [fJ7_fill_53178_11_5.eq_2] at h
      refine lv_iload_n S.1 S.2.1 dJ7_fill_53178_5 rfl (lv_at hl 2 rfl) ?_
      refine lv_iload_n S.1 S.2.1 dJ7_fill_53178_6 rfl (lv_at hl 3 rfl) ?_
      refine lv_icmp_ge (tgt := 20) S.1 S.2.1 dJ7_fill_53178_7 (by decide) (fun c1 => ?_) (fun c1 => ?_)
      · rw [if_pos c1] at h
        exact hk20 u h _ _ _ hP hS (lv_sub hl [] rfl)
      · rw [if_neg c1] at h
        refine lv_aload_n S.1 S.2.1 dJ7_fill_53178_10 rfl (lv_at hl 0 rfl) ?_
        refine lv_iload_n S.1 S.2.1 dJ7_fill_53178_11 rfl (lv_at hl 2 rfl) ?_
        refine lv_iload_n S.1 S.2.1 dJ7_fill_53178_12 rfl (lv_at hl 1 rfl) ?_
        obtain ⟨q2, h⟩ := gi_some h
        obtain ⟨u3, hu3, h⟩ := bw_some h
        refine tC_11 S hK hap hP hS q2 dJ7_fill_53178_13 hu3 (fun H locs hP hS => ?_)
        refine lv_iinc (v := (x2 + (1 : Int32))) (lv' := [(2, .int (x2 + (1 : Int32))), (0, .ref (ad 11)), (1, .int x1), (3, .int x3)]) S.1 S.2.1 dJ7_fill_53178_14 hl (k := 2) rfl rfl (by decide) rfl (fun ls hl => ?_)
        refine lv_goto (tgt := 5) S.1 S.2.1 dJ7_fill_53178_17 (by decide) ?_
        exact ih _ _ _ u3 h _ _ _ hP hS (lv_sub hl [1, 2, 0, 3] rfl)
  have B_20 : ∀ (u : Wo), fJ7_fill_53178_11_20 u = some (rf, uf) → J p l e (rmk 0 0) s m args below meth c dC dI (WC ad cI) (AF ad 14) (MQ below (QV dC dI cI (WC ad cI) (AF ad 14) uf) args s 0 0 (AF ad 14)) u 20 4 [] [] := by
    intro u h H locs ls hP hS hl
    unfold fJ7_fill_53178_11_20 at h
    exact x_vret S hr hlk hK hP hS h dJ7_fill_53178_20
  intro H locs ls hP hS hl
  have hl : lv_has ls 4 [(0, .ref (ad 11)), (1, .int x1)] := hl
  unfold fJ7_fill_53178_11 at h
  refine lv_iconst (v := (0 : Int32)) S.1 S.2.1 dJ7_fill_53178_0 (by decide) ?_
  refine lv_istore_n (lv' := [(2, .int (0 : Int32)), (0, .ref (ad 11)), (1, .int x1)]) S.1 S.2.1 dJ7_fill_53178_1 rfl hl (by decide) rfl (fun ls hl => ?_)
  refine lv_aload_n S.1 S.2.1 dJ7_fill_53178_2 rfl (lv_at hl 1 rfl) ?_
  refine nC_11 S hK hP dJ7_fill_53178_3 ?_
  refine lv_istore_n (lv' := [(3, .int (1024 : Int32)), (2, .int (0 : Int32)), (0, .ref (ad 11)), (1, .int x1)]) S.1 S.2.1 dJ7_fill_53178_4 rfl hl (by decide) rfl (fun ls hl => ?_)
  exact B_5 _ B_20 FU _ _ _ u h _ _ _ hP hS (lv_sub hl [2, 3, 1, 0] rfl)
set_option maxHeartbeats 4000000 in
set_option maxRecDepth 100000 in
theorem k_X3_copyTo_12 {l : Launch} {dC : Nat → ClassId} {dI : Nat → Nat → Nat} {ad : Nat → Nat} {cI : ClassId} (hap : AP ad 14) {x2 x3 : Int32} {u uf : Wo} {rf : Int32} (h : fX3_copyTo_12 x2 x3 u = some (rf, uf)) : CV l dC dI cI (WC ad cI) (AF ad 14) yX3_copyTo cX3_copyTo 4 none 1 26 [.ref (ad 1), .ref (ad 12), .int x2, .int x3] u uf := by
  refine cv_begin (by decide) (Nat.le_of_ble_eq_true rfl) ?_
  intro p e s m args below meth c S hr hlk hK
  have B_36 : ∀ (u : Wo), fX3_copyTo_12_36 u = some (rf, uf) → J p l e (rmk 1 26) s m args below meth c dC dI (WC ad cI) (AF ad 14) (MQ below (QV dC dI cI (WC ad cI) (AF ad 14) uf) args s 0 0 (AF ad 14)) u 36 4 [] [] := by
    intro u h H locs ls hP hS hl
    unfold fX3_copyTo_12_36 at h
    exact x_vret S hr hlk hK hP hS h dX3_copyTo_36
  intro H locs ls hP hS hl
  have hl : lv_has ls 4 [(0, .ref (ad 1)), (1, .ref (ad 12)), (2, .int x2), (3, .int x3)] := hl
  unfold fX3_copyTo_12 at h
  refine lv_iload_n S.1 S.2.1 dX3_copyTo_0 rfl (lv_at hl 2 rfl) ?_
  refine lv_if_lt (tgt := 36) S.1 S.2.1 dX3_copyTo_1 (by decide) (fun c1 => ?_) (fun c1 => ?_)
  · rw [if_pos c1] at h
    exact B_36 u h _ _ _ hP hS (lv_sub hl [] rfl)
  · rw [if_neg c1] at h
    refine lv_iload_n S.1 S.2.1 dX3_copyTo_4 rfl (lv_at hl 3 rfl) ?_
    refine lv_if_lt (tgt := 36) S.1 S.2.1 dX3_copyTo_5 (by decide) (fun c2 => ?_) (fun c2 => ?_)
    · rw [if_pos c2] at h
      exact B_36 u h _ _ _ hP hS (lv_sub hl [] rfl)
    · rw [if_neg c2] at h
      refine lv_iload_n S.1 S.2.1 dX3_copyTo_8 rfl (lv_at hl 3 rfl) ?_
      refine lv_aload_n S.1 S.2.1 dX3_copyTo_9 rfl (lv_at hl 0 rfl) ?_
      refine gC_1_row S hK hP wf_X3_11 dX3_copyTo_10 ?_
      refine nC_6 S hK hP dX3_copyTo_13 ?_
      refine lv_icmp_gt (tgt := 36) S.1 S.2.1 dX3_copyTo_14 (by decide) (fun c3 => ?_) (fun c3 => ?_)
      · rw [if_pos c3] at h
        exact B_36 u h _ _ _ hP hS (lv_sub hl [] rfl)
      · rw [if_neg c3] at h
        refine lv_iload_n S.1 S.2.1 dX3_copyTo_17 rfl (lv_at hl 2 rfl) ?_
        refine lv_aload_n S.1 S.2.1 dX3_copyTo_18 rfl (lv_at hl 1 rfl) ?_
        refine nC_12 S hK hP dX3_copyTo_19 ?_
        refine lv_iload_n S.1 S.2.1 dX3_copyTo_20 rfl (lv_at hl 3 rfl) ?_
        refine lv_isub S.1 S.2.1 dX3_copyTo_21 ?_
        refine lv_icmp_gt (tgt := 36) S.1 S.2.1 dX3_copyTo_22 (by decide) (fun c4 => ?_) (fun c4 => ?_)
        · rw [if_pos c4] at h
          exact B_36 u h _ _ _ hP hS (lv_sub hl [] rfl)
        · rw [if_neg c4] at h
          refine lv_aload_n S.1 S.2.1 dX3_copyTo_25 rfl (lv_at hl 0 rfl) ?_
          refine gC_1_row S hK hP wf_X3_11 dX3_copyTo_26 ?_
          refine lv_iconst (v := (0 : Int32)) S.1 S.2.1 dX3_copyTo_29 (by decide) ?_
          refine lv_aload_n S.1 S.2.1 dX3_copyTo_30 rfl (lv_at hl 1 rfl) ?_
          refine lv_iload_n S.1 S.2.1 dX3_copyTo_31 rfl (lv_at hl 2 rfl) ?_
          refine lv_iload_n S.1 S.2.1 dX3_copyTo_32 rfl (lv_at hl 3 rfl) ?_
          obtain ⟨q5, h⟩ := gi_some h
          obtain ⟨u6, hu6, h⟩ := bw_some h
          refine x_cpy (Wf := WC ad cI) S hK hP (WC_D hap u) hS wl_X3_83 hl.1 (hC_6 u) (hC_12 u) q5 ⟨Nat.le_of_ble_eq_true rfl, Nat.le_of_ble_eq_true rfl⟩ dX3_copyTo_33 hu6 (cC_6_12 u _ _ _) (fun H locs hP hS => ?_)
          exact B_36 u6 h _ _ _ hP hS (lv_sub hl [] rfl)
theorem hy_X2_mixed : yX2_mixed.cls ≠ "java/lang/invoke/MethodHandle" ∧ yX2_mixed.cls ≠ "java/lang/invoke/VarHandle" ∧ (parseMethodDescriptor yX2_mixed.desc).map (fun d => d.parameters.length) = some 3 := by decide +kernel
set_option maxHeartbeats 4000000 in
set_option maxRecDepth 100000 in
theorem k_X2_mixed {l : Launch} {dC : Nat → ClassId} {dI : Nat → Nat → Nat} {ad : Nat → Nat} {cI : ClassId} (hap : AP ad 14) {x1 x2 x3 : Int32} {u uf : Wo} {rf : Int32} (h : fX2_mixed x1 x2 x3 u = some (rf, uf)) : CI l dC dI cI (WC ad cI) (AF ad 14) yX2_mixed cX2_mixed 7 (some .int) 1 21 [.ref (ad 5), .int x1, .int x2, .int x3] u rf uf := by
  refine ci_begin (by decide) (Nat.le_of_ble_eq_true rfl) ?_
  intro p e s m args below meth c S hr hlk hK
  have B_19 : ∀ (k52 : Int32 → Wo → Re) (hk52 : ∀ (x5 : Int32) (u : Wo), k52 x5 u = some (rf, uf) → J p l e (rmk 1 21) s m args below meth c dC dI (WC ad cI) (AF ad 14) (MQ below (QI dC dI cI (WC ad cI) (AF ad 14) rf uf) args s 0 0 (AF ad 14)) u 52 7 [(5, .int x5)] []) (n : Nat) (x3 : Int32) (x5 : Int32) (x6 : Int32) (u : Wo), fX2_mixed_19 k52 n x3 x5 x6 u = some (rf, uf) → J p l e (rmk 1 21) s m args below meth c dC dI (WC ad cI) (AF ad 14) (MQ below (QI dC dI cI (WC ad cI) (AF ad 14) rf uf) args s 0 0 (AF ad 14)) u 19 7 [(3, .int x3), (4, .ref (ad 6)), (5, .int x5), (6, .int x6)] [] := by
    intro k52 hk52
    intro n
    induction n with
    | zero => intro x3 x5 x6 u h; cases h
    | succ n ih =>
      intro x3 x5 x6 u h H locs ls hP hS hl
      rw [fX2_mixed_19.eq_2] at h
      refine lv_iload S.1 S.2.1 dX2_mixed_19 (lv_at hl 3 rfl) ?_
      refine lv_iload_n S.1 S.2.1 dX2_mixed_21 rfl (lv_at hl 0 rfl) ?_
      refine lv_icmp_ge (tgt := 52) S.1 S.2.1 dX2_mixed_22 (by decide) (fun c1 => ?_) (fun c1 => ?_)
      · rw [if_pos c1] at h
        exact hk52 _ u h _ _ _ hP hS (lv_sub hl [2] rfl)
      · rw [if_neg c1] at h
        refine lv_iload S.1 S.2.1 dX2_mixed_25 (lv_at hl 3 rfl) ?_
        refine lv_aload S.1 S.2.1 dX2_mixed_27 (lv_at hl 1 rfl) ?_
        refine nC_6 S hK hP dX2_mixed_29 ?_
        refine lv_icmp_ge (tgt := 52) S.1 S.2.1 dX2_mixed_30 (by decide) (fun c2 => ?_) (fun c2 => ?_)
        · rw [if_pos c2] at h
          exact hk52 _ u h _ _ _ hP hS (lv_sub hl [2] rfl)
        · rw [if_neg c2] at h
          refine lv_iload S.1 S.2.1 dX2_mixed_33 (lv_at hl 2 rfl) ?_
          refine lv_bipush (v := (31 : Int32)) S.1 S.2.1 dX2_mixed_35 (by decide) ?_
          refine lv_imul S.1 S.2.1 dX2_mixed_37 ?_
          refine lv_aload S.1 S.2.1 dX2_mixed_38 (lv_at hl 1 rfl) ?_
          refine lv_iload S.1 S.2.1 dX2_mixed_40 (lv_at hl 3 rfl) ?_
          obtain ⟨q3, h⟩ := gi_some h
          refine lC_6 S hK hP q3 dX2_mixed_42 ?_
          refine lv_iadd S.1 S.2.1 dX2_mixed_43 ?_
          refine lv_istore (lv' := [(5, .int ((x5 * (31 : Int32)) + (u 6 (x6).toNatClampNeg))), (3, .int x3), (4, .ref (ad 6)), (6, .int x6)]) S.1 S.2.1 dX2_mixed_44 hl (by decide) rfl (fun ls hl => ?_)
          refine lv_iinc (v := (x6 + (1 : Int32))) (lv' := [(6, .int (x6 + (1 : Int32))), (5, .int ((x5 * (31 : Int32)) + (u 6 (x6).toNatClampNeg))), (3, .int x3), (4, .ref (ad 6))]) S.1 S.2.1 dX2_mixed_46 hl (k := 3) rfl rfl (by decide) rfl (fun ls hl => ?_)
          refine lv_goto (tgt := 19) S.1 S.2.1 dX2_mixed_49 (by decide) ?_
          exact ih _ _ _ u h _ _ _ hP hS (lv_sub hl [2, 3, 1, 0] rfl)
  have B_52 : ∀ (x5 : Int32) (u : Wo), fX2_mixed_52 x5 u = some (rf, uf) → J p l e (rmk 1 21) s m args below meth c dC dI (WC ad cI) (AF ad 14) (MQ below (QI dC dI cI (WC ad cI) (AF ad 14) rf uf) args s 0 0 (AF ad 14)) u 52 7 [(5, .int x5)] [] := by
    intro x5 u h H locs ls hP hS hl
    unfold fX2_mixed_52 at h
    refine lv_iload S.1 S.2.1 dX2_mixed_52 (lv_at hl 0 rfl) ?_
    exact x_iret S hr hlk hK hP hS h dX2_mixed_54
  intro H locs ls hP hS hl
  have hl : lv_has ls 7 [(0, .ref (ad 5)), (1, .int x1), (2, .int x2), (3, .int x3)] := hl
  unfold fX2_mixed at h
  refine lv_aload_n S.1 S.2.1 dX2_mixed_0 rfl (lv_at hl 0 rfl) ?_
  refine gC_5_stand S hK hP wf_X2_9 dX2_mixed_1 ?_
  refine gC_1_row S hK hP wf_X2_140 dX2_mixed_4 ?_
  refine lv_astore (lv' := [(4, .ref (ad 6)), (0, .ref (ad 5)), (1, .int x1), (2, .int x2), (3, .int x3)]) S.1 S.2.1 dX2_mixed_7 hl (by decide) rfl (fun ls hl => ?_)
  refine lv_iload_n S.1 S.2.1 dX2_mixed_9 rfl (lv_at hl 2 rfl) ?_
  refine lv_istore (lv' := [(5, .int x1), (4, .ref (ad 6)), (0, .ref (ad 5)), (1, .int x1), (2, .int x2), (3, .int x3)]) S.1 S.2.1 dX2_mixed_10 hl (by decide) rfl (fun ls hl => ?_)
  refine lv_iload_n S.1 S.2.1 dX2_mixed_12 rfl (lv_at hl 4 rfl) ?_
  refine lv_iconst (v := (0 : Int32)) S.1 S.2.1 dX2_mixed_13 (by decide) ?_
  refine x_max S wl_X2_104 hl.1 ⟨Nat.le_of_ble_eq_true rfl, Nat.le_of_ble_eq_true rfl⟩ dX2_mixed_14 ?_
  refine lv_istore (lv' := [(6, .int (if x2 < (0 : Int32) then (0 : Int32) else x2)), (5, .int x1), (4, .ref (ad 6)), (0, .ref (ad 5)), (1, .int x1), (2, .int x2), (3, .int x3)]) S.1 S.2.1 dX2_mixed_17 hl (by decide) rfl (fun ls hl => ?_)
  exact B_19 _ B_52 FU _ _ _ u h _ _ _ hP hS (lv_sub hl [6, 2, 1, 0] rfl)
theorem hy_X3_wayFrom : yX3_wayFrom.cls ≠ "java/lang/invoke/MethodHandle" ∧ yX3_wayFrom.cls ≠ "java/lang/invoke/VarHandle" ∧ (parseMethodDescriptor yX3_wayFrom.desc).map (fun d => d.parameters.length) = some 0 := by decide +kernel
set_option maxHeartbeats 4000000 in
set_option maxRecDepth 100000 in
theorem k_X3_wayFrom {l : Launch} {dC : Nat → ClassId} {dI : Nat → Nat → Nat} {ad : Nat → Nat} {cI : ClassId} (hap : AP ad 14) {u uf : Wo} {rf : Int32} (h : fX3_wayFrom u = some (rf, uf)) : CI l dC dI cI (WC ad cI) (AF ad 14) yX3_wayFrom cX3_wayFrom 1 (some .int) 0 0 [.ref (ad 1)] u rf uf := by
  refine ci_begin (by decide) (Nat.le_of_ble_eq_true rfl) ?_
  intro p e s m args below meth c S hr hlk hK
  have B_27 : ∀ (s0 : Int32) (u : Wo), fX3_wayFrom_27 s0 u = some (rf, uf) → J p l e (rmk 0 0) s m args below meth c dC dI (WC ad cI) (AF ad 14) (MQ below (QI dC dI cI (WC ad cI) (AF ad 14) rf uf) args s 0 0 (AF ad 14)) u 27 1 [] [.int s0] := by
    intro s0 u h H locs ls hP hS hl
    unfold fX3_wayFrom_27 at h
    exact x_iret S hr hlk hK hP hS h dX3_wayFrom_27
  intro H locs ls hP hS hl
  have hl : lv_has ls 1 [(0, .ref (ad 1))] := hl
  unfold fX3_wayFrom at h
  refine lv_aload_n S.1 S.2.1 dX3_wayFrom_0 rfl (lv_at hl 0 rfl) ?_
  refine gC_1_way S hK hP wf_X3_15 dX3_wayFrom_1 ?_
  refine lv_if_ne (tgt := 12) S.1 S.2.1 dX3_wayFrom_4 (by decide) (fun c1 => ?_) (fun c1 => ?_)
  · rw [if_neg c1] at h
    refine lv_aload_n S.1 S.2.1 dX3_wayFrom_12 rfl (lv_at hl 0 rfl) ?_
    refine gC_1_way S hK hP wf_X3_15 dX3_wayFrom_13 ?_
    refine lv_iconst (v := (1 : Int32)) S.1 S.2.1 dX3_wayFrom_16 (by decide) ?_
    refine lv_icmp_ne (tgt := 25) S.1 S.2.1 dX3_wayFrom_17 (by decide) (fun c2 => ?_) (fun c2 => ?_)
    · rw [if_neg c2] at h
      refine lv_bipush (v := (80 : Int32)) S.1 S.2.1 dX3_wayFrom_25 (by decide) ?_
      exact B_27 _ u h _ _ _ hP hS (lv_sub hl [] rfl)
    · rw [if_pos c2] at h
      refine lv_bipush (v := (30 : Int32)) S.1 S.2.1 dX3_wayFrom_20 (by decide) ?_
      refine lv_goto (tgt := 27) S.1 S.2.1 dX3_wayFrom_22 (by decide) ?_
      exact B_27 _ u h _ _ _ hP hS (lv_sub hl [] rfl)
  · rw [if_pos c1] at h
    refine lv_bipush (v := (6 : Int32)) S.1 S.2.1 dX3_wayFrom_7 (by decide) ?_
    refine lv_goto (tgt := 27) S.1 S.2.1 dX3_wayFrom_9 (by decide) ?_
    exact B_27 _ u h _ _ _ hP hS (lv_sub hl [] rfl)
theorem hy_X3_wayTo : yX3_wayTo.cls ≠ "java/lang/invoke/MethodHandle" ∧ yX3_wayTo.cls ≠ "java/lang/invoke/VarHandle" ∧ (parseMethodDescriptor yX3_wayTo.desc).map (fun d => d.parameters.length) = some 0 := by decide +kernel
set_option maxHeartbeats 4000000 in
set_option maxRecDepth 100000 in
theorem k_X3_wayTo {l : Launch} {dC : Nat → ClassId} {dI : Nat → Nat → Nat} {ad : Nat → Nat} {cI : ClassId} (hap : AP ad 14) {u uf : Wo} {rf : Int32} (h : fX3_wayTo u = some (rf, uf)) : CI l dC dI cI (WC ad cI) (AF ad 14) yX3_wayTo cX3_wayTo 1 (some .int) 0 0 [.ref (ad 1)] u rf uf := by
  refine ci_begin (by decide) (Nat.le_of_ble_eq_true rfl) ?_
  intro p e s m args below meth c S hr hlk hK
  have B_28 : ∀ (s0 : Int32) (u : Wo), fX3_wayTo_28 s0 u = some (rf, uf) → J p l e (rmk 0 0) s m args below meth c dC dI (WC ad cI) (AF ad 14) (MQ below (QI dC dI cI (WC ad cI) (AF ad 14) rf uf) args s 0 0 (AF ad 14)) u 28 1 [] [.int s0] := by
    intro s0 u h H locs ls hP hS hl
    unfold fX3_wayTo_28 at h
    exact x_iret S hr hlk hK hP hS h dX3_wayTo_28
  intro H locs ls hP hS hl
  have hl : lv_has ls 1 [(0, .ref (ad 1))] := hl
  unfold fX3_wayTo at h
  refine lv_aload_n S.1 S.2.1 dX3_wayTo_0 rfl (lv_at hl 0 rfl) ?_
  refine gC_1_way S hK hP wf_X3_15 dX3_wayTo_1 ?_
  refine lv_if_ne (tgt := 12) S.1 S.2.1 dX3_wayTo_4 (by decide) (fun c1 => ?_) (fun c1 => ?_)
  · rw [if_neg c1] at h
    refine lv_aload_n S.1 S.2.1 dX3_wayTo_12 rfl (lv_at hl 0 rfl) ?_
    refine gC_1_way S hK hP wf_X3_15 dX3_wayTo_13 ?_
    refine lv_iconst (v := (1 : Int32)) S.1 S.2.1 dX3_wayTo_16 (by decide) ?_
    refine lv_icmp_ne (tgt := 25) S.1 S.2.1 dX3_wayTo_17 (by decide) (fun c2 => ?_) (fun c2 => ?_)
    · rw [if_neg c2] at h
      refine lv_sipush (v := (140 : Int32)) S.1 S.2.1 dX3_wayTo_25 (by decide) ?_
      exact B_28 _ u h _ _ _ hP hS (lv_sub hl [] rfl)
    · rw [if_pos c2] at h
      refine lv_bipush (v := (80 : Int32)) S.1 S.2.1 dX3_wayTo_20 (by decide) ?_
      refine lv_goto (tgt := 28) S.1 S.2.1 dX3_wayTo_22 (by decide) ?_
      exact B_28 _ u h _ _ _ hP hS (lv_sub hl [] rfl)
  · rw [if_pos c1] at h
    refine lv_bipush (v := (30 : Int32)) S.1 S.2.1 dX3_wayTo_7 (by decide) ?_
    refine lv_goto (tgt := 28) S.1 S.2.1 dX3_wayTo_9 (by decide) ?_
    exact B_28 _ u h _ _ _ hP hS (lv_sub hl [] rfl)
theorem hy_X2_hash : yX2_hash.cls ≠ "java/lang/invoke/MethodHandle" ∧ yX2_hash.cls ≠ "java/lang/invoke/VarHandle" ∧ (parseMethodDescriptor yX2_hash.desc).map (fun d => d.parameters.length) = some 0 := by decide +kernel
set_option maxHeartbeats 4000000 in
set_option maxRecDepth 100000 in
theorem k_X2_hash {l : Launch} {dC : Nat → ClassId} {dI : Nat → Nat → Nat} {ad : Nat → Nat} {cI : ClassId} (hap : AP ad 14) {u uf : Wo} {rf : Int32} (h : fX2_hash u = some (rf, uf)) : CI l dC dI cI (WC ad cI) (AF ad 14) yX2_hash cX2_hash 5 (some .int) 2 47 [.ref (ad 5)] u rf uf := by
  refine ci_begin (by decide) (Nat.le_of_ble_eq_true rfl) ?_
  intro p e s m args below meth c S hr hlk hK
  have B_44 : ∀ (k90 : Int32 → Int32 → Wo → Re) (hk90 : ∀ (x1 : Int32) (x2 : Int32) (u : Wo), k90 x1 x2 u = some (rf, uf) → J p l e (rmk 2 47) s m args below meth c dC dI (WC ad cI) (AF ad 14) (MQ below (QI dC dI cI (WC ad cI) (AF ad 14) rf uf) args s 0 0 (AF ad 14)) u 90 5 [(0, .ref (ad 5)), (1, .int x1), (2, .int x2)] []) (n : Nat) (x1 : Int32) (x2 : Int32) (x3 : Int32) (u : Wo), fX2_hash_44 k90 n x1 x2 x3 u = some (rf, uf) → J p l e (rmk 2 47) s m args below meth c dC dI (WC ad cI) (AF ad 14) (MQ below (QI dC dI cI (WC ad cI) (AF ad 14) rf uf) args s 0 0 (AF ad 14)) u 44 5 [(0, .ref (ad 5)), (1, .int x1), (2, .int x2), (3, .int x3)] [] := by
    intro k90 hk90
    intro n
    induction n with
    | zero => intro x1 x2 x3 u h; cases h
    | succ n ih =>
      intro x1 x2 x3 u h H locs ls hP hS hl
      rw [fX2_hash_44.eq_2] at h
      refine lv_iload_n S.1 S.2.1 dX2_hash_44 rfl (lv_at hl 3 rfl) ?_
      refine lv_aload_n S.1 S.2.1 dX2_hash_45 rfl (lv_at hl 0 rfl) ?_
      refine gC_5_stand S hK hP wf_X2_9 dX2_hash_46 ?_
      refine gC_1_n S hK hP wf_X2_84 dX2_hash_49 ?_
      refine lv_icmp_ge (tgt := 90) S.1 S.2.1 dX2_hash_52 (by decide) (fun c14 => ?_) (fun c14 => ?_)
      · rw [if_pos c14] at h
        exact hk90 _ _ u h _ _ _ hP hS (lv_sub hl [0, 1, 2] rfl)
      · rw [if_neg c14] at h
        refine lv_iload_n S.1 S.2.1 dX2_hash_55 rfl (lv_at hl 2 rfl) ?_
        refine lv_iload_n S.1 S.2.1 dX2_hash_56 rfl (lv_at hl 3 rfl) ?_
        obtain ⟨r16, u17, q15, h⟩ := bd_some h
        refine x_si (Wf := WC ad cI) (As := [.int x2, .int x3]) (rest := []) S hK hP hS (k_X3_lettersOf hap q15) wl_X2_137 wt_X3_lettersOf wz_X3 wc_X3_lettersOf hy_X3_lettersOf ⟨Nat.le_of_ble_eq_true rfl, Nat.le_of_ble_eq_true rfl⟩ hl.1 rfl (Nat.le_of_ble_eq_true rfl) dX2_hash_57 (fun H locs hP hS => ?_)
        refine lv_istore (lv' := [(4, .int r16), (0, .ref (ad 5)), (1, .int x1), (2, .int x2), (3, .int x3)]) S.1 S.2.1 dX2_hash_60 hl (by decide) rfl (fun ls hl => ?_)
        refine lv_aload_n S.1 S.2.1 dX2_hash_62 rfl (lv_at hl 1 rfl) ?_
        refine lv_iload_n S.1 S.2.1 dX2_hash_63 rfl (lv_at hl 2 rfl) ?_
        refine lv_iload S.1 S.2.1 dX2_hash_64 (lv_at hl 0 rfl) ?_
        refine lv_iload S.1 S.2.1 dX2_hash_66 (lv_at hl 0 rfl) ?_
        refine lv_iconst (v := (1 : Int32)) S.1 S.2.1 dX2_hash_68 (by decide) ?_
        refine lv_iadd S.1 S.2.1 dX2_hash_69 ?_
        refine lv_aload_n S.1 S.2.1 dX2_hash_70 rfl (lv_at hl 1 rfl) ?_
        refine gC_5_stand S hK hP wf_X2_9 dX2_hash_71 ?_
        refine lv_iload_n S.1 S.2.1 dX2_hash_74 rfl (lv_at hl 3 rfl) ?_
        refine lv_iload_n S.1 S.2.1 dX2_hash_75 rfl (lv_at hl 4 rfl) ?_
        obtain ⟨r19, u20, q18, h⟩ := bd_some h
        refine x_vi (Wf := WC ad cI) (q0 := 1) (ci := 3) (As := [.int x2, .int x3]) (rest := [.int (r16 + (1 : Int32)), .int r16, .int x1, .ref (ad 5)]) S hK hP hS (k_X3_underWay hap q18) rfl rfl wl_X2_87 wi_X3_underWay ws_X3_underWay wz_X3 wc_X3_underWay hy_X3_underWay ⟨Nat.le_of_ble_eq_true rfl, Nat.le_of_ble_eq_true rfl⟩ hl.1 rfl (Nat.le_of_ble_eq_true rfl) dX2_hash_76 (fun H locs hP hS => ?_)
        refine lv_iadd S.1 S.2.1 dX2_hash_79 ?_
        obtain ⟨r22, u23, q21, h⟩ := bd_some h
        refine x_vi (Wf := WC ad cI) (q0 := 5) (ci := 2) (As := [.int x1, .int r16, .int ((r16 + (1 : Int32)) + r19)]) (rest := []) S hK hP hS (k_X2_mixed hap q21) rfl rfl wl_X2_143 wi_X2_mixed ws_X2_mixed wz_X2 wc_X2_mixed hy_X2_mixed ⟨Nat.le_of_ble_eq_true rfl, Nat.le_of_ble_eq_true rfl⟩ hl.1 rfl (Nat.le_of_ble_eq_true rfl) dX2_hash_80 (fun H locs hP hS => ?_)
        refine lv_istore_n (lv' := [(1, .int r22), (4, .int r16), (0, .ref (ad 5)), (2, .int x2), (3, .int x3)]) S.1 S.2.1 dX2_hash_83 rfl hl (by decide) rfl (fun ls hl => ?_)
        refine lv_iinc (v := (x3 + (1 : Int32))) (lv' := [(3, .int (x3 + (1 : Int32))), (1, .int r22), (4, .int r16), (0, .ref (ad 5)), (2, .int x2)]) S.1 S.2.1 dX2_hash_84 hl (k := 4) rfl rfl (by decide) rfl (fun ls hl => ?_)
        refine lv_goto (tgt := 44) S.1 S.2.1 dX2_hash_87 (by decide) ?_
        exact ih _ _ _ u23 h _ _ _ hP hS (lv_sub hl [3, 1, 4, 0] rfl)
  have B_90 : ∀ (k31 : Int32 → Int32 → Wo → Re) (hk31 : ∀ (x1 : Int32) (x2 : Int32) (u : Wo), k31 x1 x2 u = some (rf, uf) → J p l e (rmk 2 47) s m args below meth c dC dI (WC ad cI) (AF ad 14) (MQ below (QI dC dI cI (WC ad cI) (AF ad 14) rf uf) args s 0 0 (AF ad 14)) u 31 5 [(0, .ref (ad 5)), (1, .int x1), (2, .int x2)] []) (x1 : Int32) (x2 : Int32) (u : Wo), fX2_hash_90 k31 x1 x2 u = some (rf, uf) → J p l e (rmk 2 47) s m args below meth c dC dI (WC ad cI) (AF ad 14) (MQ below (QI dC dI cI (WC ad cI) (AF ad 14) rf uf) args s 0 0 (AF ad 14)) u 90 5 [(0, .ref (ad 5)), (1, .int x1), (2, .int x2)] [] := by
    intro k31 hk31 x1 x2 u h H locs ls hP hS hl
    unfold fX2_hash_90 at h
    refine lv_iinc (v := (x2 + (1 : Int32))) (lv' := [(2, .int (x2 + (1 : Int32))), (0, .ref (ad 5)), (1, .int x1)]) S.1 S.2.1 dX2_hash_90 hl (k := 2) rfl rfl (by decide) rfl (fun ls hl => ?_)
    refine lv_goto (tgt := 31) S.1 S.2.1 dX2_hash_93 (by decide) ?_
    exact hk31 _ _ u h _ _ _ hP hS (lv_sub hl [1, 2, 0] rfl)
  have B_31 : ∀ (k96 : Int32 → Wo → Re) (hk96 : ∀ (x1 : Int32) (u : Wo), k96 x1 u = some (rf, uf) → J p l e (rmk 2 47) s m args below meth c dC dI (WC ad cI) (AF ad 14) (MQ below (QI dC dI cI (WC ad cI) (AF ad 14) rf uf) args s 0 0 (AF ad 14)) u 96 5 [(1, .int x1)] []) (n : Nat) (x1 : Int32) (x2 : Int32) (u : Wo), fX2_hash_31 k96 n x1 x2 u = some (rf, uf) → J p l e (rmk 2 47) s m args below meth c dC dI (WC ad cI) (AF ad 14) (MQ below (QI dC dI cI (WC ad cI) (AF ad 14) rf uf) args s 0 0 (AF ad 14)) u 31 5 [(0, .ref (ad 5)), (1, .int x1), (2, .int x2)] [] := by
    intro k96 hk96
    intro n
    induction n with
    | zero => intro x1 x2 u h; cases h
    | succ n ih =>
      intro x1 x2 u h H locs ls hP hS hl
      rw [fX2_hash_31.eq_2] at h
      refine lv_iload_n S.1 S.2.1 dX2_hash_31 rfl (lv_at hl 2 rfl) ?_
      refine lv_aload_n S.1 S.2.1 dX2_hash_32 rfl (lv_at hl 0 rfl) ?_
      refine gC_5_stand S hK hP wf_X2_9 dX2_hash_33 ?_
      refine gC_1_n S hK hP wf_X2_84 dX2_hash_36 ?_
      refine lv_icmp_ge (tgt := 96) S.1 S.2.1 dX2_hash_39 (by decide) (fun c13 => ?_) (fun c13 => ?_)
      · rw [if_pos c13] at h
        exact hk96 _ u h _ _ _ hP hS (lv_sub hl [1] rfl)
      · rw [if_neg c13] at h
        refine lv_iconst (v := (0 : Int32)) S.1 S.2.1 dX2_hash_42 (by decide) ?_
        refine lv_istore_n (lv' := [(3, .int (0 : Int32)), (0, .ref (ad 5)), (1, .int x1), (2, .int x2)]) S.1 S.2.1 dX2_hash_43 rfl hl (by decide) rfl (fun ls hl => ?_)
        exact B_44 _ (B_90 _ ih) FU _ _ _ u h _ _ _ hP hS (lv_sub hl [1, 2, 3, 0] rfl)
  have B_96 : ∀ (x1 : Int32) (u : Wo), fX2_hash_96 x1 u = some (rf, uf) → J p l e (rmk 2 47) s m args below meth c dC dI (WC ad cI) (AF ad 14) (MQ below (QI dC dI cI (WC ad cI) (AF ad 14) rf uf) args s 0 0 (AF ad 14)) u 96 5 [(1, .int x1)] [] := by
    intro x1 u h H locs ls hP hS hl
    unfold fX2_hash_96 at h
    refine lv_iload_n S.1 S.2.1 dX2_hash_96 rfl (lv_at hl 0 rfl) ?_
    refine lv_iload_n S.1 S.2.1 dX2_hash_97 rfl (lv_at hl 0 rfl) ?_
    refine lv_bipush (v := (16 : Int32)) S.1 S.2.1 dX2_hash_98 (by decide) ?_
    refine lv_iushr (v := ((x1).toUInt32 >>> (((16 : Int32)).toUInt32 &&& Int32.toUInt32 31)).toInt32) S.1 S.2.1 dX2_hash_100 rfl ?_
    refine lv_ixor S.1 S.2.1 dX2_hash_101 ?_
    exact x_iret S hr hlk hK hP hS h dX2_hash_102
  intro H locs ls hP hS hl
  have hl : lv_has ls 5 [(0, .ref (ad 5))] := hl
  unfold fX2_hash at h
  refine lv_aload_n S.1 S.2.1 dX2_hash_0 rfl (lv_at hl 0 rfl) ?_
  refine lv_iconst (v := (0 : Int32)) S.1 S.2.1 dX2_hash_1 (by decide) ?_
  refine lv_iconst (v := (0 : Int32)) S.1 S.2.1 dX2_hash_2 (by decide) ?_
  refine lv_bipush (v := (6 : Int32)) S.1 S.2.1 dX2_hash_3 (by decide) ?_
  obtain ⟨r2, u3, q1, h⟩ := bd_some h
  refine x_vi (Wf := WC ad cI) (q0 := 5) (ci := 2) (As := [.int (0 : Int32), .int (0 : Int32), .int (6 : Int32)]) (rest := []) S hK hP hS (k_X2_mixed hap q1) rfl rfl wl_X2_143 wi_X2_mixed ws_X2_mixed wz_X2 wc_X2_mixed hy_X2_mixed ⟨Nat.le_of_ble_eq_true rfl, Nat.le_of_ble_eq_true rfl⟩ hl.1 rfl (Nat.le_of_ble_eq_true rfl) dX2_hash_5 (fun H locs hP hS => ?_)
  refine lv_istore_n (lv' := [(1, .int r2), (0, .ref (ad 5))]) S.1 S.2.1 dX2_hash_8 rfl hl (by decide) rfl (fun ls hl => ?_)
  refine lv_aload_n S.1 S.2.1 dX2_hash_9 rfl (lv_at hl 1 rfl) ?_
  refine lv_iload_n S.1 S.2.1 dX2_hash_10 rfl (lv_at hl 0 rfl) ?_
  refine lv_aload_n S.1 S.2.1 dX2_hash_11 rfl (lv_at hl 1 rfl) ?_
  refine gC_5_stand S hK hP wf_X2_9 dX2_hash_12 ?_
  obtain ⟨r5, u6, q4, h⟩ := bd_some h
  refine x_vi (Wf := WC ad cI) (q0 := 1) (ci := 3) (As := []) (rest := [.int r2, .ref (ad 5)]) S hK hP hS (k_X3_wayFrom hap q4) rfl rfl wl_X2_131 wi_X3_wayFrom ws_X3_wayFrom wz_X3 wc_X3_wayFrom hy_X3_wayFrom ⟨Nat.le_of_ble_eq_true rfl, Nat.le_of_ble_eq_true rfl⟩ hl.1 rfl (Nat.le_of_ble_eq_true rfl) dX2_hash_15 (fun H locs hP hS => ?_)
  refine lv_aload_n S.1 S.2.1 dX2_hash_18 rfl (lv_at hl 1 rfl) ?_
  refine gC_5_stand S hK hP wf_X2_9 dX2_hash_19 ?_
  obtain ⟨r8, u9, q7, h⟩ := bd_some h
  refine x_vi (Wf := WC ad cI) (q0 := 1) (ci := 3) (As := []) (rest := [.int r5, .int r2, .ref (ad 5)]) S hK hP hS (k_X3_wayTo hap q7) rfl rfl wl_X2_134 wi_X3_wayTo ws_X3_wayTo wz_X3 wc_X3_wayTo hy_X3_wayTo ⟨Nat.le_of_ble_eq_true rfl, Nat.le_of_ble_eq_true rfl⟩ hl.1 rfl (Nat.le_of_ble_eq_true rfl) dX2_hash_22 (fun H locs hP hS => ?_)
  obtain ⟨r11, u12, q10, h⟩ := bd_some h
  refine x_vi (Wf := WC ad cI) (q0 := 5) (ci := 2) (As := [.int r2, .int r5, .int r8]) (rest := []) S hK hP hS (k_X2_mixed hap q10) rfl rfl wl_X2_143 wi_X2_mixed ws_X2_mixed wz_X2 wc_X2_mixed hy_X2_mixed ⟨Nat.le_of_ble_eq_true rfl, Nat.le_of_ble_eq_true rfl⟩ hl.1 rfl (Nat.le_of_ble_eq_true rfl) dX2_hash_25 (fun H locs hP hS => ?_)
  refine lv_istore_n (lv' := [(1, .int r11), (0, .ref (ad 5))]) S.1 S.2.1 dX2_hash_28 rfl hl (by decide) rfl (fun ls hl => ?_)
  refine lv_iconst (v := (0 : Int32)) S.1 S.2.1 dX2_hash_29 (by decide) ?_
  refine lv_istore_n (lv' := [(2, .int (0 : Int32)), (1, .int r11), (0, .ref (ad 5))]) S.1 S.2.1 dX2_hash_30 rfl hl (by decide) rfl (fun ls hl => ?_)
  exact B_31 _ B_96 FU _ _ u12 h _ _ _ hP hS (lv_sub hl [2, 1, 0] rfl)
theorem hy_X2_isLike : yX2_isLike.cls ≠ "java/lang/invoke/MethodHandle" ∧ yX2_isLike.cls ≠ "java/lang/invoke/VarHandle" ∧ (parseMethodDescriptor yX2_isLike.desc).map (fun d => d.parameters.length) = some 3 := by decide +kernel
set_option maxHeartbeats 4000000 in
set_option maxRecDepth 100000 in
theorem k_X2_isLike {l : Launch} {dC : Nat → ClassId} {dI : Nat → Nat → Nat} {ad : Nat → Nat} {cI : ClassId} (hap : AP ad 14) {x1 x2 x3 : Int32} {u uf : Wo} {rf : Int32} (h : fX2_isLike x1 x2 x3 u = some (rf, uf)) : CI l dC dI cI (WC ad cI) (AF ad 14) yX2_isLike cX2_isLike 7 (some .boolean) 0 0 [.ref (ad 5), .int x1, .int x2, .int x3] u rf uf := by
  refine ci_begin (by decide) (Nat.le_of_ble_eq_true rfl) ?_
  intro p e s m args below meth c S hr hlk hK
  have B_44 : ∀ (u : Wo), fX2_isLike_44 u = some (rf, uf) → J p l e (rmk 0 0) s m args below meth c dC dI (WC ad cI) (AF ad 14) (MQ below (QI dC dI cI (WC ad cI) (AF ad 14) rf uf) args s 0 0 (AF ad 14)) u 44 7 [] [] := by
    intro u h H locs ls hP hS hl
    unfold fX2_isLike_44 at h
    refine lv_iconst (v := (0 : Int32)) S.1 S.2.1 dX2_isLike_44 (by decide) ?_
    exact x_zret S hr hlk hK hP hS (by decide) h dX2_isLike_45
  have B_49 : ∀ (k81 : Wo → Re) (hk81 : ∀ (u : Wo), k81  u = some (rf, uf) → J p l e (rmk 0 0) s m args below meth c dC dI (WC ad cI) (AF ad 14) (MQ below (QI dC dI cI (WC ad cI) (AF ad 14) rf uf) args s 0 0 (AF ad 14)) u 81 7 [] []) (n : Nat) (x3 : Int32) (x5 : Int32) (x6 : Int32) (u : Wo), fX2_isLike_49 k81 n x3 x5 x6 u = some (rf, uf) → J p l e (rmk 0 0) s m args below meth c dC dI (WC ad cI) (AF ad 14) (MQ below (QI dC dI cI (WC ad cI) (AF ad 14) rf uf) args s 0 0 (AF ad 14)) u 49 7 [(0, .ref (ad 5)), (3, .int x3), (4, .ref (ad 6)), (5, .int x5), (6, .int x6)] [] := by
    intro k81 hk81
    intro n
    induction n with
    | zero => intro x3 x5 x6 u h; cases h
    | succ n ih =>
      intro x3 x5 x6 u h H locs ls hP hS hl
      rw [fX2_isLike_49.eq_2] at h
      refine lv_iload S.1 S.2.1 dX2_isLike_49 (lv_at hl 4 rfl) ?_
      refine lv_iload_n S.1 S.2.1 dX2_isLike_51 rfl (lv_at hl 1 rfl) ?_
      refine lv_icmp_ge (tgt := 81) S.1 S.2.1 dX2_isLike_52 (by decide) (fun c5 => ?_) (fun c5 => ?_)
      · rw [if_pos c5] at h
        exact hk81 u h _ _ _ hP hS (lv_sub hl [] rfl)
      · rw [if_neg c5] at h
        refine lv_aload_n S.1 S.2.1 dX2_isLike_55 rfl (lv_at hl 0 rfl) ?_
        refine gC_5_states S hK hP wf_X2_22 dX2_isLike_56 ?_
        refine lv_iload S.1 S.2.1 dX2_isLike_59 (lv_at hl 3 rfl) ?_
        refine lv_iload S.1 S.2.1 dX2_isLike_61 (lv_at hl 4 rfl) ?_
        refine lv_iadd S.1 S.2.1 dX2_isLike_63 ?_
        obtain ⟨q6, h⟩ := gi_some h
        refine lC_9 S hK hP q6 dX2_isLike_64 ?_
        refine lv_aload S.1 S.2.1 dX2_isLike_65 (lv_at hl 2 rfl) ?_
        refine lv_iload S.1 S.2.1 dX2_isLike_67 (lv_at hl 4 rfl) ?_
        obtain ⟨q7, h⟩ := gi_some h
        refine lC_6 S hK hP q7 dX2_isLike_69 ?_
        refine lv_icmp_eq (tgt := 75) S.1 S.2.1 dX2_isLike_70 (by decide) (fun c8 => ?_) (fun c8 => ?_)
        · rw [if_pos c8] at h
          refine lv_iinc (v := (x6 + (1 : Int32))) (lv' := [(6, .int (x6 + (1 : Int32))), (0, .ref (ad 5)), (3, .int x3), (4, .ref (ad 6)), (5, .int x5)]) S.1 S.2.1 dX2_isLike_75 hl (k := 4) rfl rfl (by decide) rfl (fun ls hl => ?_)
          refine lv_goto (tgt := 49) S.1 S.2.1 dX2_isLike_78 (by decide) ?_
          exact ih _ _ _ u h _ _ _ hP hS (lv_sub hl [1, 2, 3, 4, 0] rfl)
        · rw [if_neg c8] at h
          refine lv_iconst (v := (0 : Int32)) S.1 S.2.1 dX2_isLike_73 (by decide) ?_
          exact x_zret S hr hlk hK hP hS (by decide) h dX2_isLike_74
  have B_81 : ∀ (u : Wo), fX2_isLike_81 u = some (rf, uf) → J p l e (rmk 0 0) s m args below meth c dC dI (WC ad cI) (AF ad 14) (MQ below (QI dC dI cI (WC ad cI) (AF ad 14) rf uf) args s 0 0 (AF ad 14)) u 81 7 [] [] := by
    intro u h H locs ls hP hS hl
    unfold fX2_isLike_81 at h
    refine lv_iconst (v := (1 : Int32)) S.1 S.2.1 dX2_isLike_81 (by decide) ?_
    exact x_zret S hr hlk hK hP hS (by decide) h dX2_isLike_82
  intro H locs ls hP hS hl
  have hl : lv_has ls 7 [(0, .ref (ad 5)), (1, .int x1), (2, .int x2), (3, .int x3)] := hl
  unfold fX2_isLike at h
  refine lv_aload_n S.1 S.2.1 dX2_isLike_0 rfl (lv_at hl 0 rfl) ?_
  refine gC_5_stand S hK hP wf_X2_9 dX2_isLike_1 ?_
  refine gC_1_row S hK hP wf_X2_140 dX2_isLike_4 ?_
  refine lv_astore (lv' := [(4, .ref (ad 6)), (0, .ref (ad 5)), (1, .int x1), (2, .int x2), (3, .int x3)]) S.1 S.2.1 dX2_isLike_7 hl (by decide) rfl (fun ls hl => ?_)
  refine lv_iload_n S.1 S.2.1 dX2_isLike_9 rfl (lv_at hl 2 rfl) ?_
  refine lv_sipush (v := (608 : Int32)) S.1 S.2.1 dX2_isLike_10 (by decide) ?_
  refine lv_imul S.1 S.2.1 dX2_isLike_13 ?_
  refine lv_istore (lv' := [(5, .int (x1 * (608 : Int32))), (4, .ref (ad 6)), (0, .ref (ad 5)), (1, .int x1), (2, .int x2), (3, .int x3)]) S.1 S.2.1 dX2_isLike_14 hl (by decide) rfl (fun ls hl => ?_)
  refine lv_iload_n S.1 S.2.1 dX2_isLike_16 rfl (lv_at hl 4 rfl) ?_
  refine lv_if_lt (tgt := 44) S.1 S.2.1 dX2_isLike_17 (by decide) (fun c1 => ?_) (fun c1 => ?_)
  · rw [if_pos c1] at h
    exact B_44 u h _ _ _ hP hS (lv_sub hl [] rfl)
  · rw [if_neg c1] at h
    refine lv_iload_n S.1 S.2.1 dX2_isLike_20 rfl (lv_at hl 5 rfl) ?_
    refine lv_aload S.1 S.2.1 dX2_isLike_21 (lv_at hl 1 rfl) ?_
    refine nC_6 S hK hP dX2_isLike_23 ?_
    refine lv_icmp_gt (tgt := 44) S.1 S.2.1 dX2_isLike_24 (by decide) (fun c2 => ?_) (fun c2 => ?_)
    · rw [if_pos c2] at h
      exact B_44 u h _ _ _ hP hS (lv_sub hl [] rfl)
    · rw [if_neg c2] at h
      refine lv_iload S.1 S.2.1 dX2_isLike_27 (lv_at hl 0 rfl) ?_
      refine lv_if_lt (tgt := 44) S.1 S.2.1 dX2_isLike_29 (by decide) (fun c3 => ?_) (fun c3 => ?_)
      · rw [if_pos c3] at h
        exact B_44 u h _ _ _ hP hS (lv_sub hl [] rfl)
      · rw [if_neg c3] at h
        refine lv_iload S.1 S.2.1 dX2_isLike_32 (lv_at hl 0 rfl) ?_
        refine lv_aload_n S.1 S.2.1 dX2_isLike_34 rfl (lv_at hl 2 rfl) ?_
        refine gC_5_states S hK hP wf_X2_22 dX2_isLike_35 ?_
        refine nC_9 S hK hP dX2_isLike_38 ?_
        refine lv_iload_n S.1 S.2.1 dX2_isLike_39 rfl (lv_at hl 5 rfl) ?_
        refine lv_isub S.1 S.2.1 dX2_isLike_40 ?_
        refine lv_icmp_le (tgt := 46) S.1 S.2.1 dX2_isLike_41 (by decide) (fun c4 => ?_) (fun c4 => ?_)
        · rw [if_pos c4] at h
          refine lv_iload_n S.1 S.2.1 dX2_isLike_46 rfl (lv_at hl 4 rfl) ?_
          refine lv_istore (lv' := [(6, .int x2), (5, .int (x1 * (608 : Int32))), (4, .ref (ad 6)), (0, .ref (ad 5)), (1, .int x1), (2, .int x2), (3, .int x3)]) S.1 S.2.1 dX2_isLike_47 hl (by decide) rfl (fun ls hl => ?_)
          exact B_49 _ B_81 FU _ _ _ u h _ _ _ hP hS (lv_sub hl [3, 6, 2, 1, 0] rfl)
        · rw [if_neg c4] at h
          exact B_44 u h _ _ _ hP hS (lv_sub hl [] rfl)
theorem hy_X2_isState : yX2_isState.cls ≠ "java/lang/invoke/MethodHandle" ∧ yX2_isState.cls ≠ "java/lang/invoke/VarHandle" ∧ (parseMethodDescriptor yX2_isState.desc).map (fun d => d.parameters.length) = some 2 := by decide +kernel
set_option maxHeartbeats 4000000 in
set_option maxRecDepth 100000 in
theorem k_X2_isState {l : Launch} {dC : Nat → ClassId} {dI : Nat → Nat → Nat} {ad : Nat → Nat} {cI : ClassId} (hap : AP ad 14) {x1 x2 : Int32} {u uf : Wo} {rf : Int32} (h : fX2_isState x1 x2 u = some (rf, uf)) : CI l dC dI cI (WC ad cI) (AF ad 14) yX2_isState cX2_isState 6 (some .boolean) 2 43 [.ref (ad 5), .int x1, .int x2] u rf uf := by
  refine ci_begin (by decide) (Nat.le_of_ble_eq_true rfl) ?_
  intro p e s m args below meth c S hr hlk hK
  have B_23 : ∀ (u : Wo), fX2_isState_23 u = some (rf, uf) → J p l e (rmk 2 43) s m args below meth c dC dI (WC ad cI) (AF ad 14) (MQ below (QI dC dI cI (WC ad cI) (AF ad 14) rf uf) args s 0 0 (AF ad 14)) u 23 6 [] [] := by
    intro u h H locs ls hP hS hl
    unfold fX2_isState_23 at h
    refine lv_iconst (v := (0 : Int32)) S.1 S.2.1 dX2_isState_23 (by decide) ?_
    exact x_zret S hr hlk hK hP hS (by decide) h dX2_isState_24
  have B_58 : ∀ (u : Wo), fX2_isState_58 u = some (rf, uf) → J p l e (rmk 2 43) s m args below meth c dC dI (WC ad cI) (AF ad 14) (MQ below (QI dC dI cI (WC ad cI) (AF ad 14) rf uf) args s 0 0 (AF ad 14)) u 58 6 [] [] := by
    intro u h H locs ls hP hS hl
    unfold fX2_isState_58 at h
    refine lv_iconst (v := (0 : Int32)) S.1 S.2.1 dX2_isState_58 (by decide) ?_
    exact x_zret S hr hlk hK hP hS (by decide) h dX2_isState_59
  have B_76 : ∀ (k129 : Int32 → Int32 → Wo → Re) (hk129 : ∀ (x1 : Int32) (x3 : Int32) (u : Wo), k129 x1 x3 u = some (rf, uf) → J p l e (rmk 2 43) s m args below meth c dC dI (WC ad cI) (AF ad 14) (MQ below (QI dC dI cI (WC ad cI) (AF ad 14) rf uf) args s 0 0 (AF ad 14)) u 129 6 [(0, .ref (ad 5)), (1, .int x1), (3, .int x3)] []) (n : Nat) (x1 : Int32) (x3 : Int32) (x4 : Int32) (u : Wo), fX2_isState_76 k129 n x1 x3 x4 u = some (rf, uf) → J p l e (rmk 2 43) s m args below meth c dC dI (WC ad cI) (AF ad 14) (MQ below (QI dC dI cI (WC ad cI) (AF ad 14) rf uf) args s 0 0 (AF ad 14)) u 76 6 [(0, .ref (ad 5)), (1, .int x1), (3, .int x3), (4, .int x4)] [] := by
    intro k129 hk129
    intro n
    induction n with
    | zero => intro x1 x3 x4 u h; cases h
    | succ n ih =>
      intro x1 x3 x4 u h H locs ls hP hS hl
      rw [fX2_isState_76.eq_2] at h
      refine lv_iload S.1 S.2.1 dX2_isState_76 (lv_at hl 3 rfl) ?_
      refine lv_aload_n S.1 S.2.1 dX2_isState_78 rfl (lv_at hl 0 rfl) ?_
      refine gC_5_stand S hK hP wf_X2_9 dX2_isState_79 ?_
      refine gC_1_n S hK hP wf_X2_84 dX2_isState_82 ?_
      refine lv_icmp_ge (tgt := 129) S.1 S.2.1 dX2_isState_85 (by decide) (fun c20 => ?_) (fun c20 => ?_)
      · rw [if_pos c20] at h
        exact hk129 _ _ u h _ _ _ hP hS (lv_sub hl [0, 1, 2] rfl)
      · rw [if_neg c20] at h
        refine lv_iload_n S.1 S.2.1 dX2_isState_88 rfl (lv_at hl 2 rfl) ?_
        refine lv_iload S.1 S.2.1 dX2_isState_89 (lv_at hl 3 rfl) ?_
        obtain ⟨r22, u23, q21, h⟩ := bd_some h
        refine x_si (Wf := WC ad cI) (As := [.int x3, .int x4]) (rest := []) S hK hP hS (k_X3_lettersOf hap q21) wl_X2_137 wt_X3_lettersOf wz_X3 wc_X3_lettersOf hy_X3_lettersOf ⟨Nat.le_of_ble_eq_true rfl, Nat.le_of_ble_eq_true rfl⟩ hl.1 rfl (Nat.le_of_ble_eq_true rfl) dX2_isState_91 (fun H locs hP hS => ?_)
        refine lv_istore (lv' := [(5, .int r22), (0, .ref (ad 5)), (1, .int x1), (3, .int x3), (4, .int x4)]) S.1 S.2.1 dX2_isState_94 hl (by decide) rfl (fun ls hl => ?_)
        refine lv_aload_n S.1 S.2.1 dX2_isState_96 rfl (lv_at hl 1 rfl) ?_
        refine lv_iload_n S.1 S.2.1 dX2_isState_97 rfl (lv_at hl 2 rfl) ?_
        refine lv_iload S.1 S.2.1 dX2_isState_98 (lv_at hl 0 rfl) ?_
        refine lv_iload S.1 S.2.1 dX2_isState_100 (lv_at hl 0 rfl) ?_
        refine lv_iconst (v := (1 : Int32)) S.1 S.2.1 dX2_isState_102 (by decide) ?_
        refine lv_iadd S.1 S.2.1 dX2_isState_103 ?_
        refine lv_aload_n S.1 S.2.1 dX2_isState_104 rfl (lv_at hl 1 rfl) ?_
        refine gC_5_stand S hK hP wf_X2_9 dX2_isState_105 ?_
        refine lv_iload_n S.1 S.2.1 dX2_isState_108 rfl (lv_at hl 3 rfl) ?_
        refine lv_iload S.1 S.2.1 dX2_isState_109 (lv_at hl 4 rfl) ?_
        obtain ⟨r25, u26, q24, h⟩ := bd_some h
        refine x_vi (Wf := WC ad cI) (q0 := 1) (ci := 3) (As := [.int x3, .int x4]) (rest := [.int (r22 + (1 : Int32)), .int r22, .int x1, .ref (ad 5)]) S hK hP hS (k_X3_underWay hap q24) rfl rfl wl_X2_87 wi_X3_underWay ws_X3_underWay wz_X3 wc_X3_underWay hy_X3_underWay ⟨Nat.le_of_ble_eq_true rfl, Nat.le_of_ble_eq_true rfl⟩ hl.1 rfl (Nat.le_of_ble_eq_true rfl) dX2_isState_111 (fun H locs hP hS => ?_)
        refine lv_iadd S.1 S.2.1 dX2_isState_114 ?_
        obtain ⟨r28, u29, q27, h⟩ := bd_some h
        refine x_vi (Wf := WC ad cI) (q0 := 5) (ci := 2) (As := [.int x1, .int r22, .int ((r22 + (1 : Int32)) + r25)]) (rest := []) S hK hP hS (k_X2_isLike hap q27) rfl rfl wl_X2_127 wi_X2_isLike ws_X2_isLike wz_X2 wc_X2_isLike hy_X2_isLike ⟨Nat.le_of_ble_eq_true rfl, Nat.le_of_ble_eq_true rfl⟩ hl.1 rfl (Nat.le_of_ble_eq_true rfl) dX2_isState_115 (fun H locs hP hS => ?_)
        refine lv_if_ne (tgt := 123) S.1 S.2.1 dX2_isState_118 (by decide) (fun c30 => ?_) (fun c30 => ?_)
        · rw [if_neg c30] at h
          refine lv_iinc (v := (x4 + (1 : Int32))) (lv' := [(4, .int (x4 + (1 : Int32))), (5, .int r22), (0, .ref (ad 5)), (1, .int x1), (3, .int x3)]) S.1 S.2.1 dX2_isState_123 hl (k := 4) rfl rfl (by decide) rfl (fun ls hl => ?_)
          refine lv_goto (tgt := 76) S.1 S.2.1 dX2_isState_126 (by decide) ?_
          exact ih _ _ _ u29 h _ _ _ hP hS (lv_sub hl [2, 3, 4, 0] rfl)
        · rw [if_pos c30] at h
          refine lv_iconst (v := (0 : Int32)) S.1 S.2.1 dX2_isState_121 (by decide) ?_
          exact x_zret S hr hlk hK hP hS (by decide) h dX2_isState_122
  have B_129 : ∀ (k62 : Int32 → Int32 → Wo → Re) (hk62 : ∀ (x1 : Int32) (x3 : Int32) (u : Wo), k62 x1 x3 u = some (rf, uf) → J p l e (rmk 2 43) s m args below meth c dC dI (WC ad cI) (AF ad 14) (MQ below (QI dC dI cI (WC ad cI) (AF ad 14) rf uf) args s 0 0 (AF ad 14)) u 62 6 [(0, .ref (ad 5)), (1, .int x1), (3, .int x3)] []) (x1 : Int32) (x3 : Int32) (u : Wo), fX2_isState_129 k62 x1 x3 u = some (rf, uf) → J p l e (rmk 2 43) s m args below meth c dC dI (WC ad cI) (AF ad 14) (MQ below (QI dC dI cI (WC ad cI) (AF ad 14) rf uf) args s 0 0 (AF ad 14)) u 129 6 [(0, .ref (ad 5)), (1, .int x1), (3, .int x3)] [] := by
    intro k62 hk62 x1 x3 u h H locs ls hP hS hl
    unfold fX2_isState_129 at h
    refine lv_iinc (v := (x3 + (1 : Int32))) (lv' := [(3, .int (x3 + (1 : Int32))), (0, .ref (ad 5)), (1, .int x1)]) S.1 S.2.1 dX2_isState_129 hl (k := 2) rfl rfl (by decide) rfl (fun ls hl => ?_)
    refine lv_goto (tgt := 62) S.1 S.2.1 dX2_isState_132 (by decide) ?_
    exact hk62 _ _ u h _ _ _ hP hS (lv_sub hl [1, 2, 0] rfl)
  have B_62 : ∀ (k135 : Wo → Re) (hk135 : ∀ (u : Wo), k135  u = some (rf, uf) → J p l e (rmk 2 43) s m args below meth c dC dI (WC ad cI) (AF ad 14) (MQ below (QI dC dI cI (WC ad cI) (AF ad 14) rf uf) args s 0 0 (AF ad 14)) u 135 6 [] []) (n : Nat) (x1 : Int32) (x3 : Int32) (u : Wo), fX2_isState_62 k135 n x1 x3 u = some (rf, uf) → J p l e (rmk 2 43) s m args below meth c dC dI (WC ad cI) (AF ad 14) (MQ below (QI dC dI cI (WC ad cI) (AF ad 14) rf uf) args s 0 0 (AF ad 14)) u 62 6 [(0, .ref (ad 5)), (1, .int x1), (3, .int x3)] [] := by
    intro k135 hk135
    intro n
    induction n with
    | zero => intro x1 x3 u h; cases h
    | succ n ih =>
      intro x1 x3 u h H locs ls hP hS hl
      rw [fX2_isState_62.eq_2] at h
      refine lv_iload_n S.1 S.2.1 dX2_isState_62 rfl (lv_at hl 2 rfl) ?_
      refine lv_aload_n S.1 S.2.1 dX2_isState_63 rfl (lv_at hl 0 rfl) ?_
      refine gC_5_stand S hK hP wf_X2_9 dX2_isState_64 ?_
      refine gC_1_n S hK hP wf_X2_84 dX2_isState_67 ?_
      refine lv_icmp_ge (tgt := 135) S.1 S.2.1 dX2_isState_70 (by decide) (fun c19 => ?_) (fun c19 => ?_)
      · rw [if_pos c19] at h
        exact hk135 u h _ _ _ hP hS (lv_sub hl [] rfl)
      · rw [if_neg c19] at h
        refine lv_iconst (v := (0 : Int32)) S.1 S.2.1 dX2_isState_73 (by decide) ?_
        refine lv_istore (lv' := [(4, .int (0 : Int32)), (0, .ref (ad 5)), (1, .int x1), (3, .int x3)]) S.1 S.2.1 dX2_isState_74 hl (by decide) rfl (fun ls hl => ?_)
        exact B_76 _ (B_129 _ ih) FU _ _ _ u h _ _ _ hP hS (lv_sub hl [1, 2, 3, 0] rfl)
  have B_135 : ∀ (u : Wo), fX2_isState_135 u = some (rf, uf) → J p l e (rmk 2 43) s m args below meth c dC dI (WC ad cI) (AF ad 14) (MQ below (QI dC dI cI (WC ad cI) (AF ad 14) rf uf) args s 0 0 (AF ad 14)) u 135 6 [] [] := by
    intro u h H locs ls hP hS hl
    unfold fX2_isState_135 at h
    refine lv_iconst (v := (1 : Int32)) S.1 S.2.1 dX2_isState_135 (by decide) ?_
    exact x_zret S hr hlk hK hP hS (by decide) h dX2_isState_136
  intro H locs ls hP hS hl
  have hl : lv_has ls 6 [(0, .ref (ad 5)), (1, .int x1), (2, .int x2)] := hl
  unfold fX2_isState at h
  refine lv_iload_n S.1 S.2.1 dX2_isState_0 rfl (lv_at hl 1 rfl) ?_
  refine lv_if_lt (tgt := 23) S.1 S.2.1 dX2_isState_1 (by decide) (fun c1 => ?_) (fun c1 => ?_)
  · rw [if_pos c1] at h
    exact B_23 u h _ _ _ hP hS (lv_sub hl [] rfl)
  · rw [if_neg c1] at h
    refine lv_iload_n S.1 S.2.1 dX2_isState_4 rfl (lv_at hl 1 rfl) ?_
    refine lv_aload_n S.1 S.2.1 dX2_isState_5 rfl (lv_at hl 0 rfl) ?_
    refine gC_5_hashes S hK hP wf_X2_26 dX2_isState_6 ?_
    refine nC_10 S hK hP dX2_isState_9 ?_
    refine lv_icmp_ge (tgt := 23) S.1 S.2.1 dX2_isState_10 (by decide) (fun c2 => ?_) (fun c2 => ?_)
    · rw [if_pos c2] at h
      exact B_23 u h _ _ _ hP hS (lv_sub hl [] rfl)
    · rw [if_neg c2] at h
      refine lv_aload_n S.1 S.2.1 dX2_isState_13 rfl (lv_at hl 0 rfl) ?_
      refine gC_5_hashes S hK hP wf_X2_26 dX2_isState_14 ?_
      refine lv_iload_n S.1 S.2.1 dX2_isState_17 rfl (lv_at hl 1 rfl) ?_
      obtain ⟨q3, h⟩ := gi_some h
      refine lC_10 S hK hP q3 dX2_isState_18 ?_
      refine lv_iload_n S.1 S.2.1 dX2_isState_19 rfl (lv_at hl 2 rfl) ?_
      refine lv_icmp_eq (tgt := 25) S.1 S.2.1 dX2_isState_20 (by decide) (fun c4 => ?_) (fun c4 => ?_)
      · rw [if_pos c4] at h
        refine lv_aload_n S.1 S.2.1 dX2_isState_25 rfl (lv_at hl 0 rfl) ?_
        refine lv_iload_n S.1 S.2.1 dX2_isState_26 rfl (lv_at hl 1 rfl) ?_
        refine lv_iconst (v := (0 : Int32)) S.1 S.2.1 dX2_isState_27 (by decide) ?_
        refine lv_bipush (v := (6 : Int32)) S.1 S.2.1 dX2_isState_28 (by decide) ?_
        obtain ⟨r6, u7, q5, h⟩ := bd_some h
        refine x_vi (Wf := WC ad cI) (q0 := 5) (ci := 2) (As := [.int x1, .int (0 : Int32), .int (6 : Int32)]) (rest := []) S hK hP hS (k_X2_isLike hap q5) rfl rfl wl_X2_127 wi_X2_isLike ws_X2_isLike wz_X2 wc_X2_isLike hy_X2_isLike ⟨Nat.le_of_ble_eq_true rfl, Nat.le_of_ble_eq_true rfl⟩ hl.1 rfl (Nat.le_of_ble_eq_true rfl) dX2_isState_30 (fun H locs hP hS => ?_)
        refine lv_if_eq (tgt := 58) S.1 S.2.1 dX2_isState_33 (by decide) (fun c8 => ?_) (fun c8 => ?_)
        · rw [if_pos c8] at h
          exact B_58 u7 h _ _ _ hP hS (lv_sub hl [] rfl)
        · rw [if_neg c8] at h
          refine lv_aload_n S.1 S.2.1 dX2_isState_36 rfl (lv_at hl 0 rfl) ?_
          refine lv_iload_n S.1 S.2.1 dX2_isState_37 rfl (lv_at hl 1 rfl) ?_
          refine lv_aload_n S.1 S.2.1 dX2_isState_38 rfl (lv_at hl 0 rfl) ?_
          refine gC_5_stand S hK hP wf_X2_9 dX2_isState_39 ?_
          obtain ⟨r10, u11, q9, h⟩ := bd_some h
          refine x_vi (Wf := WC ad cI) (q0 := 1) (ci := 3) (As := []) (rest := [.int x1, .ref (ad 5)]) S hK hP hS (k_X3_wayFrom hap q9) rfl rfl wl_X2_131 wi_X3_wayFrom ws_X3_wayFrom wz_X3 wc_X3_wayFrom hy_X3_wayFrom ⟨Nat.le_of_ble_eq_true rfl, Nat.le_of_ble_eq_true rfl⟩ hl.1 rfl (Nat.le_of_ble_eq_true rfl) dX2_isState_42 (fun H locs hP hS => ?_)
          refine lv_aload_n S.1 S.2.1 dX2_isState_45 rfl (lv_at hl 0 rfl) ?_
          refine gC_5_stand S hK hP wf_X2_9 dX2_isState_46 ?_
          obtain ⟨r13, u14, q12, h⟩ := bd_some h
          refine x_vi (Wf := WC ad cI) (q0 := 1) (ci := 3) (As := []) (rest := [.int r10, .int x1, .ref (ad 5)]) S hK hP hS (k_X3_wayTo hap q12) rfl rfl wl_X2_134 wi_X3_wayTo ws_X3_wayTo wz_X3 wc_X3_wayTo hy_X3_wayTo ⟨Nat.le_of_ble_eq_true rfl, Nat.le_of_ble_eq_true rfl⟩ hl.1 rfl (Nat.le_of_ble_eq_true rfl) dX2_isState_49 (fun H locs hP hS => ?_)
          obtain ⟨r16, u17, q15, h⟩ := bd_some h
          refine x_vi (Wf := WC ad cI) (q0 := 5) (ci := 2) (As := [.int x1, .int r10, .int r13]) (rest := []) S hK hP hS (k_X2_isLike hap q15) rfl rfl wl_X2_127 wi_X2_isLike ws_X2_isLike wz_X2 wc_X2_isLike hy_X2_isLike ⟨Nat.le_of_ble_eq_true rfl, Nat.le_of_ble_eq_true rfl⟩ hl.1 rfl (Nat.le_of_ble_eq_true rfl) dX2_isState_52 (fun H locs hP hS => ?_)
          refine lv_if_ne (tgt := 60) S.1 S.2.1 dX2_isState_55 (by decide) (fun c18 => ?_) (fun c18 => ?_)
          · rw [if_neg c18] at h
            refine lv_iconst (v := (0 : Int32)) S.1 S.2.1 dX2_isState_60 (by decide) ?_
            refine lv_istore_n (lv' := [(3, .int (0 : Int32)), (0, .ref (ad 5)), (1, .int x1), (2, .int x2)]) S.1 S.2.1 dX2_isState_61 rfl hl (by decide) rfl (fun ls hl => ?_)
            exact B_62 _ B_135 FU _ _ u17 h _ _ _ hP hS (lv_sub hl [1, 2, 0] rfl)
          · rw [if_pos c18] at h
            exact B_58 u17 h _ _ _ hP hS (lv_sub hl [] rfl)
      · rw [if_neg c4] at h
        exact B_23 u h _ _ _ hP hS (lv_sub hl [] rfl)
set_option maxHeartbeats 4000000 in
set_option maxRecDepth 100000 in
theorem k_X3_copyTo_9 {l : Launch} {dC : Nat → ClassId} {dI : Nat → Nat → Nat} {ad : Nat → Nat} {cI : ClassId} (hap : AP ad 14) {x2 x3 : Int32} {u uf : Wo} {rf : Int32} (h : fX3_copyTo_9 x2 x3 u = some (rf, uf)) : CV l dC dI cI (WC ad cI) (AF ad 14) yX3_copyTo cX3_copyTo 4 none 1 26 [.ref (ad 1), .ref (ad 9), .int x2, .int x3] u uf := by
  refine cv_begin (by decide) (Nat.le_of_ble_eq_true rfl) ?_
  intro p e s m args below meth c S hr hlk hK
  have B_36 : ∀ (u : Wo), fX3_copyTo_9_36 u = some (rf, uf) → J p l e (rmk 1 26) s m args below meth c dC dI (WC ad cI) (AF ad 14) (MQ below (QV dC dI cI (WC ad cI) (AF ad 14) uf) args s 0 0 (AF ad 14)) u 36 4 [] [] := by
    intro u h H locs ls hP hS hl
    unfold fX3_copyTo_9_36 at h
    exact x_vret S hr hlk hK hP hS h dX3_copyTo_36
  intro H locs ls hP hS hl
  have hl : lv_has ls 4 [(0, .ref (ad 1)), (1, .ref (ad 9)), (2, .int x2), (3, .int x3)] := hl
  unfold fX3_copyTo_9 at h
  refine lv_iload_n S.1 S.2.1 dX3_copyTo_0 rfl (lv_at hl 2 rfl) ?_
  refine lv_if_lt (tgt := 36) S.1 S.2.1 dX3_copyTo_1 (by decide) (fun c1 => ?_) (fun c1 => ?_)
  · rw [if_pos c1] at h
    exact B_36 u h _ _ _ hP hS (lv_sub hl [] rfl)
  · rw [if_neg c1] at h
    refine lv_iload_n S.1 S.2.1 dX3_copyTo_4 rfl (lv_at hl 3 rfl) ?_
    refine lv_if_lt (tgt := 36) S.1 S.2.1 dX3_copyTo_5 (by decide) (fun c2 => ?_) (fun c2 => ?_)
    · rw [if_pos c2] at h
      exact B_36 u h _ _ _ hP hS (lv_sub hl [] rfl)
    · rw [if_neg c2] at h
      refine lv_iload_n S.1 S.2.1 dX3_copyTo_8 rfl (lv_at hl 3 rfl) ?_
      refine lv_aload_n S.1 S.2.1 dX3_copyTo_9 rfl (lv_at hl 0 rfl) ?_
      refine gC_1_row S hK hP wf_X3_11 dX3_copyTo_10 ?_
      refine nC_6 S hK hP dX3_copyTo_13 ?_
      refine lv_icmp_gt (tgt := 36) S.1 S.2.1 dX3_copyTo_14 (by decide) (fun c3 => ?_) (fun c3 => ?_)
      · rw [if_pos c3] at h
        exact B_36 u h _ _ _ hP hS (lv_sub hl [] rfl)
      · rw [if_neg c3] at h
        refine lv_iload_n S.1 S.2.1 dX3_copyTo_17 rfl (lv_at hl 2 rfl) ?_
        refine lv_aload_n S.1 S.2.1 dX3_copyTo_18 rfl (lv_at hl 1 rfl) ?_
        refine nC_9 S hK hP dX3_copyTo_19 ?_
        refine lv_iload_n S.1 S.2.1 dX3_copyTo_20 rfl (lv_at hl 3 rfl) ?_
        refine lv_isub S.1 S.2.1 dX3_copyTo_21 ?_
        refine lv_icmp_gt (tgt := 36) S.1 S.2.1 dX3_copyTo_22 (by decide) (fun c4 => ?_) (fun c4 => ?_)
        · rw [if_pos c4] at h
          exact B_36 u h _ _ _ hP hS (lv_sub hl [] rfl)
        · rw [if_neg c4] at h
          refine lv_aload_n S.1 S.2.1 dX3_copyTo_25 rfl (lv_at hl 0 rfl) ?_
          refine gC_1_row S hK hP wf_X3_11 dX3_copyTo_26 ?_
          refine lv_iconst (v := (0 : Int32)) S.1 S.2.1 dX3_copyTo_29 (by decide) ?_
          refine lv_aload_n S.1 S.2.1 dX3_copyTo_30 rfl (lv_at hl 1 rfl) ?_
          refine lv_iload_n S.1 S.2.1 dX3_copyTo_31 rfl (lv_at hl 2 rfl) ?_
          refine lv_iload_n S.1 S.2.1 dX3_copyTo_32 rfl (lv_at hl 3 rfl) ?_
          obtain ⟨q5, h⟩ := gi_some h
          obtain ⟨u6, hu6, h⟩ := bw_some h
          refine x_cpy (Wf := WC ad cI) S hK hP (WC_D hap u) hS wl_X3_83 hl.1 (hC_6 u) (hC_9 u) q5 ⟨Nat.le_of_ble_eq_true rfl, Nat.le_of_ble_eq_true rfl⟩ dX3_copyTo_33 hu6 (cC_6_9 u _ _ _) (fun H locs hP hS => ?_)
          exact B_36 u6 h _ _ _ hP hS (lv_sub hl [] rfl)
theorem hy_X2_keep : yX2_keep.cls ≠ "java/lang/invoke/MethodHandle" ∧ yX2_keep.cls ≠ "java/lang/invoke/VarHandle" ∧ (parseMethodDescriptor yX2_keep.desc).map (fun d => d.parameters.length) = some 0 := by decide +kernel
set_option maxHeartbeats 4000000 in
set_option maxRecDepth 100000 in
theorem k_X2_keep {l : Launch} {dC : Nat → ClassId} {dI : Nat → Nat → Nat} {ad : Nat → Nat} {cI : ClassId} (hap : AP ad 14) {u uf : Wo} {rf : Int32} (h : fX2_keep u = some (rf, uf)) : CV l dC dI cI (WC ad cI) (AF ad 14) yX2_keep cX2_keep 4 none 3 71 [.ref (ad 5)] u uf := by
  refine cv_begin (by decide) (Nat.le_of_ble_eq_true rfl) ?_
  intro p e s m args below meth c S hr hlk hK
  have B_13 : ∀ (k60 : Int32 → Int32 → Wo → Re) (hk60 : ∀ (x1 : Int32) (x2 : Int32) (u : Wo), k60 x1 x2 u = some (rf, uf) → J p l e (rmk 3 71) s m args below meth c dC dI (WC ad cI) (AF ad 14) (MQ below (QV dC dI cI (WC ad cI) (AF ad 14) uf) args s 0 0 (AF ad 14)) u 60 4 [(0, .ref (ad 5)), (1, .int x1), (2, .int x2)] []) (n : Nat) (x1 : Int32) (x2 : Int32) (x3 : Int32) (u : Wo), fX2_keep_13 k60 n x1 x2 x3 u = some (rf, uf) → J p l e (rmk 3 71) s m args below meth c dC dI (WC ad cI) (AF ad 14) (MQ below (QV dC dI cI (WC ad cI) (AF ad 14) uf) args s 0 0 (AF ad 14)) u 13 4 [(0, .ref (ad 5)), (1, .int x1), (2, .int x2), (3, .int x3)] [] := by
    intro k60 hk60
    intro n
    induction n with
    | zero => intro x1 x2 x3 u h; cases h
    | succ n ih =>
      intro x1 x2 x3 u h H locs ls hP hS hl
      rw [fX2_keep_13.eq_2] at h
      refine lv_iload_n S.1 S.2.1 dX2_keep_13 rfl (lv_at hl 3 rfl) ?_
      refine lv_sipush (v := (1024 : Int32)) S.1 S.2.1 dX2_keep_14 (by decide) ?_
      refine lv_icmp_ge (tgt := 60) S.1 S.2.1 dX2_keep_17 (by decide) (fun c4 => ?_) (fun c4 => ?_)
      · rw [if_pos c4] at h
        exact hk60 _ _ u h _ _ _ hP hS (lv_sub hl [0, 1, 2] rfl)
      · rw [if_neg c4] at h
        refine lv_aload_n S.1 S.2.1 dX2_keep_20 rfl (lv_at hl 0 rfl) ?_
        refine gC_5_table S hK hP wf_X2_29 dX2_keep_21 ?_
        refine lv_iload_n S.1 S.2.1 dX2_keep_24 rfl (lv_at hl 2 rfl) ?_
        obtain ⟨q5, h⟩ := gi_some h
        refine lC_11 S hK hP q5 dX2_keep_25 ?_
        refine lv_if_eq (tgt := 60) S.1 S.2.1 dX2_keep_26 (by decide) (fun c6 => ?_) (fun c6 => ?_)
        · rw [if_pos c6] at h
          exact hk60 _ _ u h _ _ _ hP hS (lv_sub hl [0, 1, 2] rfl)
        · rw [if_neg c6] at h
          refine lv_aload_n S.1 S.2.1 dX2_keep_29 rfl (lv_at hl 0 rfl) ?_
          refine lv_aload_n S.1 S.2.1 dX2_keep_30 rfl (lv_at hl 0 rfl) ?_
          refine gC_5_table S hK hP wf_X2_29 dX2_keep_31 ?_
          refine lv_iload_n S.1 S.2.1 dX2_keep_34 rfl (lv_at hl 2 rfl) ?_
          obtain ⟨q7, h⟩ := gi_some h
          refine lC_11 S hK hP q7 dX2_keep_35 ?_
          refine lv_iconst (v := (1 : Int32)) S.1 S.2.1 dX2_keep_36 (by decide) ?_
          refine lv_isub S.1 S.2.1 dX2_keep_37 ?_
          refine lv_iload_n S.1 S.2.1 dX2_keep_38 rfl (lv_at hl 1 rfl) ?_
          obtain ⟨r9, u10, q8, h⟩ := bd_some h
          refine x_vi (Wf := WC ad cI) (q0 := 5) (ci := 2) (As := [.int ((u 11 (x2).toNatClampNeg) - (1 : Int32)), .int x1]) (rest := []) S hK hP hS (k_X2_isState hap q8) rfl rfl wl_X2_123 wi_X2_isState ws_X2_isState wz_X2 wc_X2_isState hy_X2_isState ⟨Nat.le_of_ble_eq_true rfl, Nat.le_of_ble_eq_true rfl⟩ hl.1 rfl (Nat.le_of_ble_eq_true rfl) dX2_keep_39 (fun H locs hP hS => ?_)
          refine lv_if_eq (tgt := 46) S.1 S.2.1 dX2_keep_42 (by decide) (fun c11 => ?_) (fun c11 => ?_)
          · rw [if_pos c11] at h
            refine lv_iload_n S.1 S.2.1 dX2_keep_46 rfl (lv_at hl 2 rfl) ?_
            refine lv_iconst (v := (1 : Int32)) S.1 S.2.1 dX2_keep_47 (by decide) ?_
            refine lv_iadd S.1 S.2.1 dX2_keep_48 ?_
            refine lv_sipush (v := (1023 : Int32)) S.1 S.2.1 dX2_keep_49 (by decide) ?_
            refine lv_iand S.1 S.2.1 dX2_keep_52 ?_
            refine lv_istore_n (lv' := [(2, .int ((x2 + (1 : Int32)) &&& (1023 : Int32))), (0, .ref (ad 5)), (1, .int x1), (3, .int x3)]) S.1 S.2.1 dX2_keep_53 rfl hl (by decide) rfl (fun ls hl => ?_)
            refine lv_iinc (v := (x3 + (1 : Int32))) (lv' := [(3, .int (x3 + (1 : Int32))), (2, .int ((x2 + (1 : Int32)) &&& (1023 : Int32))), (0, .ref (ad 5)), (1, .int x1)]) S.1 S.2.1 dX2_keep_54 hl (k := 3) rfl rfl (by decide) rfl (fun ls hl => ?_)
            refine lv_goto (tgt := 13) S.1 S.2.1 dX2_keep_57 (by decide) ?_
            exact ih _ _ _ u10 h _ _ _ hP hS (lv_sub hl [2, 3, 1, 0] rfl)
          · rw [if_neg c11] at h
            exact x_vret S hr hlk hK hP hS h dX2_keep_45
  have B_60 : ∀ (x1 : Int32) (x2 : Int32) (u : Wo), fX2_keep_60 x1 x2 u = some (rf, uf) → J p l e (rmk 3 71) s m args below meth c dC dI (WC ad cI) (AF ad 14) (MQ below (QV dC dI cI (WC ad cI) (AF ad 14) uf) args s 0 0 (AF ad 14)) u 60 4 [(0, .ref (ad 5)), (1, .int x1), (2, .int x2)] [] := by
    intro x1 x2 u h H locs ls hP hS hl
    unfold fX2_keep_60 at h
    refine lv_aload_n S.1 S.2.1 dX2_keep_60 rfl (lv_at hl 0 rfl) ?_
    refine gC_5_found S hK hP wf_X2_44 dX2_keep_61 ?_
    refine lv_sipush (v := (300 : Int32)) S.1 S.2.1 dX2_keep_64 (by decide) ?_
    refine lv_icmp_lt (tgt := 76) S.1 S.2.1 dX2_keep_67 (by decide) (fun c12 => ?_) (fun c12 => ?_)
    · rw [if_pos c12] at h
      refine lv_aload_n S.1 S.2.1 dX2_keep_76 rfl (lv_at hl 0 rfl) ?_
      refine gC_5_stand S hK hP wf_X2_9 dX2_keep_77 ?_
      refine lv_aload_n S.1 S.2.1 dX2_keep_80 rfl (lv_at hl 0 rfl) ?_
      refine gC_5_states S hK hP wf_X2_22 dX2_keep_81 ?_
      refine lv_aload_n S.1 S.2.1 dX2_keep_84 rfl (lv_at hl 0 rfl) ?_
      refine gC_5_found S hK hP wf_X2_44 dX2_keep_85 ?_
      refine lv_sipush (v := (608 : Int32)) S.1 S.2.1 dX2_keep_88 (by decide) ?_
      refine lv_imul S.1 S.2.1 dX2_keep_91 ?_
      refine lv_sipush (v := (608 : Int32)) S.1 S.2.1 dX2_keep_92 (by decide) ?_
      obtain ⟨r14, u15, q13, h⟩ := bd_some h
      refine x_vv (Wf := WC ad cI) (q0 := 1) (ci := 3) (As := [.ref (ad 9), .int ((u 5 7) * (608 : Int32)), .int (608 : Int32)]) (rest := []) S hK hP hS (k_X3_copyTo_9 hap q13) rfl rfl wl_X2_52 wi_X3_copyTo ws_X3_copyTo wz_X3 wc_X3_copyTo hy_X3_copyTo ⟨Nat.le_of_ble_eq_true rfl, Nat.le_of_ble_eq_true rfl⟩ hl.1 rfl (Nat.le_of_ble_eq_true rfl) dX2_keep_95 (fun H locs hP hS => ?_)
      refine lv_aload_n S.1 S.2.1 dX2_keep_98 rfl (lv_at hl 0 rfl) ?_
      refine gC_5_hashes S hK hP wf_X2_26 dX2_keep_99 ?_
      refine lv_aload_n S.1 S.2.1 dX2_keep_102 rfl (lv_at hl 0 rfl) ?_
      refine gC_5_found S hK hP wf_X2_44 dX2_keep_103 ?_
      refine lv_iload_n S.1 S.2.1 dX2_keep_106 rfl (lv_at hl 1 rfl) ?_
      obtain ⟨q16, h⟩ := gi_some h
      obtain ⟨u17, hu17, h⟩ := bw_some h
      refine tC_10 S hK hap hP hS q16 dX2_keep_107 hu17 (fun H locs hP hS => ?_)
      refine lv_aload_n S.1 S.2.1 dX2_keep_108 rfl (lv_at hl 0 rfl) ?_
      refine lv_dup S.1 S.2.1 dX2_keep_109 rfl ?_
      refine gC_5_found S hK hP wf_X2_44 dX2_keep_110 ?_
      refine lv_iconst (v := (1 : Int32)) S.1 S.2.1 dX2_keep_113 (by decide) ?_
      refine lv_iadd S.1 S.2.1 dX2_keep_114 ?_
      obtain ⟨u18, hu18, h⟩ := bw_some h
      refine pC_5_found S hK hap hP hS wf_X2_44 dX2_keep_115 hu18 (fun H locs hP hS => ?_)
      refine lv_aload_n S.1 S.2.1 dX2_keep_118 rfl (lv_at hl 0 rfl) ?_
      refine gC_5_table S hK hP wf_X2_29 dX2_keep_119 ?_
      refine lv_iload_n S.1 S.2.1 dX2_keep_122 rfl (lv_at hl 2 rfl) ?_
      refine lv_aload_n S.1 S.2.1 dX2_keep_123 rfl (lv_at hl 0 rfl) ?_
      refine gC_5_found S hK hP wf_X2_44 dX2_keep_124 ?_
      obtain ⟨q19, h⟩ := gi_some h
      obtain ⟨u20, hu20, h⟩ := bw_some h
      refine tC_11 S hK hap hP hS q19 dX2_keep_127 hu20 (fun H locs hP hS => ?_)
      exact x_vret S hr hlk hK hP hS h dX2_keep_128
    · rw [if_neg c12] at h
      refine lv_aload_n S.1 S.2.1 dX2_keep_70 rfl (lv_at hl 0 rfl) ?_
      refine lv_iconst (v := (1 : Int32)) S.1 S.2.1 dX2_keep_71 (by decide) ?_
      obtain ⟨u21, hu21, h⟩ := bw_some h
      refine pC_5_spent S hK hap hP hS wf_X2_48 dX2_keep_72 (by decide) hu21 (fun H locs hP hS => ?_)
      exact x_vret S hr hlk hK hP hS h dX2_keep_75
  intro H locs ls hP hS hl
  have hl : lv_has ls 4 [(0, .ref (ad 5))] := hl
  unfold fX2_keep at h
  refine lv_aload_n S.1 S.2.1 dX2_keep_0 rfl (lv_at hl 0 rfl) ?_
  obtain ⟨r2, u3, q1, h⟩ := bd_some h
  refine x_vi (Wf := WC ad cI) (q0 := 5) (ci := 2) (As := []) (rest := []) S hK hP hS (k_X2_hash hap q1) rfl rfl wl_X2_120 wi_X2_hash ws_X2_hash wz_X2 wc_X2_hash hy_X2_hash ⟨Nat.le_of_ble_eq_true rfl, Nat.le_of_ble_eq_true rfl⟩ hl.1 rfl (Nat.le_of_ble_eq_true rfl) dX2_keep_1 (fun H locs hP hS => ?_)
  refine lv_istore_n (lv' := [(1, .int r2), (0, .ref (ad 5))]) S.1 S.2.1 dX2_keep_4 rfl hl (by decide) rfl (fun ls hl => ?_)
  refine lv_iload_n S.1 S.2.1 dX2_keep_5 rfl (lv_at hl 0 rfl) ?_
  refine lv_sipush (v := (1023 : Int32)) S.1 S.2.1 dX2_keep_6 (by decide) ?_
  refine lv_iand S.1 S.2.1 dX2_keep_9 ?_
  refine lv_istore_n (lv' := [(2, .int (r2 &&& (1023 : Int32))), (1, .int r2), (0, .ref (ad 5))]) S.1 S.2.1 dX2_keep_10 rfl hl (by decide) rfl (fun ls hl => ?_)
  refine lv_iconst (v := (0 : Int32)) S.1 S.2.1 dX2_keep_11 (by decide) ?_
  refine lv_istore_n (lv' := [(3, .int (0 : Int32)), (2, .int (r2 &&& (1023 : Int32))), (1, .int r2), (0, .ref (ad 5))]) S.1 S.2.1 dX2_keep_12 rfl hl (by decide) rfl (fun ls hl => ?_)
  exact B_13 _ B_60 FU _ _ _ u3 h _ _ _ hP hS (lv_sub hl [3, 2, 1, 0] rfl)
set_option maxHeartbeats 4000000 in
set_option maxRecDepth 100000 in
theorem k_X3_copyFrom_9 {l : Launch} {dC : Nat → ClassId} {dI : Nat → Nat → Nat} {ad : Nat → Nat} {cI : ClassId} (hap : AP ad 14) {x2 x3 : Int32} {u uf : Wo} {rf : Int32} (h : fX3_copyFrom_9 x2 x3 u = some (rf, uf)) : CV l dC dI cI (WC ad cI) (AF ad 14) yX3_copyFrom cX3_copyFrom 4 none 1 26 [.ref (ad 1), .ref (ad 9), .int x2, .int x3] u uf := by
  refine cv_begin (by decide) (Nat.le_of_ble_eq_true rfl) ?_
  intro p e s m args below meth c S hr hlk hK
  have B_36 : ∀ (u : Wo), fX3_copyFrom_9_36 u = some (rf, uf) → J p l e (rmk 1 26) s m args below meth c dC dI (WC ad cI) (AF ad 14) (MQ below (QV dC dI cI (WC ad cI) (AF ad 14) uf) args s 0 0 (AF ad 14)) u 36 4 [] [] := by
    intro u h H locs ls hP hS hl
    unfold fX3_copyFrom_9_36 at h
    exact x_vret S hr hlk hK hP hS h dX3_copyFrom_36
  intro H locs ls hP hS hl
  have hl : lv_has ls 4 [(0, .ref (ad 1)), (1, .ref (ad 9)), (2, .int x2), (3, .int x3)] := hl
  unfold fX3_copyFrom_9 at h
  refine lv_iload_n S.1 S.2.1 dX3_copyFrom_0 rfl (lv_at hl 2 rfl) ?_
  refine lv_if_lt (tgt := 36) S.1 S.2.1 dX3_copyFrom_1 (by decide) (fun c1 => ?_) (fun c1 => ?_)
  · rw [if_pos c1] at h
    exact B_36 u h _ _ _ hP hS (lv_sub hl [] rfl)
  · rw [if_neg c1] at h
    refine lv_iload_n S.1 S.2.1 dX3_copyFrom_4 rfl (lv_at hl 3 rfl) ?_
    refine lv_if_lt (tgt := 36) S.1 S.2.1 dX3_copyFrom_5 (by decide) (fun c2 => ?_) (fun c2 => ?_)
    · rw [if_pos c2] at h
      exact B_36 u h _ _ _ hP hS (lv_sub hl [] rfl)
    · rw [if_neg c2] at h
      refine lv_iload_n S.1 S.2.1 dX3_copyFrom_8 rfl (lv_at hl 3 rfl) ?_
      refine lv_aload_n S.1 S.2.1 dX3_copyFrom_9 rfl (lv_at hl 0 rfl) ?_
      refine gC_1_row S hK hP wf_X3_11 dX3_copyFrom_10 ?_
      refine nC_6 S hK hP dX3_copyFrom_13 ?_
      refine lv_icmp_gt (tgt := 36) S.1 S.2.1 dX3_copyFrom_14 (by decide) (fun c3 => ?_) (fun c3 => ?_)
      · rw [if_pos c3] at h
        exact B_36 u h _ _ _ hP hS (lv_sub hl [] rfl)
      · rw [if_neg c3] at h
        refine lv_iload_n S.1 S.2.1 dX3_copyFrom_17 rfl (lv_at hl 2 rfl) ?_
        refine lv_aload_n S.1 S.2.1 dX3_copyFrom_18 rfl (lv_at hl 1 rfl) ?_
        refine nC_9 S hK hP dX3_copyFrom_19 ?_
        refine lv_iload_n S.1 S.2.1 dX3_copyFrom_20 rfl (lv_at hl 3 rfl) ?_
        refine lv_isub S.1 S.2.1 dX3_copyFrom_21 ?_
        refine lv_icmp_gt (tgt := 36) S.1 S.2.1 dX3_copyFrom_22 (by decide) (fun c4 => ?_) (fun c4 => ?_)
        · rw [if_pos c4] at h
          exact B_36 u h _ _ _ hP hS (lv_sub hl [] rfl)
        · rw [if_neg c4] at h
          refine lv_aload_n S.1 S.2.1 dX3_copyFrom_25 rfl (lv_at hl 1 rfl) ?_
          refine lv_iload_n S.1 S.2.1 dX3_copyFrom_26 rfl (lv_at hl 2 rfl) ?_
          refine lv_aload_n S.1 S.2.1 dX3_copyFrom_27 rfl (lv_at hl 0 rfl) ?_
          refine gC_1_row S hK hP wf_X3_11 dX3_copyFrom_28 ?_
          refine lv_iconst (v := (0 : Int32)) S.1 S.2.1 dX3_copyFrom_31 (by decide) ?_
          refine lv_iload_n S.1 S.2.1 dX3_copyFrom_32 rfl (lv_at hl 3 rfl) ?_
          obtain ⟨q5, h⟩ := gi_some h
          obtain ⟨u6, hu6, h⟩ := bw_some h
          refine x_cpy (Wf := WC ad cI) S hK hP (WC_D hap u) hS wl_X3_83 hl.1 (hC_9 u) (hC_6 u) q5 ⟨Nat.le_of_ble_eq_true rfl, Nat.le_of_ble_eq_true rfl⟩ dX3_copyFrom_33 hu6 (cC_9_6 u _ _ _) (fun H locs hP hS => ?_)
          exact B_36 u6 h _ _ _ hP hS (lv_sub hl [] rfl)
theorem hy_X2_load : yX2_load.cls ≠ "java/lang/invoke/MethodHandle" ∧ yX2_load.cls ≠ "java/lang/invoke/VarHandle" ∧ (parseMethodDescriptor yX2_load.desc).map (fun d => d.parameters.length) = some 1 := by decide +kernel
set_option maxHeartbeats 4000000 in
set_option maxRecDepth 100000 in
theorem k_X2_load {l : Launch} {dC : Nat → ClassId} {dI : Nat → Nat → Nat} {ad : Nat → Nat} {cI : ClassId} (hap : AP ad 14) {x1 : Int32} {u uf : Wo} {rf : Int32} (h : fX2_load x1 u = some (rf, uf)) : CV l dC dI cI (WC ad cI) (AF ad 14) yX2_load cX2_load 2 none 2 49 [.ref (ad 5), .int x1] u uf := by
  refine cv_begin (by decide) (Nat.le_of_ble_eq_true rfl) ?_
  intro p e s m args below meth c S hr hlk hK
  intro H locs ls hP hS hl
  have hl : lv_has ls 2 [(0, .ref (ad 5)), (1, .int x1)] := hl
  unfold fX2_load at h
  refine lv_aload_n S.1 S.2.1 dX2_load_0 rfl (lv_at hl 0 rfl) ?_
  refine gC_5_stand S hK hP wf_X2_9 dX2_load_1 ?_
  refine lv_aload_n S.1 S.2.1 dX2_load_4 rfl (lv_at hl 0 rfl) ?_
  refine gC_5_states S hK hP wf_X2_22 dX2_load_5 ?_
  refine lv_iload_n S.1 S.2.1 dX2_load_8 rfl (lv_at hl 1 rfl) ?_
  refine lv_sipush (v := (608 : Int32)) S.1 S.2.1 dX2_load_9 (by decide) ?_
  refine lv_imul S.1 S.2.1 dX2_load_12 ?_
  refine lv_sipush (v := (608 : Int32)) S.1 S.2.1 dX2_load_13 (by decide) ?_
  obtain ⟨r2, u3, q1, h⟩ := bd_some h
  refine x_vv (Wf := WC ad cI) (q0 := 1) (ci := 3) (As := [.ref (ad 9), .int (x1 * (608 : Int32)), .int (608 : Int32)]) (rest := []) S hK hP hS (k_X3_copyFrom_9 hap q1) rfl rfl wl_X2_68 wi_X3_copyFrom ws_X3_copyFrom wz_X3 wc_X3_copyFrom hy_X3_copyFrom ⟨Nat.le_of_ble_eq_true rfl, Nat.le_of_ble_eq_true rfl⟩ hl.1 rfl (Nat.le_of_ble_eq_true rfl) dX2_load_16 (fun H locs hP hS => ?_)
  exact x_vret S hr hlk hK hP hS h dX2_load_19
theorem hy_X3_howMany : yX3_howMany.cls ≠ "java/lang/invoke/MethodHandle" ∧ yX3_howMany.cls ≠ "java/lang/invoke/VarHandle" ∧ (parseMethodDescriptor yX3_howMany.desc).map (fun d => d.parameters.length) = some 1 := by decide +kernel
set_option maxHeartbeats 4000000 in
set_option maxRecDepth 100000 in
theorem k_X3_howMany {l : Launch} {dC : Nat → ClassId} {dI : Nat → Nat → Nat} {ad : Nat → Nat} {cI : ClassId} (hap : AP ad 14) {x1 : Int32} {u uf : Wo} {rf : Int32} (h : fX3_howMany x1 u = some (rf, uf)) : CI l dC dI cI (WC ad cI) (AF ad 14) yX3_howMany cX3_howMany 4 (some .int) 2 43 [.ref (ad 1), .int x1] u rf uf := by
  refine ci_begin (by decide) (Nat.le_of_ble_eq_true rfl) ?_
  intro p e s m args below meth c S hr hlk hK
  have B_28 : ∀ (k4 : Int32 → Int32 → Int32 → Wo → Re) (hk4 : ∀ (x1 : Int32) (x2 : Int32) (x3 : Int32) (u : Wo), k4 x1 x2 x3 u = some (rf, uf) → J p l e (rmk 2 43) s m args below meth c dC dI (WC ad cI) (AF ad 14) (MQ below (QI dC dI cI (WC ad cI) (AF ad 14) rf uf) args s 0 0 (AF ad 14)) u 4 4 [(0, .ref (ad 1)), (1, .int x1), (2, .int x2), (3, .int x3)] []) (x1 : Int32) (x3 : Int32) (s0 : Int32) (s1 : Int32) (u : Wo), fX3_howMany_28 k4 x1 x3 s0 s1 u = some (rf, uf) → J p l e (rmk 2 43) s m args below meth c dC dI (WC ad cI) (AF ad 14) (MQ below (QI dC dI cI (WC ad cI) (AF ad 14) rf uf) args s 0 0 (AF ad 14)) u 28 4 [(0, .ref (ad 1)), (1, .int x1), (3, .int x3)] [.int s1, .int s0] := by
    intro k4 hk4 x1 x3 s0 s1 u h H locs ls hP hS hl
    unfold fX3_howMany_28 at h
    refine lv_iadd S.1 S.2.1 dX3_howMany_28 ?_
    refine lv_istore_n (lv' := [(2, .int (s0 + s1)), (0, .ref (ad 1)), (1, .int x1), (3, .int x3)]) S.1 S.2.1 dX3_howMany_29 rfl hl (by decide) rfl (fun ls hl => ?_)
    refine lv_iinc (v := (x3 + (1 : Int32))) (lv' := [(3, .int (x3 + (1 : Int32))), (2, .int (s0 + s1)), (0, .ref (ad 1)), (1, .int x1)]) S.1 S.2.1 dX3_howMany_30 hl (k := 3) rfl rfl (by decide) rfl (fun ls hl => ?_)
    refine lv_goto (tgt := 4) S.1 S.2.1 dX3_howMany_33 (by decide) ?_
    exact hk4 _ _ _ u h _ _ _ hP hS (lv_sub hl [2, 3, 1, 0] rfl)
  have B_4 : ∀ (k36 : Int32 → Wo → Re) (hk36 : ∀ (x2 : Int32) (u : Wo), k36 x2 u = some (rf, uf) → J p l e (rmk 2 43) s m args below meth c dC dI (WC ad cI) (AF ad 14) (MQ below (QI dC dI cI (WC ad cI) (AF ad 14) rf uf) args s 0 0 (AF ad 14)) u 36 4 [(2, .int x2)] []) (n : Nat) (x1 : Int32) (x2 : Int32) (x3 : Int32) (u : Wo), fX3_howMany_4 k36 n x1 x2 x3 u = some (rf, uf) → J p l e (rmk 2 43) s m args below meth c dC dI (WC ad cI) (AF ad 14) (MQ below (QI dC dI cI (WC ad cI) (AF ad 14) rf uf) args s 0 0 (AF ad 14)) u 4 4 [(0, .ref (ad 1)), (1, .int x1), (2, .int x2), (3, .int x3)] [] := by
    intro k36 hk36
    intro n
    induction n with
    | zero => intro x1 x2 x3 u h; cases h
    | succ n ih =>
      intro x1 x2 x3 u h H locs ls hP hS hl
      rw [fX3_howMany_4.eq_2] at h
      refine lv_iload_n S.1 S.2.1 dX3_howMany_4 rfl (lv_at hl 3 rfl) ?_
      refine lv_aload_n S.1 S.2.1 dX3_howMany_5 rfl (lv_at hl 0 rfl) ?_
      refine gC_1_n S hK hP wf_X3_19 dX3_howMany_6 ?_
      refine lv_icmp_ge (tgt := 36) S.1 S.2.1 dX3_howMany_9 (by decide) (fun c1 => ?_) (fun c1 => ?_)
      · rw [if_pos c1] at h
        exact hk36 _ u h _ _ _ hP hS (lv_sub hl [2] rfl)
      · rw [if_neg c1] at h
        refine lv_iload_n S.1 S.2.1 dX3_howMany_12 rfl (lv_at hl 2 rfl) ?_
        refine lv_aload_n S.1 S.2.1 dX3_howMany_13 rfl (lv_at hl 0 rfl) ?_
        refine lv_iload_n S.1 S.2.1 dX3_howMany_14 rfl (lv_at hl 3 rfl) ?_
        refine lv_iconst (v := (0 : Int32)) S.1 S.2.1 dX3_howMany_15 (by decide) ?_
        obtain ⟨r3, u4, q2, h⟩ := bd_some h
        refine x_vi (Wf := WC ad cI) (q0 := 1) (ci := 3) (As := [.int x3, .int (0 : Int32)]) (rest := [.int x2]) S hK hP hS (k_X3_of hap q2) rfl rfl wl_X3_66 wi_X3_of ws_X3_of wz_X3 wc_X3_of hy_X3_of ⟨Nat.le_of_ble_eq_true rfl, Nat.le_of_ble_eq_true rfl⟩ hl.1 rfl (Nat.le_of_ble_eq_true rfl) dX3_howMany_16 (fun H locs hP hS => ?_)
        refine lv_iload_n S.1 S.2.1 dX3_howMany_19 rfl (lv_at hl 1 rfl) ?_
        refine lv_icmp_ne (tgt := 27) S.1 S.2.1 dX3_howMany_20 (by decide) (fun c5 => ?_) (fun c5 => ?_)
        · rw [if_neg c5] at h
          refine lv_iconst (v := (0 : Int32)) S.1 S.2.1 dX3_howMany_27 (by decide) ?_
          exact B_28 _ ih _ _ _ _ u4 h _ _ _ hP hS (lv_sub hl [0, 1, 3] rfl)
        · rw [if_pos c5] at h
          refine lv_iconst (v := (1 : Int32)) S.1 S.2.1 dX3_howMany_23 (by decide) ?_
          refine lv_goto (tgt := 28) S.1 S.2.1 dX3_howMany_24 (by decide) ?_
          exact B_28 _ ih _ _ _ _ u4 h _ _ _ hP hS (lv_sub hl [0, 1, 3] rfl)
  have B_36 : ∀ (x2 : Int32) (u : Wo), fX3_howMany_36 x2 u = some (rf, uf) → J p l e (rmk 2 43) s m args below meth c dC dI (WC ad cI) (AF ad 14) (MQ below (QI dC dI cI (WC ad cI) (AF ad 14) rf uf) args s 0 0 (AF ad 14)) u 36 4 [(2, .int x2)] [] := by
    intro x2 u h H locs ls hP hS hl
    unfold fX3_howMany_36 at h
    refine lv_iload_n S.1 S.2.1 dX3_howMany_36 rfl (lv_at hl 0 rfl) ?_
    exact x_iret S hr hlk hK hP hS h dX3_howMany_37
  intro H locs ls hP hS hl
  have hl : lv_has ls 4 [(0, .ref (ad 1)), (1, .int x1)] := hl
  unfold fX3_howMany at h
  refine lv_iconst (v := (0 : Int32)) S.1 S.2.1 dX3_howMany_0 (by decide) ?_
  refine lv_istore_n (lv' := [(2, .int (0 : Int32)), (0, .ref (ad 1)), (1, .int x1)]) S.1 S.2.1 dX3_howMany_1 rfl hl (by decide) rfl (fun ls hl => ?_)
  refine lv_iconst (v := (0 : Int32)) S.1 S.2.1 dX3_howMany_2 (by decide) ?_
  refine lv_istore_n (lv' := [(3, .int (0 : Int32)), (2, .int (0 : Int32)), (0, .ref (ad 1)), (1, .int x1)]) S.1 S.2.1 dX3_howMany_3 rfl hl (by decide) rfl (fun ls hl => ?_)
  exact B_4 _ B_36 FU _ _ _ u h _ _ _ hP hS (lv_sub hl [2, 3, 1, 0] rfl)
theorem hy_X3_underWayInAll : yX3_underWayInAll.cls ≠ "java/lang/invoke/MethodHandle" ∧ yX3_underWayInAll.cls ≠ "java/lang/invoke/VarHandle" ∧ (parseMethodDescriptor yX3_underWayInAll.desc).map (fun d => d.parameters.length) = some 0 := by decide +kernel
set_option maxHeartbeats 4000000 in
set_option maxRecDepth 100000 in
theorem k_X3_underWayInAll {l : Launch} {dC : Nat → ClassId} {dI : Nat → Nat → Nat} {ad : Nat → Nat} {cI : ClassId} (hap : AP ad 14) {u uf : Wo} {rf : Int32} (h : fX3_underWayInAll u = some (rf, uf)) : CI l dC dI cI (WC ad cI) (AF ad 14) yX3_underWayInAll cX3_underWayInAll 4 (some .int) 2 43 [.ref (ad 1)] u rf uf := by
  refine ci_begin (by decide) (Nat.le_of_ble_eq_true rfl) ?_
  intro p e s m args below meth c S hr hlk hK
  have B_14 : ∀ (k37 : Int32 → Int32 → Wo → Re) (hk37 : ∀ (x1 : Int32) (x2 : Int32) (u : Wo), k37 x1 x2 u = some (rf, uf) → J p l e (rmk 2 43) s m args below meth c dC dI (WC ad cI) (AF ad 14) (MQ below (QI dC dI cI (WC ad cI) (AF ad 14) rf uf) args s 0 0 (AF ad 14)) u 37 4 [(0, .ref (ad 1)), (1, .int x1), (2, .int x2)] []) (n : Nat) (x1 : Int32) (x2 : Int32) (x3 : Int32) (u : Wo), fX3_underWayInAll_14 k37 n x1 x2 x3 u = some (rf, uf) → J p l e (rmk 2 43) s m args below meth c dC dI (WC ad cI) (AF ad 14) (MQ below (QI dC dI cI (WC ad cI) (AF ad 14) rf uf) args s 0 0 (AF ad 14)) u 14 4 [(0, .ref (ad 1)), (1, .int x1), (2, .int x2), (3, .int x3)] [] := by
    intro k37 hk37
    intro n
    induction n with
    | zero => intro x1 x2 x3 u h; cases h
    | succ n ih =>
      intro x1 x2 x3 u h H locs ls hP hS hl
      rw [fX3_underWayInAll_14.eq_2] at h
      refine lv_iload_n S.1 S.2.1 dX3_underWayInAll_14 rfl (lv_at hl 3 rfl) ?_
      refine lv_aload_n S.1 S.2.1 dX3_underWayInAll_15 rfl (lv_at hl 0 rfl) ?_
      refine gC_1_n S hK hP wf_X3_19 dX3_underWayInAll_16 ?_
      refine lv_icmp_ge (tgt := 37) S.1 S.2.1 dX3_underWayInAll_19 (by decide) (fun c2 => ?_) (fun c2 => ?_)
      · rw [if_pos c2] at h
        exact hk37 _ _ u h _ _ _ hP hS (lv_sub hl [0, 1, 2] rfl)
      · rw [if_neg c2] at h
        refine lv_iload_n S.1 S.2.1 dX3_underWayInAll_22 rfl (lv_at hl 1 rfl) ?_
        refine lv_aload_n S.1 S.2.1 dX3_underWayInAll_23 rfl (lv_at hl 0 rfl) ?_
        refine lv_iload_n S.1 S.2.1 dX3_underWayInAll_24 rfl (lv_at hl 2 rfl) ?_
        refine lv_iload_n S.1 S.2.1 dX3_underWayInAll_25 rfl (lv_at hl 3 rfl) ?_
        obtain ⟨r4, u5, q3, h⟩ := bd_some h
        refine x_vi (Wf := WC ad cI) (q0 := 1) (ci := 3) (As := [.int x2, .int x3]) (rest := [.int x1]) S hK hP hS (k_X3_underWay hap q3) rfl rfl wl_X3_63 wi_X3_underWay ws_X3_underWay wz_X3 wc_X3_underWay hy_X3_underWay ⟨Nat.le_of_ble_eq_true rfl, Nat.le_of_ble_eq_true rfl⟩ hl.1 rfl (Nat.le_of_ble_eq_true rfl) dX3_underWayInAll_26 (fun H locs hP hS => ?_)
        refine lv_iadd S.1 S.2.1 dX3_underWayInAll_29 ?_
        refine lv_istore_n (lv' := [(1, .int (x1 + r4)), (0, .ref (ad 1)), (2, .int x2), (3, .int x3)]) S.1 S.2.1 dX3_underWayInAll_30 rfl hl (by decide) rfl (fun ls hl => ?_)
        refine lv_iinc (v := (x3 + (1 : Int32))) (lv' := [(3, .int (x3 + (1 : Int32))), (1, .int (x1 + r4)), (0, .ref (ad 1)), (2, .int x2)]) S.1 S.2.1 dX3_underWayInAll_31 hl (k := 3) rfl rfl (by decide) rfl (fun ls hl => ?_)
        refine lv_goto (tgt := 14) S.1 S.2.1 dX3_underWayInAll_34 (by decide) ?_
        exact ih _ _ _ u5 h _ _ _ hP hS (lv_sub hl [2, 1, 3, 0] rfl)
  have B_37 : ∀ (k4 : Int32 → Int32 → Wo → Re) (hk4 : ∀ (x1 : Int32) (x2 : Int32) (u : Wo), k4 x1 x2 u = some (rf, uf) → J p l e (rmk 2 43) s m args below meth c dC dI (WC ad cI) (AF ad 14) (MQ below (QI dC dI cI (WC ad cI) (AF ad 14) rf uf) args s 0 0 (AF ad 14)) u 4 4 [(0, .ref (ad 1)), (1, .int x1), (2, .int x2)] []) (x1 : Int32) (x2 : Int32) (u : Wo), fX3_underWayInAll_37 k4 x1 x2 u = some (rf, uf) → J p l e (rmk 2 43) s m args below meth c dC dI (WC ad cI) (AF ad 14) (MQ below (QI dC dI cI (WC ad cI) (AF ad 14) rf uf) args s 0 0 (AF ad 14)) u 37 4 [(0, .ref (ad 1)), (1, .int x1), (2, .int x2)] [] := by
    intro k4 hk4 x1 x2 u h H locs ls hP hS hl
    unfold fX3_underWayInAll_37 at h
    refine lv_iinc (v := (x2 + (1 : Int32))) (lv' := [(2, .int (x2 + (1 : Int32))), (0, .ref (ad 1)), (1, .int x1)]) S.1 S.2.1 dX3_underWayInAll_37 hl (k := 2) rfl rfl (by decide) rfl (fun ls hl => ?_)
    refine lv_goto (tgt := 4) S.1 S.2.1 dX3_underWayInAll_40 (by decide) ?_
    exact hk4 _ _ u h _ _ _ hP hS (lv_sub hl [1, 2, 0] rfl)
  have B_4 : ∀ (k43 : Int32 → Wo → Re) (hk43 : ∀ (x1 : Int32) (u : Wo), k43 x1 u = some (rf, uf) → J p l e (rmk 2 43) s m args below meth c dC dI (WC ad cI) (AF ad 14) (MQ below (QI dC dI cI (WC ad cI) (AF ad 14) rf uf) args s 0 0 (AF ad 14)) u 43 4 [(1, .int x1)] []) (n : Nat) (x1 : Int32) (x2 : Int32) (u : Wo), fX3_underWayInAll_4 k43 n x1 x2 u = some (rf, uf) → J p l e (rmk 2 43) s m args below meth c dC dI (WC ad cI) (AF ad 14) (MQ below (QI dC dI cI (WC ad cI) (AF ad 14) rf uf) args s 0 0 (AF ad 14)) u 4 4 [(0, .ref (ad 1)), (1, .int x1), (2, .int x2)] [] := by
    intro k43 hk43
    intro n
    induction n with
    | zero => intro x1 x2 u h; cases h
    | succ n ih =>
      intro x1 x2 u h H locs ls hP hS hl
      rw [fX3_underWayInAll_4.eq_2] at h
      refine lv_iload_n S.1 S.2.1 dX3_underWayInAll_4 rfl (lv_at hl 2 rfl) ?_
      refine lv_aload_n S.1 S.2.1 dX3_underWayInAll_5 rfl (lv_at hl 0 rfl) ?_
      refine gC_1_n S hK hP wf_X3_19 dX3_underWayInAll_6 ?_
      refine lv_icmp_ge (tgt := 43) S.1 S.2.1 dX3_underWayInAll_9 (by decide) (fun c1 => ?_) (fun c1 => ?_)
      · rw [if_pos c1] at h
        exact hk43 _ u h _ _ _ hP hS (lv_sub hl [1] rfl)
      · rw [if_neg c1] at h
        refine lv_iconst (v := (0 : Int32)) S.1 S.2.1 dX3_underWayInAll_12 (by decide) ?_
        refine lv_istore_n (lv' := [(3, .int (0 : Int32)), (0, .ref (ad 1)), (1, .int x1), (2, .int x2)]) S.1 S.2.1 dX3_underWayInAll_13 rfl hl (by decide) rfl (fun ls hl => ?_)
        exact B_14 _ (B_37 _ ih) FU _ _ _ u h _ _ _ hP hS (lv_sub hl [1, 2, 3, 0] rfl)
  have B_43 : ∀ (x1 : Int32) (u : Wo), fX3_underWayInAll_43 x1 u = some (rf, uf) → J p l e (rmk 2 43) s m args below meth c dC dI (WC ad cI) (AF ad 14) (MQ below (QI dC dI cI (WC ad cI) (AF ad 14) rf uf) args s 0 0 (AF ad 14)) u 43 4 [(1, .int x1)] [] := by
    intro x1 u h H locs ls hP hS hl
    unfold fX3_underWayInAll_43 at h
    refine lv_iload_n S.1 S.2.1 dX3_underWayInAll_43 rfl (lv_at hl 0 rfl) ?_
    exact x_iret S hr hlk hK hP hS h dX3_underWayInAll_44
  intro H locs ls hP hS hl
  have hl : lv_has ls 4 [(0, .ref (ad 1))] := hl
  unfold fX3_underWayInAll at h
  refine lv_iconst (v := (0 : Int32)) S.1 S.2.1 dX3_underWayInAll_0 (by decide) ?_
  refine lv_istore_n (lv' := [(1, .int (0 : Int32)), (0, .ref (ad 1))]) S.1 S.2.1 dX3_underWayInAll_1 rfl hl (by decide) rfl (fun ls hl => ?_)
  refine lv_iconst (v := (0 : Int32)) S.1 S.2.1 dX3_underWayInAll_2 (by decide) ?_
  refine lv_istore_n (lv' := [(2, .int (0 : Int32)), (1, .int (0 : Int32)), (0, .ref (ad 1))]) S.1 S.2.1 dX3_underWayInAll_3 rfl hl (by decide) rfl (fun ls hl => ?_)
  exact B_4 _ B_43 FU _ _ u h _ _ _ hP hS (lv_sub hl [2, 1, 0] rfl)
theorem hy_X3_tokenBetween : yX3_tokenBetween.cls ≠ "java/lang/invoke/MethodHandle" ∧ yX3_tokenBetween.cls ≠ "java/lang/invoke/VarHandle" ∧ (parseMethodDescriptor yX3_tokenBetween.desc).map (fun d => d.parameters.length) = some 2 := by decide +kernel
set_option maxHeartbeats 4000000 in
set_option maxRecDepth 100000 in
theorem k_X3_tokenBetween {l : Launch} {dC : Nat → ClassId} {dI : Nat → Nat → Nat} {ad : Nat → Nat} {cI : ClassId} (hap : AP ad 14) {x1 x2 : Int32} {u uf : Wo} {rf : Int32} (h : fX3_tokenBetween x1 x2 u = some (rf, uf)) : CI l dC dI cI (WC ad cI) (AF ad 14) yX3_tokenBetween cX3_tokenBetween 5 (some .boolean) 2 44 [.ref (ad 1), .int x1, .int x2] u rf uf := by
  refine ci_begin (by decide) (Nat.le_of_ble_eq_true rfl) ?_
  intro p e s m args below meth c S hr hlk hK
  have B_10 : ∀ (k46 : Wo → Re) (hk46 : ∀ (u : Wo), k46  u = some (rf, uf) → J p l e (rmk 2 44) s m args below meth c dC dI (WC ad cI) (AF ad 14) (MQ below (QI dC dI cI (WC ad cI) (AF ad 14) rf uf) args s 0 0 (AF ad 14)) u 46 5 [] []) (n : Nat) (x1 : Int32) (x2 : Int32) (x3 : Int32) (x4 : Int32) (u : Wo), fX3_tokenBetween_10 k46 n x1 x2 x3 x4 u = some (rf, uf) → J p l e (rmk 2 44) s m args below meth c dC dI (WC ad cI) (AF ad 14) (MQ below (QI dC dI cI (WC ad cI) (AF ad 14) rf uf) args s 0 0 (AF ad 14)) u 10 5 [(0, .ref (ad 1)), (1, .int x1), (2, .int x2), (3, .int x3), (4, .int x4)] [] := by
    intro k46 hk46
    intro n
    induction n with
    | zero => intro x1 x2 x3 x4 u h; cases h
    | succ n ih =>
      intro x1 x2 x3 x4 u h H locs ls hP hS hl
      rw [fX3_tokenBetween_10.eq_2] at h
      refine lv_iload S.1 S.2.1 dX3_tokenBetween_10 (lv_at hl 4 rfl) ?_
      refine lv_iload_n S.1 S.2.1 dX3_tokenBetween_12 rfl (lv_at hl 3 rfl) ?_
      refine lv_icmp_ge (tgt := 46) S.1 S.2.1 dX3_tokenBetween_13 (by decide) (fun c4 => ?_) (fun c4 => ?_)
      · rw [if_pos c4] at h
        exact hk46 u h _ _ _ hP hS (lv_sub hl [] rfl)
      · rw [if_neg c4] at h
        refine lv_iload S.1 S.2.1 dX3_tokenBetween_16 (lv_at hl 4 rfl) ?_
        refine lv_bipush (v := (12 : Int32)) S.1 S.2.1 dX3_tokenBetween_18 (by decide) ?_
        refine lv_icmp_ge (tgt := 46) S.1 S.2.1 dX3_tokenBetween_20 (by decide) (fun c5 => ?_) (fun c5 => ?_)
        · rw [if_pos c5] at h
          exact hk46 u h _ _ _ hP hS (lv_sub hl [] rfl)
        · rw [if_neg c5] at h
          refine lv_aload_n S.1 S.2.1 dX3_tokenBetween_23 rfl (lv_at hl 0 rfl) ?_
          refine lv_iload_n S.1 S.2.1 dX3_tokenBetween_24 rfl (lv_at hl 1 rfl) ?_
          refine lv_iload_n S.1 S.2.1 dX3_tokenBetween_25 rfl (lv_at hl 2 rfl) ?_
          refine lv_iload S.1 S.2.1 dX3_tokenBetween_26 (lv_at hl 4 rfl) ?_
          obtain ⟨r7, u8, q6, h⟩ := bd_some h
          refine x_vi (Wf := WC ad cI) (q0 := 1) (ci := 3) (As := [.int x1, .int x2, .int x4]) (rest := []) S hK hP hS (k_X3_letterAt hap q6) rfl rfl wl_X3_76 wi_X3_letterAt ws_X3_letterAt wz_X3 wc_X3_letterAt hy_X3_letterAt ⟨Nat.le_of_ble_eq_true rfl, Nat.le_of_ble_eq_true rfl⟩ hl.1 rfl (Nat.le_of_ble_eq_true rfl) dX3_tokenBetween_28 (fun H locs hP hS => ?_)
          obtain ⟨r10, u11, q9, h⟩ := bd_some h
          refine x_si (Wf := WC ad cI) (As := [.int r7]) (rest := []) S hK hP hS (k_X3_kindOf hap q9) wl_X3_80 wt_X3_kindOf wz_X3 wc_X3_kindOf hy_X3_kindOf ⟨Nat.le_of_ble_eq_true rfl, Nat.le_of_ble_eq_true rfl⟩ hl.1 rfl (Nat.le_of_ble_eq_true rfl) dX3_tokenBetween_31 (fun H locs hP hS => ?_)
          refine lv_iconst (v := (2 : Int32)) S.1 S.2.1 dX3_tokenBetween_34 (by decide) ?_
          refine lv_icmp_ne (tgt := 40) S.1 S.2.1 dX3_tokenBetween_35 (by decide) (fun c12 => ?_) (fun c12 => ?_)
          · rw [if_neg c12] at h
            refine lv_iinc (v := (x4 + (1 : Int32))) (lv' := [(4, .int (x4 + (1 : Int32))), (0, .ref (ad 1)), (1, .int x1), (2, .int x2), (3, .int x3)]) S.1 S.2.1 dX3_tokenBetween_40 hl (k := 4) rfl rfl (by decide) rfl (fun ls hl => ?_)
            refine lv_goto (tgt := 10) S.1 S.2.1 dX3_tokenBetween_43 (by decide) ?_
            exact ih _ _ _ _ u11 h _ _ _ hP hS (lv_sub hl [1, 2, 3, 4, 0] rfl)
          · rw [if_pos c12] at h
            refine lv_iconst (v := (1 : Int32)) S.1 S.2.1 dX3_tokenBetween_38 (by decide) ?_
            exact x_zret S hr hlk hK hP hS (by decide) h dX3_tokenBetween_39
  have B_46 : ∀ (u : Wo), fX3_tokenBetween_46 u = some (rf, uf) → J p l e (rmk 2 44) s m args below meth c dC dI (WC ad cI) (AF ad 14) (MQ below (QI dC dI cI (WC ad cI) (AF ad 14) rf uf) args s 0 0 (AF ad 14)) u 46 5 [] [] := by
    intro u h H locs ls hP hS hl
    unfold fX3_tokenBetween_46 at h
    refine lv_iconst (v := (0 : Int32)) S.1 S.2.1 dX3_tokenBetween_46 (by decide) ?_
    exact x_zret S hr hlk hK hP hS (by decide) h dX3_tokenBetween_47
  intro H locs ls hP hS hl
  have hl : lv_has ls 5 [(0, .ref (ad 1)), (1, .int x1), (2, .int x2)] := hl
  unfold fX3_tokenBetween at h
  refine lv_aload_n S.1 S.2.1 dX3_tokenBetween_0 rfl (lv_at hl 0 rfl) ?_
  refine lv_iload_n S.1 S.2.1 dX3_tokenBetween_1 rfl (lv_at hl 1 rfl) ?_
  refine lv_iload_n S.1 S.2.1 dX3_tokenBetween_2 rfl (lv_at hl 2 rfl) ?_
  obtain ⟨r2, u3, q1, h⟩ := bd_some h
  refine x_vi (Wf := WC ad cI) (q0 := 1) (ci := 3) (As := [.int x1, .int x2]) (rest := []) S hK hP hS (k_X3_underWay hap q1) rfl rfl wl_X3_63 wi_X3_underWay ws_X3_underWay wz_X3 wc_X3_underWay hy_X3_underWay ⟨Nat.le_of_ble_eq_true rfl, Nat.le_of_ble_eq_true rfl⟩ hl.1 rfl (Nat.le_of_ble_eq_true rfl) dX3_tokenBetween_3 (fun H locs hP hS => ?_)
  refine lv_istore_n (lv' := [(3, .int r2), (0, .ref (ad 1)), (1, .int x1), (2, .int x2)]) S.1 S.2.1 dX3_tokenBetween_6 rfl hl (by decide) rfl (fun ls hl => ?_)
  refine lv_iconst (v := (0 : Int32)) S.1 S.2.1 dX3_tokenBetween_7 (by decide) ?_
  refine lv_istore (lv' := [(4, .int (0 : Int32)), (3, .int r2), (0, .ref (ad 1)), (1, .int x1), (2, .int x2)]) S.1 S.2.1 dX3_tokenBetween_8 hl (by decide) rfl (fun ls hl => ?_)
  exact B_10 _ B_46 FU _ _ _ _ u3 h _ _ _ hP hS (lv_sub hl [2, 3, 4, 1, 0] rfl)
theorem hy_X3_tokenIsLost : yX3_tokenIsLost.cls ≠ "java/lang/invoke/MethodHandle" ∧ yX3_tokenIsLost.cls ≠ "java/lang/invoke/VarHandle" ∧ (parseMethodDescriptor yX3_tokenIsLost.desc).map (fun d => d.parameters.length) = some 0 := by decide +kernel
set_option maxHeartbeats 4000000 in
set_option maxRecDepth 100000 in
theorem k_X3_tokenIsLost {l : Launch} {dC : Nat → ClassId} {dI : Nat → Nat → Nat} {ad : Nat → Nat} {cI : ClassId} (hap : AP ad 14) {u uf : Wo} {rf : Int32} (h : fX3_tokenIsLost u = some (rf, uf)) : CI l dC dI cI (WC ad cI) (AF ad 14) yX3_tokenIsLost cX3_tokenIsLost 3 (some .boolean) 3 68 [.ref (ad 1)] u rf uf := by
  refine ci_begin (by decide) (Nat.le_of_ble_eq_true rfl) ?_
  intro p e s m args below meth c S hr hlk hK
  have B_22 : ∀ (k47 : Int32 → Wo → Re) (hk47 : ∀ (x1 : Int32) (u : Wo), k47 x1 u = some (rf, uf) → J p l e (rmk 3 68) s m args below meth c dC dI (WC ad cI) (AF ad 14) (MQ below (QI dC dI cI (WC ad cI) (AF ad 14) rf uf) args s 0 0 (AF ad 14)) u 47 3 [(0, .ref (ad 1)), (1, .int x1)] []) (n : Nat) (x1 : Int32) (x2 : Int32) (u : Wo), fX3_tokenIsLost_22 k47 n x1 x2 u = some (rf, uf) → J p l e (rmk 3 68) s m args below meth c dC dI (WC ad cI) (AF ad 14) (MQ below (QI dC dI cI (WC ad cI) (AF ad 14) rf uf) args s 0 0 (AF ad 14)) u 22 3 [(0, .ref (ad 1)), (1, .int x1), (2, .int x2)] [] := by
    intro k47 hk47
    intro n
    induction n with
    | zero => intro x1 x2 u h; cases h
    | succ n ih =>
      intro x1 x2 u h H locs ls hP hS hl
      rw [fX3_tokenIsLost_22.eq_2] at h
      refine lv_iload_n S.1 S.2.1 dX3_tokenIsLost_22 rfl (lv_at hl 2 rfl) ?_
      refine lv_aload_n S.1 S.2.1 dX3_tokenIsLost_23 rfl (lv_at hl 0 rfl) ?_
      refine gC_1_n S hK hP wf_X3_19 dX3_tokenIsLost_24 ?_
      refine lv_icmp_ge (tgt := 47) S.1 S.2.1 dX3_tokenIsLost_27 (by decide) (fun c6 => ?_) (fun c6 => ?_)
      · rw [if_pos c6] at h
        exact hk47 _ u h _ _ _ hP hS (lv_sub hl [0, 1] rfl)
      · rw [if_neg c6] at h
        refine lv_aload_n S.1 S.2.1 dX3_tokenIsLost_30 rfl (lv_at hl 0 rfl) ?_
        refine lv_iload_n S.1 S.2.1 dX3_tokenIsLost_31 rfl (lv_at hl 1 rfl) ?_
        refine lv_iload_n S.1 S.2.1 dX3_tokenIsLost_32 rfl (lv_at hl 2 rfl) ?_
        obtain ⟨r8, u9, q7, h⟩ := bd_some h
        refine x_vi (Wf := WC ad cI) (q0 := 1) (ci := 3) (As := [.int x1, .int x2]) (rest := []) S hK hP hS (k_X3_tokenBetween hap q7) rfl rfl wl_X3_72 wi_X3_tokenBetween ws_X3_tokenBetween wz_X3 wc_X3_tokenBetween hy_X3_tokenBetween ⟨Nat.le_of_ble_eq_true rfl, Nat.le_of_ble_eq_true rfl⟩ hl.1 rfl (Nat.le_of_ble_eq_true rfl) dX3_tokenIsLost_33 (fun H locs hP hS => ?_)
        refine lv_if_eq (tgt := 41) S.1 S.2.1 dX3_tokenIsLost_36 (by decide) (fun c10 => ?_) (fun c10 => ?_)
        · rw [if_pos c10] at h
          refine lv_iinc (v := (x2 + (1 : Int32))) (lv' := [(2, .int (x2 + (1 : Int32))), (0, .ref (ad 1)), (1, .int x1)]) S.1 S.2.1 dX3_tokenIsLost_41 hl (k := 2) rfl rfl (by decide) rfl (fun ls hl => ?_)
          refine lv_goto (tgt := 22) S.1 S.2.1 dX3_tokenIsLost_44 (by decide) ?_
          exact ih _ _ u9 h _ _ _ hP hS (lv_sub hl [1, 2, 0] rfl)
        · rw [if_neg c10] at h
          refine lv_iconst (v := (0 : Int32)) S.1 S.2.1 dX3_tokenIsLost_39 (by decide) ?_
          exact x_zret S hr hlk hK hP hS (by decide) h dX3_tokenIsLost_40
  have B_47 : ∀ (k2 : Int32 → Wo → Re) (hk2 : ∀ (x1 : Int32) (u : Wo), k2 x1 u = some (rf, uf) → J p l e (rmk 3 68) s m args below meth c dC dI (WC ad cI) (AF ad 14) (MQ below (QI dC dI cI (WC ad cI) (AF ad 14) rf uf) args s 0 0 (AF ad 14)) u 2 3 [(0, .ref (ad 1)), (1, .int x1)] []) (x1 : Int32) (u : Wo), fX3_tokenIsLost_47 k2 x1 u = some (rf, uf) → J p l e (rmk 3 68) s m args below meth c dC dI (WC ad cI) (AF ad 14) (MQ below (QI dC dI cI (WC ad cI) (AF ad 14) rf uf) args s 0 0 (AF ad 14)) u 47 3 [(0, .ref (ad 1)), (1, .int x1)] [] := by
    intro k2 hk2 x1 u h H locs ls hP hS hl
    unfold fX3_tokenIsLost_47 at h
    refine lv_iinc (v := (x1 + (1 : Int32))) (lv' := [(1, .int (x1 + (1 : Int32))), (0, .ref (ad 1))]) S.1 S.2.1 dX3_tokenIsLost_47 hl (k := 1) rfl rfl (by decide) rfl (fun ls hl => ?_)
    refine lv_goto (tgt := 2) S.1 S.2.1 dX3_tokenIsLost_50 (by decide) ?_
    exact hk2 _ u h _ _ _ hP hS (lv_sub hl [1, 0] rfl)
  have B_2 : ∀ (k53 : Wo → Re) (hk53 : ∀ (u : Wo), k53  u = some (rf, uf) → J p l e (rmk 3 68) s m args below meth c dC dI (WC ad cI) (AF ad 14) (MQ below (QI dC dI cI (WC ad cI) (AF ad 14) rf uf) args s 0 0 (AF ad 14)) u 53 3 [(0, .ref (ad 1))] []) (n : Nat) (x1 : Int32) (u : Wo), fX3_tokenIsLost_2 k53 n x1 u = some (rf, uf) → J p l e (rmk 3 68) s m args below meth c dC dI (WC ad cI) (AF ad 14) (MQ below (QI dC dI cI (WC ad cI) (AF ad 14) rf uf) args s 0 0 (AF ad 14)) u 2 3 [(0, .ref (ad 1)), (1, .int x1)] [] := by
    intro k53 hk53
    intro n
    induction n with
    | zero => intro x1 u h; cases h
    | succ n ih =>
      intro x1 u h H locs ls hP hS hl
      rw [fX3_tokenIsLost_2.eq_2] at h
      refine lv_iload_n S.1 S.2.1 dX3_tokenIsLost_2 rfl (lv_at hl 1 rfl) ?_
      refine lv_aload_n S.1 S.2.1 dX3_tokenIsLost_3 rfl (lv_at hl 0 rfl) ?_
      refine gC_1_n S hK hP wf_X3_19 dX3_tokenIsLost_4 ?_
      refine lv_icmp_ge (tgt := 53) S.1 S.2.1 dX3_tokenIsLost_7 (by decide) (fun c1 => ?_) (fun c1 => ?_)
      · rw [if_pos c1] at h
        exact hk53 u h _ _ _ hP hS (lv_sub hl [0] rfl)
      · rw [if_neg c1] at h
        refine lv_aload_n S.1 S.2.1 dX3_tokenIsLost_10 rfl (lv_at hl 0 rfl) ?_
        refine lv_iload_n S.1 S.2.1 dX3_tokenIsLost_11 rfl (lv_at hl 1 rfl) ?_
        obtain ⟨r3, u4, q2, h⟩ := bd_some h
        refine x_vi (Wf := WC ad cI) (q0 := 1) (ci := 3) (As := [.int x1]) (rest := []) S hK hP hS (k_X3_hasToken hap q2) rfl rfl wl_X3_69 wi_X3_hasToken ws_X3_hasToken wz_X3 wc_X3_hasToken hy_X3_hasToken ⟨Nat.le_of_ble_eq_true rfl, Nat.le_of_ble_eq_true rfl⟩ hl.1 rfl (Nat.le_of_ble_eq_true rfl) dX3_tokenIsLost_12 (fun H locs hP hS => ?_)
        refine lv_if_eq (tgt := 20) S.1 S.2.1 dX3_tokenIsLost_15 (by decide) (fun c5 => ?_) (fun c5 => ?_)
        · rw [if_pos c5] at h
          refine lv_iconst (v := (0 : Int32)) S.1 S.2.1 dX3_tokenIsLost_20 (by decide) ?_
          refine lv_istore_n (lv' := [(2, .int (0 : Int32)), (0, .ref (ad 1)), (1, .int x1)]) S.1 S.2.1 dX3_tokenIsLost_21 rfl hl (by decide) rfl (fun ls hl => ?_)
          exact B_22 _ (B_47 _ ih) FU _ _ u4 h _ _ _ hP hS (lv_sub hl [1, 2, 0] rfl)
        · rw [if_neg c5] at h
          refine lv_iconst (v := (0 : Int32)) S.1 S.2.1 dX3_tokenIsLost_18 (by decide) ?_
          exact x_zret S hr hlk hK hP hS (by decide) h dX3_tokenIsLost_19
  have B_65 : ∀ (s0 : Int32) (u : Wo), fX3_tokenIsLost_65 s0 u = some (rf, uf) → J p l e (rmk 3 68) s m args below meth c dC dI (WC ad cI) (AF ad 14) (MQ below (QI dC dI cI (WC ad cI) (AF ad 14) rf uf) args s 0 0 (AF ad 14)) u 65 3 [] [.int s0] := by
    intro s0 u h H locs ls hP hS hl
    unfold fX3_tokenIsLost_65 at h
    obtain ⟨q12, h⟩ := gi_some h
    exact x_zret S hr hlk hK hP hS q12 h dX3_tokenIsLost_65
  have B_53 : ∀ (u : Wo), fX3_tokenIsLost_53 u = some (rf, uf) → J p l e (rmk 3 68) s m args below meth c dC dI (WC ad cI) (AF ad 14) (MQ below (QI dC dI cI (WC ad cI) (AF ad 14) rf uf) args s 0 0 (AF ad 14)) u 53 3 [(0, .ref (ad 1))] [] := by
    intro u h H locs ls hP hS hl
    unfold fX3_tokenIsLost_53 at h
    refine lv_aload_n S.1 S.2.1 dX3_tokenIsLost_53 rfl (lv_at hl 0 rfl) ?_
    refine gC_1_way S hK hP wf_X3_15 dX3_tokenIsLost_54 ?_
    refine lv_if_eq (tgt := 64) S.1 S.2.1 dX3_tokenIsLost_57 (by decide) (fun c11 => ?_) (fun c11 => ?_)
    · rw [if_pos c11] at h
      refine lv_iconst (v := (0 : Int32)) S.1 S.2.1 dX3_tokenIsLost_64 (by decide) ?_
      exact B_65 _ u h _ _ _ hP hS (lv_sub hl [] rfl)
    · rw [if_neg c11] at h
      refine lv_iconst (v := (1 : Int32)) S.1 S.2.1 dX3_tokenIsLost_60 (by decide) ?_
      refine lv_goto (tgt := 65) S.1 S.2.1 dX3_tokenIsLost_61 (by decide) ?_
      exact B_65 _ u h _ _ _ hP hS (lv_sub hl [] rfl)
  intro H locs ls hP hS hl
  have hl : lv_has ls 3 [(0, .ref (ad 1))] := hl
  unfold fX3_tokenIsLost at h
  refine lv_iconst (v := (0 : Int32)) S.1 S.2.1 dX3_tokenIsLost_0 (by decide) ?_
  refine lv_istore_n (lv' := [(1, .int (0 : Int32)), (0, .ref (ad 1))]) S.1 S.2.1 dX3_tokenIsLost_1 rfl hl (by decide) rfl (fun ls hl => ?_)
  exact B_2 _ B_53 FU _ u h _ _ _ hP hS (lv_sub hl [1, 0] rfl)
theorem hy_X2_tally : yX2_tally.cls ≠ "java/lang/invoke/MethodHandle" ∧ yX2_tally.cls ≠ "java/lang/invoke/VarHandle" ∧ (parseMethodDescriptor yX2_tally.desc).map (fun d => d.parameters.length) = some 0 := by decide +kernel
set_option maxHeartbeats 4000000 in
set_option maxRecDepth 100000 in
theorem k_X2_tally {l : Launch} {dC : Nat → ClassId} {dI : Nat → Nat → Nat} {ad : Nat → Nat} {cI : ClassId} (hap : AP ad 14) {u uf : Wo} {rf : Int32} (h : fX2_tally u = some (rf, uf)) : CV l dC dI cI (WC ad cI) (AF ad 14) yX2_tally cX2_tally 2 none 4 90 [.ref (ad 5)] u uf := by
  refine cv_begin (by decide) (Nat.le_of_ble_eq_true rfl) ?_
  intro p e s m args below meth c S hr hlk hK
  have B_51 : ∀ (s1 : Int32) (s2 : Int32) (s3 : Int32) (u : Wo), fX2_tally_51 s1 s2 s3 u = some (rf, uf) → J p l e (rmk 4 90) s m args below meth c dC dI (WC ad cI) (AF ad 14) (MQ below (QV dC dI cI (WC ad cI) (AF ad 14) uf) args s 0 0 (AF ad 14)) u 51 2 [(0, .ref (ad 5))] [.int s3, .int s2, .int s1, .ref (ad 13)] := by
    intro s1 s2 s3 u h H locs ls hP hS hl
    unfold fX2_tally_51 at h
    refine lv_iadd S.1 S.2.1 dX2_tally_51 ?_
    obtain ⟨q9, h⟩ := gi_some h
    obtain ⟨u10, hu10, h⟩ := bw_some h
    refine tC_13 S hK hap hP hS q9 dX2_tally_52 hu10 (fun H locs hP hS => ?_)
    refine lv_aload_n S.1 S.2.1 dX2_tally_53 rfl (lv_at hl 0 rfl) ?_
    refine gC_5_told S hK hP wf_X2_35 dX2_tally_54 ?_
    refine lv_bipush (v := (6 : Int32)) S.1 S.2.1 dX2_tally_57 (by decide) ?_
    refine lv_aload_n S.1 S.2.1 dX2_tally_59 rfl (lv_at hl 0 rfl) ?_
    refine gC_5_told S hK hP wf_X2_35 dX2_tally_60 ?_
    refine lv_bipush (v := (6 : Int32)) S.1 S.2.1 dX2_tally_63 (by decide) ?_
    obtain ⟨q11, h⟩ := gi_some h
    refine lC_13 S hK hP q11 dX2_tally_65 ?_
    refine lv_aload_n S.1 S.2.1 dX2_tally_66 rfl (lv_at hl 0 rfl) ?_
    refine gC_5_stand S hK hP wf_X2_9 dX2_tally_67 ?_
    obtain ⟨r13, u14, q12, h⟩ := bd_some h
    refine x_vi (Wf := WC ad cI) (q0 := 1) (ci := 3) (As := []) (rest := [.int (u10 13 ((6 : Int32)).toNatClampNeg), .int (6 : Int32), .ref (ad 13)]) S hK hP hS (k_X3_underWayInAll hap q12) rfl rfl wl_X2_113 wi_X3_underWayInAll ws_X3_underWayInAll wz_X3 wc_X3_underWayInAll hy_X3_underWayInAll ⟨Nat.le_of_ble_eq_true rfl, Nat.le_of_ble_eq_true rfl⟩ hl.1 rfl (Nat.le_of_ble_eq_true rfl) dX2_tally_70 (fun H locs hP hS => ?_)
    refine x_max S wl_X2_104 hl.1 ⟨Nat.le_of_ble_eq_true rfl, Nat.le_of_ble_eq_true rfl⟩ dX2_tally_73 ?_
    obtain ⟨q15, h⟩ := gi_some h
    obtain ⟨u16, hu16, h⟩ := bw_some h
    refine tC_13 S hK hap hP hS q15 dX2_tally_76 hu16 (fun H locs hP hS => ?_)
    exact x_vret S hr hlk hK hP hS h dX2_tally_77
  have B_50 : ∀ (s1 : Int32) (s2 : Int32) (u : Wo), fX2_tally_50 s1 s2 u = some (rf, uf) → J p l e (rmk 4 90) s m args below meth c dC dI (WC ad cI) (AF ad 14) (MQ below (QV dC dI cI (WC ad cI) (AF ad 14) uf) args s 0 0 (AF ad 14)) u 50 2 [(0, .ref (ad 5))] [.int s2, .int s1, .ref (ad 13)] := by
    intro s1 s2 u h H locs ls hP hS hl
    unfold fX2_tally_50 at h
    refine lv_iconst (v := (0 : Int32)) S.1 S.2.1 dX2_tally_50 (by decide) ?_
    exact B_51 _ _ _ u h _ _ _ hP hS (lv_sub hl [0] rfl)
  intro H locs ls hP hS hl
  have hl : lv_has ls 2 [(0, .ref (ad 5))] := hl
  unfold fX2_tally at h
  refine lv_aload_n S.1 S.2.1 dX2_tally_0 rfl (lv_at hl 0 rfl) ?_
  refine gC_5_stand S hK hP wf_X2_9 dX2_tally_1 ?_
  refine lv_iconst (v := (2 : Int32)) S.1 S.2.1 dX2_tally_4 (by decide) ?_
  obtain ⟨r2, u3, q1, h⟩ := bd_some h
  refine x_vi (Wf := WC ad cI) (q0 := 1) (ci := 3) (As := [.int (2 : Int32)]) (rest := []) S hK hP hS (k_X3_howMany hap q1) rfl rfl wl_X2_74 wi_X3_howMany ws_X3_howMany wz_X3 wc_X3_howMany hy_X3_howMany ⟨Nat.le_of_ble_eq_true rfl, Nat.le_of_ble_eq_true rfl⟩ hl.1 rfl (Nat.le_of_ble_eq_true rfl) dX2_tally_5 (fun H locs hP hS => ?_)
  refine lv_istore_n (lv' := [(1, .int r2), (0, .ref (ad 5))]) S.1 S.2.1 dX2_tally_8 rfl hl (by decide) rfl (fun ls hl => ?_)
  refine lv_aload_n S.1 S.2.1 dX2_tally_9 rfl (lv_at hl 1 rfl) ?_
  refine gC_5_told S hK hP wf_X2_35 dX2_tally_10 ?_
  refine lv_iconst (v := (2 : Int32)) S.1 S.2.1 dX2_tally_13 (by decide) ?_
  refine lv_aload_n S.1 S.2.1 dX2_tally_14 rfl (lv_at hl 1 rfl) ?_
  refine gC_5_told S hK hP wf_X2_35 dX2_tally_15 ?_
  refine lv_iconst (v := (2 : Int32)) S.1 S.2.1 dX2_tally_18 (by decide) ?_
  obtain ⟨q4, h⟩ := gi_some h
  refine lC_13 S hK hP q4 dX2_tally_19 ?_
  refine lv_iload_n S.1 S.2.1 dX2_tally_20 rfl (lv_at hl 0 rfl) ?_
  refine x_max S wl_X2_104 hl.1 ⟨Nat.le_of_ble_eq_true rfl, Nat.le_of_ble_eq_true rfl⟩ dX2_tally_21 ?_
  obtain ⟨q5, h⟩ := gi_some h
  obtain ⟨u6, hu6, h⟩ := bw_some h
  refine tC_13 S hK hap hP hS q5 dX2_tally_24 hu6 (fun H locs hP hS => ?_)
  refine lv_aload_n S.1 S.2.1 dX2_tally_25 rfl (lv_at hl 1 rfl) ?_
  refine gC_5_told S hK hP wf_X2_35 dX2_tally_26 ?_
  refine lv_iconst (v := (4 : Int32)) S.1 S.2.1 dX2_tally_29 (by decide) ?_
  refine lv_dup2_11 S.1 S.2.1 dX2_tally_30 rfl rfl ?_
  obtain ⟨q7, h⟩ := gi_some h
  refine lC_13 S hK hP q7 dX2_tally_31 ?_
  refine lv_iload_n S.1 S.2.1 dX2_tally_32 rfl (lv_at hl 0 rfl) ?_
  refine lv_if_ne (tgt := 50) S.1 S.2.1 dX2_tally_33 (by decide) (fun c8 => ?_) (fun c8 => ?_)
  · rw [if_neg c8] at h
    exact B_50 _ _ u6 h _ _ _ hP hS (lv_sub hl [1] rfl)
  · rw [if_pos c8] at h
    refine lv_aload_n S.1 S.2.1 dX2_tally_36 rfl (lv_at hl 1 rfl) ?_
    refine gC_5_stand S hK hP wf_X2_9 dX2_tally_37 ?_
    obtain ⟨r18, u19, q17, h⟩ := bd_some h
    refine x_vi (Wf := WC ad cI) (q0 := 1) (ci := 3) (As := []) (rest := [.int (u6 13 ((4 : Int32)).toNatClampNeg), .int (4 : Int32), .ref (ad 13)]) S hK hP hS (k_X3_tokenIsLost hap q17) rfl rfl wl_X2_109 wi_X3_tokenIsLost ws_X3_tokenIsLost wz_X3 wc_X3_tokenIsLost hy_X3_tokenIsLost ⟨Nat.le_of_ble_eq_true rfl, Nat.le_of_ble_eq_true rfl⟩ hl.1 rfl (Nat.le_of_ble_eq_true rfl) dX2_tally_40 (fun H locs hP hS => ?_)
    refine lv_if_eq (tgt := 50) S.1 S.2.1 dX2_tally_43 (by decide) (fun c20 => ?_) (fun c20 => ?_)
    · rw [if_pos c20] at h
      exact B_50 _ _ u19 h _ _ _ hP hS (lv_sub hl [1] rfl)
    · rw [if_neg c20] at h
      refine lv_iconst (v := (1 : Int32)) S.1 S.2.1 dX2_tally_46 (by decide) ?_
      refine lv_goto (tgt := 51) S.1 S.2.1 dX2_tally_47 (by decide) ?_
      exact B_51 _ _ _ u19 h _ _ _ hP hS (lv_sub hl [1] rfl)
theorem hy_X2_weigh : yX2_weigh.cls ≠ "java/lang/invoke/MethodHandle" ∧ yX2_weigh.cls ≠ "java/lang/invoke/VarHandle" ∧ (parseMethodDescriptor yX2_weigh.desc).map (fun d => d.parameters.length) = some 1 := by decide +kernel
set_option maxHeartbeats 4000000 in
set_option maxRecDepth 100000 in
theorem k_X2_weigh {l : Launch} {dC : Nat → ClassId} {dI : Nat → Nat → Nat} {ad : Nat → Nat} {cI : ClassId} (hap : AP ad 14) {x1 : Int32} {u uf : Wo} {rf : Int32} (h : fX2_weigh x1 u = some (rf, uf)) : CV l dC dI cI (WC ad cI) (AF ad 14) yX2_weigh cX2_weigh 2 none 4 94 [.ref (ad 5), .int x1] u uf := by
  refine cv_begin (by decide) (Nat.le_of_ble_eq_true rfl) ?_
  intro p e s m args below meth c S hr hlk hK
  have B_32 : ∀ (x1 : Int32) (u : Wo), fX2_weigh_32 x1 u = some (rf, uf) → J p l e (rmk 4 94) s m args below meth c dC dI (WC ad cI) (AF ad 14) (MQ below (QV dC dI cI (WC ad cI) (AF ad 14) uf) args s 0 0 (AF ad 14)) u 32 2 [(0, .ref (ad 5)), (1, .int x1)] [] := by
    intro x1 u h H locs ls hP hS hl
    unfold fX2_weigh_32 at h
    refine lv_aload_n S.1 S.2.1 dX2_weigh_32 rfl (lv_at hl 0 rfl) ?_
    refine lv_iload_n S.1 S.2.1 dX2_weigh_33 rfl (lv_at hl 1 rfl) ?_
    obtain ⟨r7, u8, q6, h⟩ := bd_some h
    refine x_vv (Wf := WC ad cI) (q0 := 5) (ci := 2) (As := [.int x1]) (rest := []) S hK hP hS (k_X2_load hap q6) rfl rfl wl_X2_71 wi_X2_load ws_X2_load wz_X2 wc_X2_load hy_X2_load ⟨Nat.le_of_ble_eq_true rfl, Nat.le_of_ble_eq_true rfl⟩ hl.1 rfl (Nat.le_of_ble_eq_true rfl) dX2_weigh_34 (fun H locs hP hS => ?_)
    exact x_vret S hr hlk hK hP hS h dX2_weigh_37
  intro H locs ls hP hS hl
  have hl : lv_has ls 2 [(0, .ref (ad 5)), (1, .int x1)] := hl
  unfold fX2_weigh at h
  refine lv_aload_n S.1 S.2.1 dX2_weigh_0 rfl (lv_at hl 0 rfl) ?_
  refine gC_5_stand S hK hP wf_X2_9 dX2_weigh_1 ?_
  refine gC_1_tooMany S hK hP wf_X2_117 dX2_weigh_4 ?_
  refine lv_if_eq (tgt := 23) S.1 S.2.1 dX2_weigh_7 (by decide) (fun c1 => ?_) (fun c1 => ?_)
  · rw [if_pos c1] at h
    refine lv_aload_n S.1 S.2.1 dX2_weigh_23 rfl (lv_at hl 0 rfl) ?_
    refine lv_iconst (v := (1 : Int32)) S.1 S.2.1 dX2_weigh_24 (by decide) ?_
    obtain ⟨u2, hu2, h⟩ := bw_some h
    refine pC_5_brought S hK hap hP hS wf_X2_81 dX2_weigh_25 (by decide) hu2 (fun H locs hP hS => ?_)
    refine lv_aload_n S.1 S.2.1 dX2_weigh_28 rfl (lv_at hl 0 rfl) ?_
    obtain ⟨r4, u5, q3, h⟩ := bd_some h
    refine x_vv (Wf := WC ad cI) (q0 := 5) (ci := 2) (As := []) (rest := []) S hK hP hS (k_X2_keep hap q3) rfl rfl wl_X2_61 wi_X2_keep ws_X2_keep wz_X2 wc_X2_keep hy_X2_keep ⟨Nat.le_of_ble_eq_true rfl, Nat.le_of_ble_eq_true rfl⟩ hl.1 rfl (Nat.le_of_ble_eq_true rfl) dX2_weigh_29 (fun H locs hP hS => ?_)
    exact B_32 _ u5 h _ _ _ hP hS (lv_sub hl [0, 1] rfl)
  · rw [if_neg c1] at h
    refine lv_aload_n S.1 S.2.1 dX2_weigh_10 rfl (lv_at hl 0 rfl) ?_
    refine gC_5_told S hK hP wf_X2_35 dX2_weigh_11 ?_
    refine lv_iconst (v := (5 : Int32)) S.1 S.2.1 dX2_weigh_14 (by decide) ?_
    refine lv_dup2_11 S.1 S.2.1 dX2_weigh_15 rfl rfl ?_
    obtain ⟨q9, h⟩ := gi_some h
    refine lC_13 S hK hP q9 dX2_weigh_16 ?_
    refine lv_iconst (v := (1 : Int32)) S.1 S.2.1 dX2_weigh_17 (by decide) ?_
    refine lv_iadd S.1 S.2.1 dX2_weigh_18 ?_
    obtain ⟨q10, h⟩ := gi_some h
    obtain ⟨u11, hu11, h⟩ := bw_some h
    refine tC_13 S hK hap hP hS q10 dX2_weigh_19 hu11 (fun H locs hP hS => ?_)
    refine lv_goto (tgt := 32) S.1 S.2.1 dX2_weigh_20 (by decide) ?_
    exact B_32 _ u11 h _ _ _ hP hS (lv_sub hl [0, 1] rfl)
theorem hy_X2_goFrom : yX2_goFrom.cls ≠ "java/lang/invoke/MethodHandle" ∧ yX2_goFrom.cls ≠ "java/lang/invoke/VarHandle" ∧ (parseMethodDescriptor yX2_goFrom.desc).map (fun d => d.parameters.length) = some 1 := by decide +kernel
set_option maxHeartbeats 4000000 in
set_option maxRecDepth 100000 in
theorem k_X2_goFrom {l : Launch} {dC : Nat → ClassId} {dI : Nat → Nat → Nat} {ad : Nat → Nat} {cI : ClassId} (hap : AP ad 14) {x1 : Int32} {u uf : Wo} {rf : Int32} (h : fX2_goFrom x1 u = some (rf, uf)) : CV l dC dI cI (WC ad cI) (AF ad 14) yX2_goFrom cX2_goFrom 5 none 5 117 [.ref (ad 5), .int x1] u uf := by
  refine cv_begin (by decide) (Nat.le_of_ble_eq_true rfl) ?_
  intro p e s m args below meth c S hr hlk hK
  have B_87 : ∀ (k47 : Int32 → Int32 → Int32 → Int32 → Wo → Re) (hk47 : ∀ (x1 : Int32) (x2 : Int32) (x3 : Int32) (x4 : Int32) (u : Wo), k47 x1 x2 x3 x4 u = some (rf, uf) → J p l e (rmk 5 117) s m args below meth c dC dI (WC ad cI) (AF ad 14) (MQ below (QV dC dI cI (WC ad cI) (AF ad 14) uf) args s 0 0 (AF ad 14)) u 47 5 [(0, .ref (ad 5)), (1, .int x1), (2, .int x2), (3, .int x3), (4, .int x4)] []) (x1 : Int32) (x2 : Int32) (x3 : Int32) (x4 : Int32) (u : Wo), fX2_goFrom_87 k47 x1 x2 x3 x4 u = some (rf, uf) → J p l e (rmk 5 117) s m args below meth c dC dI (WC ad cI) (AF ad 14) (MQ below (QV dC dI cI (WC ad cI) (AF ad 14) uf) args s 0 0 (AF ad 14)) u 87 5 [(0, .ref (ad 5)), (1, .int x1), (2, .int x2), (3, .int x3), (4, .int x4)] [] := by
    intro k47 hk47 x1 x2 x3 x4 u h H locs ls hP hS hl
    unfold fX2_goFrom_87 at h
    refine lv_iinc (v := (x4 + (1 : Int32))) (lv' := [(4, .int (x4 + (1 : Int32))), (0, .ref (ad 5)), (1, .int x1), (2, .int x2), (3, .int x3)]) S.1 S.2.1 dX2_goFrom_87 hl (k := 4) rfl rfl (by decide) rfl (fun ls hl => ?_)
    refine lv_goto (tgt := 47) S.1 S.2.1 dX2_goFrom_90 (by decide) ?_
    exact hk47 _ _ _ _ u h _ _ _ hP hS (lv_sub hl [1, 2, 3, 4, 0] rfl)
  have B_47 : ∀ (k93 : Int32 → Int32 → Int32 → Wo → Re) (hk93 : ∀ (x1 : Int32) (x2 : Int32) (x3 : Int32) (u : Wo), k93 x1 x2 x3 u = some (rf, uf) → J p l e (rmk 5 117) s m args below meth c dC dI (WC ad cI) (AF ad 14) (MQ below (QV dC dI cI (WC ad cI) (AF ad 14) uf) args s 0 0 (AF ad 14)) u 93 5 [(0, .ref (ad 5)), (1, .int x1), (2, .int x2), (3, .int x3)] []) (n : Nat) (x1 : Int32) (x2 : Int32) (x3 : Int32) (x4 : Int32) (u : Wo), fX2_goFrom_47 k93 n x1 x2 x3 x4 u = some (rf, uf) → J p l e (rmk 5 117) s m args below meth c dC dI (WC ad cI) (AF ad 14) (MQ below (QV dC dI cI (WC ad cI) (AF ad 14) uf) args s 0 0 (AF ad 14)) u 47 5 [(0, .ref (ad 5)), (1, .int x1), (2, .int x2), (3, .int x3), (4, .int x4)] [] := by
    intro k93 hk93
    intro n
    induction n with
    | zero => intro x1 x2 x3 x4 u h; cases h
    | succ n ih =>
      intro x1 x2 x3 x4 u h H locs ls hP hS hl
      rw [fX2_goFrom_47.eq_2] at h
      refine lv_iload S.1 S.2.1 dX2_goFrom_47 (lv_at hl 4 rfl) ?_
      refine lv_aload_n S.1 S.2.1 dX2_goFrom_49 rfl (lv_at hl 0 rfl) ?_
      refine gC_5_stand S hK hP wf_X2_9 dX2_goFrom_50 ?_
      refine gC_1_n S hK hP wf_X2_84 dX2_goFrom_53 ?_
      refine lv_icmp_ge (tgt := 93) S.1 S.2.1 dX2_goFrom_56 (by decide) (fun c13 => ?_) (fun c13 => ?_)
      · rw [if_pos c13] at h
        exact hk93 _ _ _ u h _ _ _ hP hS (lv_sub hl [0, 1, 2, 3] rfl)
      · rw [if_neg c13] at h
        refine lv_aload_n S.1 S.2.1 dX2_goFrom_59 rfl (lv_at hl 0 rfl) ?_
        refine gC_5_stand S hK hP wf_X2_9 dX2_goFrom_60 ?_
        refine lv_iload_n S.1 S.2.1 dX2_goFrom_63 rfl (lv_at hl 3 rfl) ?_
        refine lv_iload S.1 S.2.1 dX2_goFrom_64 (lv_at hl 4 rfl) ?_
        obtain ⟨r15, u16, q14, h⟩ := bd_some h
        refine x_vi (Wf := WC ad cI) (q0 := 1) (ci := 3) (As := [.int x3, .int x4]) (rest := []) S hK hP hS (k_X3_underWay hap q14) rfl rfl wl_X2_87 wi_X3_underWay ws_X3_underWay wz_X3 wc_X3_underWay hy_X3_underWay ⟨Nat.le_of_ble_eq_true rfl, Nat.le_of_ble_eq_true rfl⟩ hl.1 rfl (Nat.le_of_ble_eq_true rfl) dX2_goFrom_66 (fun H locs hP hS => ?_)
        refine lv_if_le (tgt := 87) S.1 S.2.1 dX2_goFrom_69 (by decide) (fun c17 => ?_) (fun c17 => ?_)
        · rw [if_pos c17] at h
          exact B_87 _ ih _ _ _ _ u16 h _ _ _ hP hS (lv_sub hl [0, 1, 2, 3, 4] rfl)
        · rw [if_neg c17] at h
          refine lv_aload_n S.1 S.2.1 dX2_goFrom_72 rfl (lv_at hl 0 rfl) ?_
          refine gC_5_ways S hK hP wf_X2_15 dX2_goFrom_73 ?_
          refine lv_iload_n S.1 S.2.1 dX2_goFrom_76 rfl (lv_at hl 3 rfl) ?_
          refine lv_iload S.1 S.2.1 dX2_goFrom_77 (lv_at hl 4 rfl) ?_
          obtain ⟨r19, u20, q18, h⟩ := bd_some h
          refine x_vv (Wf := WC ad cI) (q0 := 3) (ci := 4) (As := [.int x3, .int x4]) (rest := []) S hK hP hS (k_X4_coming hap q18) rfl rfl wl_X2_91 wi_X4_coming ws_X4_coming wz_X4 wc_X4_coming hy_X4_coming ⟨Nat.le_of_ble_eq_true rfl, Nat.le_of_ble_eq_true rfl⟩ hl.1 rfl (Nat.le_of_ble_eq_true rfl) dX2_goFrom_79 (fun H locs hP hS => ?_)
          refine lv_aload_n S.1 S.2.1 dX2_goFrom_82 rfl (lv_at hl 0 rfl) ?_
          refine lv_iload_n S.1 S.2.1 dX2_goFrom_83 rfl (lv_at hl 1 rfl) ?_
          obtain ⟨r22, u23, q21, h⟩ := bd_some h
          refine x_vv (Wf := WC ad cI) (q0 := 5) (ci := 2) (As := [.int x1]) (rest := []) S hK hP hS (k_X2_weigh hap q21) rfl rfl wl_X2_95 wi_X2_weigh ws_X2_weigh wz_X2 wc_X2_weigh hy_X2_weigh ⟨Nat.le_of_ble_eq_true rfl, Nat.le_of_ble_eq_true rfl⟩ hl.1 rfl (Nat.le_of_ble_eq_true rfl) dX2_goFrom_84 (fun H locs hP hS => ?_)
          exact B_87 _ ih _ _ _ _ u23 h _ _ _ hP hS (lv_sub hl [0, 1, 2, 3, 4] rfl)
  have B_93 : ∀ (k33 : Int32 → Int32 → Int32 → Wo → Re) (hk33 : ∀ (x1 : Int32) (x2 : Int32) (x3 : Int32) (u : Wo), k33 x1 x2 x3 u = some (rf, uf) → J p l e (rmk 5 117) s m args below meth c dC dI (WC ad cI) (AF ad 14) (MQ below (QV dC dI cI (WC ad cI) (AF ad 14) uf) args s 0 0 (AF ad 14)) u 33 5 [(0, .ref (ad 5)), (1, .int x1), (2, .int x2), (3, .int x3)] []) (x1 : Int32) (x2 : Int32) (x3 : Int32) (u : Wo), fX2_goFrom_93 k33 x1 x2 x3 u = some (rf, uf) → J p l e (rmk 5 117) s m args below meth c dC dI (WC ad cI) (AF ad 14) (MQ below (QV dC dI cI (WC ad cI) (AF ad 14) uf) args s 0 0 (AF ad 14)) u 93 5 [(0, .ref (ad 5)), (1, .int x1), (2, .int x2), (3, .int x3)] [] := by
    intro k33 hk33 x1 x2 x3 u h H locs ls hP hS hl
    unfold fX2_goFrom_93 at h
    refine lv_iinc (v := (x3 + (1 : Int32))) (lv' := [(3, .int (x3 + (1 : Int32))), (0, .ref (ad 5)), (1, .int x1), (2, .int x2)]) S.1 S.2.1 dX2_goFrom_93 hl (k := 3) rfl rfl (by decide) rfl (fun ls hl => ?_)
    refine lv_goto (tgt := 33) S.1 S.2.1 dX2_goFrom_96 (by decide) ?_
    exact hk33 _ _ _ u h _ _ _ hP hS (lv_sub hl [1, 2, 3, 0] rfl)
  have B_33 : ∀ (k99 : Int32 → Int32 → Wo → Re) (hk99 : ∀ (x1 : Int32) (x2 : Int32) (u : Wo), k99 x1 x2 u = some (rf, uf) → J p l e (rmk 5 117) s m args below meth c dC dI (WC ad cI) (AF ad 14) (MQ below (QV dC dI cI (WC ad cI) (AF ad 14) uf) args s 0 0 (AF ad 14)) u 99 5 [(0, .ref (ad 5)), (1, .int x1), (2, .int x2)] []) (n : Nat) (x1 : Int32) (x2 : Int32) (x3 : Int32) (u : Wo), fX2_goFrom_33 k99 n x1 x2 x3 u = some (rf, uf) → J p l e (rmk 5 117) s m args below meth c dC dI (WC ad cI) (AF ad 14) (MQ below (QV dC dI cI (WC ad cI) (AF ad 14) uf) args s 0 0 (AF ad 14)) u 33 5 [(0, .ref (ad 5)), (1, .int x1), (2, .int x2), (3, .int x3)] [] := by
    intro k99 hk99
    intro n
    induction n with
    | zero => intro x1 x2 x3 u h; cases h
    | succ n ih =>
      intro x1 x2 x3 u h H locs ls hP hS hl
      rw [fX2_goFrom_33.eq_2] at h
      refine lv_iload_n S.1 S.2.1 dX2_goFrom_33 rfl (lv_at hl 3 rfl) ?_
      refine lv_aload_n S.1 S.2.1 dX2_goFrom_34 rfl (lv_at hl 0 rfl) ?_
      refine gC_5_stand S hK hP wf_X2_9 dX2_goFrom_35 ?_
      refine gC_1_n S hK hP wf_X2_84 dX2_goFrom_38 ?_
      refine lv_icmp_ge (tgt := 99) S.1 S.2.1 dX2_goFrom_41 (by decide) (fun c12 => ?_) (fun c12 => ?_)
      · rw [if_pos c12] at h
        exact hk99 _ _ u h _ _ _ hP hS (lv_sub hl [0, 1, 2] rfl)
      · rw [if_neg c12] at h
        refine lv_iconst (v := (0 : Int32)) S.1 S.2.1 dX2_goFrom_44 (by decide) ?_
        refine lv_istore (lv' := [(4, .int (0 : Int32)), (0, .ref (ad 5)), (1, .int x1), (2, .int x2), (3, .int x3)]) S.1 S.2.1 dX2_goFrom_45 hl (by decide) rfl (fun ls hl => ?_)
        exact B_47 _ (B_93 _ ih) FU _ _ _ _ u h _ _ _ hP hS (lv_sub hl [1, 2, 3, 4, 0] rfl)
  have B_138 : ∀ (k101 : Int32 → Int32 → Int32 → Wo → Re) (hk101 : ∀ (x1 : Int32) (x2 : Int32) (x3 : Int32) (u : Wo), k101 x1 x2 x3 u = some (rf, uf) → J p l e (rmk 5 117) s m args below meth c dC dI (WC ad cI) (AF ad 14) (MQ below (QV dC dI cI (WC ad cI) (AF ad 14) uf) args s 0 0 (AF ad 14)) u 101 5 [(0, .ref (ad 5)), (1, .int x1), (2, .int x2), (3, .int x3)] []) (x1 : Int32) (x2 : Int32) (x3 : Int32) (u : Wo), fX2_goFrom_138 k101 x1 x2 x3 u = some (rf, uf) → J p l e (rmk 5 117) s m args below meth c dC dI (WC ad cI) (AF ad 14) (MQ below (QV dC dI cI (WC ad cI) (AF ad 14) uf) args s 0 0 (AF ad 14)) u 138 5 [(0, .ref (ad 5)), (1, .int x1), (2, .int x2), (3, .int x3)] [] := by
    intro k101 hk101 x1 x2 x3 u h H locs ls hP hS hl
    unfold fX2_goFrom_138 at h
    refine lv_iinc (v := (x3 + (1 : Int32))) (lv' := [(3, .int (x3 + (1 : Int32))), (0, .ref (ad 5)), (1, .int x1), (2, .int x2)]) S.1 S.2.1 dX2_goFrom_138 hl (k := 3) rfl rfl (by decide) rfl (fun ls hl => ?_)
    refine lv_goto (tgt := 101) S.1 S.2.1 dX2_goFrom_141 (by decide) ?_
    exact hk101 _ _ _ u h _ _ _ hP hS (lv_sub hl [1, 2, 3, 0] rfl)
  have B_101 : ∀ (k144 : Int32 → Wo → Re) (hk144 : ∀ (x2 : Int32) (u : Wo), k144 x2 u = some (rf, uf) → J p l e (rmk 5 117) s m args below meth c dC dI (WC ad cI) (AF ad 14) (MQ below (QV dC dI cI (WC ad cI) (AF ad 14) uf) args s 0 0 (AF ad 14)) u 144 5 [(0, .ref (ad 5)), (2, .int x2)] []) (n : Nat) (x1 : Int32) (x2 : Int32) (x3 : Int32) (u : Wo), fX2_goFrom_101 k144 n x1 x2 x3 u = some (rf, uf) → J p l e (rmk 5 117) s m args below meth c dC dI (WC ad cI) (AF ad 14) (MQ below (QV dC dI cI (WC ad cI) (AF ad 14) uf) args s 0 0 (AF ad 14)) u 101 5 [(0, .ref (ad 5)), (1, .int x1), (2, .int x2), (3, .int x3)] [] := by
    intro k144 hk144
    intro n
    induction n with
    | zero => intro x1 x2 x3 u h; cases h
    | succ n ih =>
      intro x1 x2 x3 u h H locs ls hP hS hl
      rw [fX2_goFrom_101.eq_2] at h
      refine lv_iload_n S.1 S.2.1 dX2_goFrom_101 rfl (lv_at hl 3 rfl) ?_
      refine lv_aload_n S.1 S.2.1 dX2_goFrom_102 rfl (lv_at hl 0 rfl) ?_
      refine gC_5_stand S hK hP wf_X2_9 dX2_goFrom_103 ?_
      refine gC_1_n S hK hP wf_X2_84 dX2_goFrom_106 ?_
      refine lv_icmp_ge (tgt := 144) S.1 S.2.1 dX2_goFrom_109 (by decide) (fun c24 => ?_) (fun c24 => ?_)
      · rw [if_pos c24] at h
        exact hk144 _ u h _ _ _ hP hS (lv_sub hl [0, 2] rfl)
      · rw [if_neg c24] at h
        refine lv_aload_n S.1 S.2.1 dX2_goFrom_112 rfl (lv_at hl 0 rfl) ?_
        refine gC_5_stand S hK hP wf_X2_9 dX2_goFrom_113 ?_
        refine lv_iload_n S.1 S.2.1 dX2_goFrom_116 rfl (lv_at hl 3 rfl) ?_
        refine lv_iconst (v := (0 : Int32)) S.1 S.2.1 dX2_goFrom_117 (by decide) ?_
        obtain ⟨r26, u27, q25, h⟩ := bd_some h
        refine x_vi (Wf := WC ad cI) (q0 := 1) (ci := 3) (As := [.int x3, .int (0 : Int32)]) (rest := []) S hK hP hS (k_X3_of hap q25) rfl rfl wl_X2_98 wi_X3_of ws_X3_of wz_X3 wc_X3_of hy_X3_of ⟨Nat.le_of_ble_eq_true rfl, Nat.le_of_ble_eq_true rfl⟩ hl.1 rfl (Nat.le_of_ble_eq_true rfl) dX2_goFrom_118 (fun H locs hP hS => ?_)
        refine lv_iconst (v := (2 : Int32)) S.1 S.2.1 dX2_goFrom_121 (by decide) ?_
        refine lv_icmp_ne (tgt := 138) S.1 S.2.1 dX2_goFrom_122 (by decide) (fun c28 => ?_) (fun c28 => ?_)
        · rw [if_neg c28] at h
          exact B_138 _ ih _ _ _ u27 h _ _ _ hP hS (lv_sub hl [0, 1, 2, 3] rfl)
        · rw [if_pos c28] at h
          refine lv_aload_n S.1 S.2.1 dX2_goFrom_125 rfl (lv_at hl 0 rfl) ?_
          refine gC_5_ways S hK hP wf_X2_15 dX2_goFrom_126 ?_
          refine lv_iload_n S.1 S.2.1 dX2_goFrom_129 rfl (lv_at hl 3 rfl) ?_
          obtain ⟨r30, u31, q29, h⟩ := bd_some h
          refine x_vv (Wf := WC ad cI) (q0 := 3) (ci := 4) (As := [.int x3]) (rest := []) S hK hP hS (k_X4_left hap q29) rfl rfl wl_X2_101 wi_X4_left ws_X4_left wz_X4 wc_X4_left hy_X4_left ⟨Nat.le_of_ble_eq_true rfl, Nat.le_of_ble_eq_true rfl⟩ hl.1 rfl (Nat.le_of_ble_eq_true rfl) dX2_goFrom_130 (fun H locs hP hS => ?_)
          refine lv_aload_n S.1 S.2.1 dX2_goFrom_133 rfl (lv_at hl 0 rfl) ?_
          refine lv_iload_n S.1 S.2.1 dX2_goFrom_134 rfl (lv_at hl 1 rfl) ?_
          obtain ⟨r33, u34, q32, h⟩ := bd_some h
          refine x_vv (Wf := WC ad cI) (q0 := 5) (ci := 2) (As := [.int x1]) (rest := []) S hK hP hS (k_X2_weigh hap q32) rfl rfl wl_X2_95 wi_X2_weigh ws_X2_weigh wz_X2 wc_X2_weigh hy_X2_weigh ⟨Nat.le_of_ble_eq_true rfl, Nat.le_of_ble_eq_true rfl⟩ hl.1 rfl (Nat.le_of_ble_eq_true rfl) dX2_goFrom_135 (fun H locs hP hS => ?_)
          exact B_138 _ ih _ _ _ u34 h _ _ _ hP hS (lv_sub hl [0, 1, 2, 3] rfl)
  have B_179 : ∀ (u : Wo), fX2_goFrom_179 u = some (rf, uf) → J p l e (rmk 5 117) s m args below meth c dC dI (WC ad cI) (AF ad 14) (MQ below (QV dC dI cI (WC ad cI) (AF ad 14) uf) args s 0 0 (AF ad 14)) u 179 5 [] [] := by
    intro u h H locs ls hP hS hl
    unfold fX2_goFrom_179 at h
    exact x_vret S hr hlk hK hP hS h dX2_goFrom_179
  have B_177 : ∀ (s1 : Int32) (s2 : Int32) (s3 : Int32) (u : Wo), fX2_goFrom_177 s1 s2 s3 u = some (rf, uf) → J p l e (rmk 5 117) s m args below meth c dC dI (WC ad cI) (AF ad 14) (MQ below (QV dC dI cI (WC ad cI) (AF ad 14) uf) args s 0 0 (AF ad 14)) u 177 5 [] [.int s3, .int s2, .int s1, .ref (ad 13)] := by
    intro s1 s2 s3 u h H locs ls hP hS hl
    unfold fX2_goFrom_177 at h
    refine lv_iadd S.1 S.2.1 dX2_goFrom_177 ?_
    obtain ⟨q41, h⟩ := gi_some h
    obtain ⟨u42, hu42, h⟩ := bw_some h
    refine tC_13 S hK hap hP hS q41 dX2_goFrom_178 hu42 (fun H locs hP hS => ?_)
    exact B_179 u42 h _ _ _ hP hS (lv_sub hl [] rfl)
  have B_144 : ∀ (x2 : Int32) (u : Wo), fX2_goFrom_144 x2 u = some (rf, uf) → J p l e (rmk 5 117) s m args below meth c dC dI (WC ad cI) (AF ad 14) (MQ below (QV dC dI cI (WC ad cI) (AF ad 14) uf) args s 0 0 (AF ad 14)) u 144 5 [(0, .ref (ad 5)), (2, .int x2)] [] := by
    intro x2 u h H locs ls hP hS hl
    unfold fX2_goFrom_144 at h
    refine lv_aload_n S.1 S.2.1 dX2_goFrom_144 rfl (lv_at hl 0 rfl) ?_
    refine gC_5_brought S hK hP wf_X2_81 dX2_goFrom_145 ?_
    refine lv_if_ne (tgt := 179) S.1 S.2.1 dX2_goFrom_148 (by decide) (fun c35 => ?_) (fun c35 => ?_)
    · rw [if_neg c35] at h
      exact B_179 u h _ _ _ hP hS (lv_sub hl [] rfl)
    · rw [if_pos c35] at h
      refine lv_aload_n S.1 S.2.1 dX2_goFrom_151 rfl (lv_at hl 0 rfl) ?_
      refine gC_5_told S hK hP wf_X2_35 dX2_goFrom_152 ?_
      refine lv_iconst (v := (1 : Int32)) S.1 S.2.1 dX2_goFrom_155 (by decide) ?_
      refine lv_dup2_11 S.1 S.2.1 dX2_goFrom_156 rfl rfl ?_
      obtain ⟨q36, h⟩ := gi_some h
      refine lC_13 S hK hP q36 dX2_goFrom_157 ?_
      refine lv_iconst (v := (1 : Int32)) S.1 S.2.1 dX2_goFrom_158 (by decide) ?_
      refine lv_iadd S.1 S.2.1 dX2_goFrom_159 ?_
      obtain ⟨q37, h⟩ := gi_some h
      obtain ⟨u38, hu38, h⟩ := bw_some h
      refine tC_13 S hK hap hP hS q37 dX2_goFrom_160 hu38 (fun H locs hP hS => ?_)
      refine lv_aload_n S.1 S.2.1 dX2_goFrom_161 rfl (lv_at hl 0 rfl) ?_
      refine gC_5_told S hK hP wf_X2_35 dX2_goFrom_162 ?_
      refine lv_iconst (v := (3 : Int32)) S.1 S.2.1 dX2_goFrom_165 (by decide) ?_
      refine lv_dup2_11 S.1 S.2.1 dX2_goFrom_166 rfl rfl ?_
      obtain ⟨q39, h⟩ := gi_some h
      refine lC_13 S hK hP q39 dX2_goFrom_167 ?_
      refine lv_iload_n S.1 S.2.1 dX2_goFrom_168 rfl (lv_at hl 1 rfl) ?_
      refine lv_if_eq (tgt := 176) S.1 S.2.1 dX2_goFrom_169 (by decide) (fun c40 => ?_) (fun c40 => ?_)
      · rw [if_pos c40] at h
        refine lv_iconst (v := (0 : Int32)) S.1 S.2.1 dX2_goFrom_176 (by decide) ?_
        exact B_177 _ _ _ u38 h _ _ _ hP hS (lv_sub hl [] rfl)
      · rw [if_neg c40] at h
        refine lv_iconst (v := (1 : Int32)) S.1 S.2.1 dX2_goFrom_172 (by decide) ?_
        refine lv_goto (tgt := 177) S.1 S.2.1 dX2_goFrom_173 (by decide) ?_
        exact B_177 _ _ _ u38 h _ _ _ hP hS (lv_sub hl [] rfl)
  have B_99 : ∀ (x1 : Int32) (x2 : Int32) (u : Wo), fX2_goFrom_99 x1 x2 u = some (rf, uf) → J p l e (rmk 5 117) s m args below meth c dC dI (WC ad cI) (AF ad 14) (MQ below (QV dC dI cI (WC ad cI) (AF ad 14) uf) args s 0 0 (AF ad 14)) u 99 5 [(0, .ref (ad 5)), (1, .int x1), (2, .int x2)] [] := by
    intro x1 x2 u h H locs ls hP hS hl
    unfold fX2_goFrom_99 at h
    refine lv_iconst (v := (0 : Int32)) S.1 S.2.1 dX2_goFrom_99 (by decide) ?_
    refine lv_istore_n (lv' := [(3, .int (0 : Int32)), (0, .ref (ad 5)), (1, .int x1), (2, .int x2)]) S.1 S.2.1 dX2_goFrom_100 rfl hl (by decide) rfl (fun ls hl => ?_)
    exact B_101 _ B_144 FU _ _ _ u h _ _ _ hP hS (lv_sub hl [1, 2, 3, 0] rfl)
  have B_21 : ∀ (x1 : Int32) (s0 : Int32) (u : Wo), fX2_goFrom_21 x1 s0 u = some (rf, uf) → J p l e (rmk 5 117) s m args below meth c dC dI (WC ad cI) (AF ad 14) (MQ below (QV dC dI cI (WC ad cI) (AF ad 14) uf) args s 0 0 (AF ad 14)) u 21 5 [(0, .ref (ad 5)), (1, .int x1)] [.int s0] := by
    intro x1 s0 u h H locs ls hP hS hl
    unfold fX2_goFrom_21 at h
    refine lv_istore_n (lv' := [(2, .int s0), (0, .ref (ad 5)), (1, .int x1)]) S.1 S.2.1 dX2_goFrom_21 rfl hl (by decide) rfl (fun ls hl => ?_)
    refine lv_aload_n S.1 S.2.1 dX2_goFrom_22 rfl (lv_at hl 1 rfl) ?_
    obtain ⟨r9, u10, q8, h⟩ := bd_some h
    refine x_vv (Wf := WC ad cI) (q0 := 5) (ci := 2) (As := []) (rest := []) S hK hP hS (k_X2_tally hap q8) rfl rfl wl_X2_78 wi_X2_tally ws_X2_tally wz_X2 wc_X2_tally hy_X2_tally ⟨Nat.le_of_ble_eq_true rfl, Nat.le_of_ble_eq_true rfl⟩ hl.1 rfl (Nat.le_of_ble_eq_true rfl) dX2_goFrom_23 (fun H locs hP hS => ?_)
    refine lv_aload_n S.1 S.2.1 dX2_goFrom_26 rfl (lv_at hl 1 rfl) ?_
    refine lv_iconst (v := (0 : Int32)) S.1 S.2.1 dX2_goFrom_27 (by decide) ?_
    obtain ⟨u11, hu11, h⟩ := bw_some h
    refine pC_5_brought S hK hap hP hS wf_X2_81 dX2_goFrom_28 (by decide) hu11 (fun H locs hP hS => ?_)
    refine lv_iconst (v := (0 : Int32)) S.1 S.2.1 dX2_goFrom_31 (by decide) ?_
    refine lv_istore_n (lv' := [(3, .int (0 : Int32)), (2, .int s0), (0, .ref (ad 5)), (1, .int x1)]) S.1 S.2.1 dX2_goFrom_32 rfl hl (by decide) rfl (fun ls hl => ?_)
    exact B_33 _ B_99 FU _ _ _ u11 h _ _ _ hP hS (lv_sub hl [2, 3, 1, 0] rfl)
  intro H locs ls hP hS hl
  have hl : lv_has ls 5 [(0, .ref (ad 5)), (1, .int x1)] := hl
  unfold fX2_goFrom at h
  refine lv_aload_n S.1 S.2.1 dX2_goFrom_0 rfl (lv_at hl 0 rfl) ?_
  refine lv_iload_n S.1 S.2.1 dX2_goFrom_1 rfl (lv_at hl 1 rfl) ?_
  obtain ⟨r2, u3, q1, h⟩ := bd_some h
  refine x_vv (Wf := WC ad cI) (q0 := 5) (ci := 2) (As := [.int x1]) (rest := []) S hK hP hS (k_X2_load hap q1) rfl rfl wl_X2_71 wi_X2_load ws_X2_load wz_X2 wc_X2_load hy_X2_load ⟨Nat.le_of_ble_eq_true rfl, Nat.le_of_ble_eq_true rfl⟩ hl.1 rfl (Nat.le_of_ble_eq_true rfl) dX2_goFrom_2 (fun H locs hP hS => ?_)
  refine lv_aload_n S.1 S.2.1 dX2_goFrom_5 rfl (lv_at hl 0 rfl) ?_
  refine gC_5_stand S hK hP wf_X2_9 dX2_goFrom_6 ?_
  refine lv_iconst (v := (1 : Int32)) S.1 S.2.1 dX2_goFrom_9 (by decide) ?_
  obtain ⟨r5, u6, q4, h⟩ := bd_some h
  refine x_vi (Wf := WC ad cI) (q0 := 1) (ci := 3) (As := [.int (1 : Int32)]) (rest := []) S hK hP hS (k_X3_howMany hap q4) rfl rfl wl_X2_74 wi_X3_howMany ws_X3_howMany wz_X3 wc_X3_howMany hy_X3_howMany ⟨Nat.le_of_ble_eq_true rfl, Nat.le_of_ble_eq_true rfl⟩ hl.1 rfl (Nat.le_of_ble_eq_true rfl) dX2_goFrom_10 (fun H locs hP hS => ?_)
  refine lv_if_le (tgt := 20) S.1 S.2.1 dX2_goFrom_13 (by decide) (fun c7 => ?_) (fun c7 => ?_)
  · rw [if_pos c7] at h
    refine lv_iconst (v := (0 : Int32)) S.1 S.2.1 dX2_goFrom_20 (by decide) ?_
    exact B_21 _ _ u6 h _ _ _ hP hS (lv_sub hl [0, 1] rfl)
  · rw [if_neg c7] at h
    refine lv_iconst (v := (1 : Int32)) S.1 S.2.1 dX2_goFrom_16 (by decide) ?_
    refine lv_goto (tgt := 21) S.1 S.2.1 dX2_goFrom_17 (by decide) ?_
    exact B_21 _ _ u6 h _ _ _ hP hS (lv_sub hl [0, 1] rfl)
