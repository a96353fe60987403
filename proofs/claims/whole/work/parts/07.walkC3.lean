set_option maxHeartbeats 4000000 in
set_option maxRecDepth 100000 in
theorem k_X3_copyFrom_12 {l : Launch} {dC : Nat → ClassId} {dI : Nat → Nat → Nat} {ad : Nat → Nat} {cI : ClassId} (hap : AP ad 14) {x2 x3 : Int32} {u uf : Wo} {rf : Int32} (h : fX3_copyFrom_12 x2 x3 u = some (rf, uf)) : CV l dC dI cI (WC ad cI) (AF ad 14) yX3_copyFrom cX3_copyFrom 4 none 1 26 [.ref (ad 1), .ref (ad 12), .int x2, .int x3] u uf := by
  refine cv_begin (by decide) (Nat.le_of_ble_eq_true rfl) ?_
  intro p e s m args below meth c S hr hlk hK
  have B_36 : ∀ (u : Wo), fX3_copyFrom_12_36 u = some (rf, uf) → J p l e (rmk 1 26) s m args below meth c dC dI (WC ad cI) (AF ad 14) (MQ below (QV dC dI cI (WC ad cI) (AF ad 14) uf) args s 0 0 (AF ad 14)) u 36 4 [] [] := by
    intro u h H locs ls hP hS hl
    unfold fX3_copyFrom_12_36 at h
    exact x_vret S hr hlk hK hP hS h dX3_copyFrom_36
  intro H locs ls hP hS hl
  have hl : lv_has ls 4 [(0, .ref (ad 1)), (1, .ref (ad 12)), (2, .int x2), (3, .int x3)] := hl
  unfold fX3_copyFrom_12 at h
  refine lv_iload_n S.1 S.2.1 dX3_copyFrom_0 rfl (lv_at hl 2 rfl) ?_
  refine lv_if_lt (tgt := 36) S.1 S.2.1 dX3_copyFrom_1 (by decide) (fun c1 => ?_) (fun c1 => ?_)
  · rw [if_pos c1] at h
    exact B_36 u h _ _ _ hP hS (lv_sub hl [] rfl)
  · rw [if_neg c1] at h
    refine lv_iload_n S.1 S.2.1 dX3_copyFrom_4 rfl (lv_at hl 3 rfl) ?_
    refine lv_if_lt (tgt := 36) S.1 S.2.1 dX3_copyFrom_5 (by decide) (fun c2 => ?_) (fun c2 => ?_)
    · rw [if_pos c2] at h
      exact B_36 u h _ _ _ hP hS (lv_sub hl [] rfl)
    · rw [if_neg c2] at h
      refine lv_iload_n S.1 S.2.1 dX3_copyFrom_8 rfl (lv_at hl 3 rfl) ?_
      refine lv_aload_n S.1 S.2.1 dX3_copyFrom_9 rfl (lv_at hl 0 rfl) ?_
      refine gC_1_row S hK hP wf_X3_11 dX3_copyFrom_10 ?_
      refine nC_6 S hK hP dX3_copyFrom_13 ?_
      refine lv_icmp_gt (tgt := 36) S.1 S.2.1 dX3_copyFrom_14 (by decide) (fun c3 => ?_) (fun c3 => ?_)
      · rw [if_pos c3] at h
        exact B_36 u h _ _ _ hP hS (lv_sub hl [] rfl)
      · rw [if_neg c3] at h
        refine lv_iload_n S.1 S.2.1 dX3_copyFrom_17 rfl (lv_at hl 2 rfl) ?_
        refine lv_aload_n S.1 S.2.1 dX3_copyFrom_18 rfl (lv_at hl 1 rfl) ?_
        refine nC_12 S hK hP dX3_copyFrom_19 ?_
        refine lv_iload_n S.1 S.2.1 dX3_copyFrom_20 rfl (lv_at hl 3 rfl) ?_
        refine lv_isub S.1 S.2.1 dX3_copyFrom_21 ?_
        refine lv_icmp_gt (tgt := 36) S.1 S.2.1 dX3_copyFrom_22 (by decide) (fun c4 => ?_) (fun c4 => ?_)
        · rw [if_pos c4] at h
          exact B_36 u h _ _ _ hP hS (lv_sub hl [] rfl)
        · rw [if_neg c4] at h
          refine lv_aload_n S.1 S.2.1 dX3_copyFrom_25 rfl (lv_at hl 1 rfl) ?_
          refine lv_iload_n S.1 S.2.1 dX3_copyFrom_26 rfl (lv_at hl 2 rfl) ?_
          refine lv_aload_n S.1 S.2.1 dX3_copyFrom_27 rfl (lv_at hl 0 rfl) ?_
          refine gC_1_row S hK hP wf_X3_11 dX3_copyFrom_28 ?_
          refine lv_iconst (v := (0 : Int32)) S.1 S.2.1 dX3_copyFrom_31 (by decide) ?_
          refine lv_iload_n S.1 S.2.1 dX3_copyFrom_32 rfl (lv_at hl 3 rfl) ?_
          obtain ⟨q5, h⟩ := gi_some h
          obtain ⟨u6, hu6, h⟩ := bw_some h
          refine x_cpy (Wf := WC ad cI) S hK hP (WC_D hap u) hS wl_X3_83 hl.1 (hC_12 u) (hC_6 u) q5 ⟨Nat.le_of_ble_eq_true rfl, Nat.le_of_ble_eq_true rfl⟩ dX3_copyFrom_33 hu6 (cC_12_6 u _ _ _) (fun H locs hP hS => ?_)
          exact B_36 u6 h _ _ _ hP hS (lv_sub hl [] rfl)
theorem hy_X2_goThrough : yX2_goThrough.cls ≠ "java/lang/invoke/MethodHandle" ∧ yX2_goThrough.cls ≠ "java/lang/invoke/VarHandle" ∧ (parseMethodDescriptor yX2_goThrough.desc).map (fun d => d.parameters.length) = some 0 := by decide +kernel
set_option maxHeartbeats 4000000 in
set_option maxRecDepth 100000 in
theorem k_X2_goThrough {l : Launch} {dC : Nat → ClassId} {dI : Nat → Nat → Nat} {ad : Nat → Nat} {cI : ClassId} (hap : AP ad 14) {u uf : Wo} {rf : Int32} (h : fX2_goThrough u = some (rf, uf)) : CI l dC dI cI (WC ad cI) (AF ad 14) yX2_goThrough cX2_goThrough 2 (some .int) 6 141 [.ref (ad 5)] u rf uf := by
  refine ci_begin (by decide) (Nat.le_of_ble_eq_true rfl) ?_
  intro p e s m args below meth c S hr hlk hK
  have B_55 : ∀ (k81 : Wo → Re) (hk81 : ∀ (u : Wo), k81  u = some (rf, uf) → J p l e (rmk 6 141) s m args below meth c dC dI (WC ad cI) (AF ad 14) (MQ below (QI dC dI cI (WC ad cI) (AF ad 14) rf uf) args s 0 0 (AF ad 14)) u 81 2 [(0, .ref (ad 5))] []) (n : Nat) (x1 : Int32) (u : Wo), fX2_goThrough_55 k81 n x1 u = some (rf, uf) → J p l e (rmk 6 141) s m args below meth c dC dI (WC ad cI) (AF ad 14) (MQ below (QI dC dI cI (WC ad cI) (AF ad 14) rf uf) args s 0 0 (AF ad 14)) u 55 2 [(0, .ref (ad 5)), (1, .int x1)] [] := by
    intro k81 hk81
    intro n
    induction n with
    | zero => intro x1 u h; cases h
    | succ n ih =>
      intro x1 u h H locs ls hP hS hl
      rw [fX2_goThrough_55.eq_2] at h
      refine lv_iload_n S.1 S.2.1 dX2_goThrough_55 rfl (lv_at hl 1 rfl) ?_
      refine lv_aload_n S.1 S.2.1 dX2_goThrough_56 rfl (lv_at hl 0 rfl) ?_
      refine gC_5_found S hK hP wf_X2_44 dX2_goThrough_57 ?_
      refine lv_icmp_ge (tgt := 81) S.1 S.2.1 dX2_goThrough_60 (by decide) (fun c16 => ?_) (fun c16 => ?_)
      · rw [if_pos c16] at h
        exact hk81 u h _ _ _ hP hS (lv_sub hl [0] rfl)
      · rw [if_neg c16] at h
        refine lv_iload_n S.1 S.2.1 dX2_goThrough_63 rfl (lv_at hl 1 rfl) ?_
        refine lv_sipush (v := (300 : Int32)) S.1 S.2.1 dX2_goThrough_64 (by decide) ?_
        refine lv_icmp_ge (tgt := 81) S.1 S.2.1 dX2_goThrough_67 (by decide) (fun c17 => ?_) (fun c17 => ?_)
        · rw [if_pos c17] at h
          exact hk81 u h _ _ _ hP hS (lv_sub hl [0] rfl)
        · rw [if_neg c17] at h
          refine lv_aload_n S.1 S.2.1 dX2_goThrough_70 rfl (lv_at hl 0 rfl) ?_
          refine lv_iload_n S.1 S.2.1 dX2_goThrough_71 rfl (lv_at hl 1 rfl) ?_
          obtain ⟨r19, u20, q18, h⟩ := bd_some h
          refine x_vv (Wf := WC ad cI) (q0 := 5) (ci := 2) (As := [.int x1]) (rest := []) S hK hP hS (k_X2_goFrom hap q18) rfl rfl wl_X2_64 wi_X2_goFrom ws_X2_goFrom wz_X2 wc_X2_goFrom hy_X2_goFrom ⟨Nat.le_of_ble_eq_true rfl, Nat.le_of_ble_eq_true rfl⟩ hl.1 rfl (Nat.le_of_ble_eq_true rfl) dX2_goThrough_72 (fun H locs hP hS => ?_)
          refine lv_iinc (v := (x1 + (1 : Int32))) (lv' := [(1, .int (x1 + (1 : Int32))), (0, .ref (ad 5))]) S.1 S.2.1 dX2_goThrough_75 hl (k := 1) rfl rfl (by decide) rfl (fun ls hl => ?_)
          refine lv_goto (tgt := 55) S.1 S.2.1 dX2_goThrough_78 (by decide) ?_
          exact ih _ u20 h _ _ _ hP hS (lv_sub hl [1, 0] rfl)
  have B_130 : ∀ (s0 : Int32) (u : Wo), fX2_goThrough_130 s0 u = some (rf, uf) → J p l e (rmk 6 141) s m args below meth c dC dI (WC ad cI) (AF ad 14) (MQ below (QI dC dI cI (WC ad cI) (AF ad 14) rf uf) args s 0 0 (AF ad 14)) u 130 2 [] [.int s0] := by
    intro s0 u h H locs ls hP hS hl
    unfold fX2_goThrough_130 at h
    exact x_iret S hr hlk hK hP hS h dX2_goThrough_130
  have B_81 : ∀ (u : Wo), fX2_goThrough_81 u = some (rf, uf) → J p l e (rmk 6 141) s m args below meth c dC dI (WC ad cI) (AF ad 14) (MQ below (QI dC dI cI (WC ad cI) (AF ad 14) rf uf) args s 0 0 (AF ad 14)) u 81 2 [(0, .ref (ad 5))] [] := by
    intro u h H locs ls hP hS hl
    unfold fX2_goThrough_81 at h
    refine lv_aload_n S.1 S.2.1 dX2_goThrough_81 rfl (lv_at hl 0 rfl) ?_
    refine gC_5_ways S hK hP wf_X2_15 dX2_goThrough_82 ?_
    refine lv_iconst (v := (1 : Int32)) S.1 S.2.1 dX2_goThrough_85 (by decide) ?_
    obtain ⟨u21, hu21, h⟩ := bw_some h
    refine pC_3_writing S hK hap hP hS wf_X2_56 dX2_goThrough_86 (by decide) hu21 (fun H locs hP hS => ?_)
    refine lv_aload_n S.1 S.2.1 dX2_goThrough_89 rfl (lv_at hl 0 rfl) ?_
    refine gC_5_stand S hK hP wf_X2_9 dX2_goThrough_90 ?_
    refine lv_aload_n S.1 S.2.1 dX2_goThrough_93 rfl (lv_at hl 0 rfl) ?_
    refine gC_5_before S hK hP wf_X2_32 dX2_goThrough_94 ?_
    refine lv_iconst (v := (0 : Int32)) S.1 S.2.1 dX2_goThrough_97 (by decide) ?_
    refine lv_sipush (v := (618 : Int32)) S.1 S.2.1 dX2_goThrough_98 (by decide) ?_
    obtain ⟨r23, u24, q22, h⟩ := bd_some h
    refine x_vv (Wf := WC ad cI) (q0 := 1) (ci := 3) (As := [.ref (ad 12), .int (0 : Int32), .int (618 : Int32)]) (rest := []) S hK hP hS (k_X3_copyFrom_12 hap q22) rfl rfl wl_X2_68 wi_X3_copyFrom ws_X3_copyFrom wz_X3 wc_X3_copyFrom hy_X3_copyFrom ⟨Nat.le_of_ble_eq_true rfl, Nat.le_of_ble_eq_true rfl⟩ hl.1 rfl (Nat.le_of_ble_eq_true rfl) dX2_goThrough_101 (fun H locs hP hS => ?_)
    refine lv_aload_n S.1 S.2.1 dX2_goThrough_104 rfl (lv_at hl 0 rfl) ?_
    refine gC_5_told S hK hP wf_X2_35 dX2_goThrough_105 ?_
    refine lv_iconst (v := (0 : Int32)) S.1 S.2.1 dX2_goThrough_108 (by decide) ?_
    refine lv_aload_n S.1 S.2.1 dX2_goThrough_109 rfl (lv_at hl 0 rfl) ?_
    refine gC_5_found S hK hP wf_X2_44 dX2_goThrough_110 ?_
    obtain ⟨q25, h⟩ := gi_some h
    obtain ⟨u26, hu26, h⟩ := bw_some h
    refine tC_13 S hK hap hP hS q25 dX2_goThrough_113 hu26 (fun H locs hP hS => ?_)
    refine lv_aload_n S.1 S.2.1 dX2_goThrough_114 rfl (lv_at hl 0 rfl) ?_
    refine gC_5_spent S hK hP wf_X2_48 dX2_goThrough_115 ?_
    refine lv_if_eq (tgt := 126) S.1 S.2.1 dX2_goThrough_118 (by decide) (fun c27 => ?_) (fun c27 => ?_)
    · rw [if_pos c27] at h
      refine lv_aload_n S.1 S.2.1 dX2_goThrough_126 rfl (lv_at hl 0 rfl) ?_
      refine gC_5_found S hK hP wf_X2_44 dX2_goThrough_127 ?_
      exact B_130 _ u26 h _ _ _ hP hS (lv_sub hl [] rfl)
    · rw [if_neg c27] at h
      refine lv_bipush (v := (-5 : Int32)) S.1 S.2.1 dX2_goThrough_121 (by decide) ?_
      refine lv_goto (tgt := 130) S.1 S.2.1 dX2_goThrough_123 (by decide) ?_
      exact B_130 _ u26 h _ _ _ hP hS (lv_sub hl [] rfl)
  intro H locs ls hP hS hl
  have hl : lv_has ls 2 [(0, .ref (ad 5))] := hl
  unfold fX2_goThrough at h
  refine lv_aload_n S.1 S.2.1 dX2_goThrough_0 rfl (lv_at hl 0 rfl) ?_
  refine gC_5_told S hK hP wf_X2_35 dX2_goThrough_1 ?_
  refine lv_iconst (v := (0 : Int32)) S.1 S.2.1 dX2_goThrough_4 (by decide) ?_
  obtain ⟨r2, u3, q1, h⟩ := bd_some h
  refine x_sv (Wf := WC ad cI) (As := [.ref (ad 13), .int (0 : Int32)]) (rest := []) S hK hP hS (k_J7_fill_53178_13 hap q1) wl_X2_38 wt_J7_fill_53178 wz_J7 wc_J7_fill_53178 hy_J7_fill_53178 ⟨Nat.le_of_ble_eq_true rfl, Nat.le_of_ble_eq_true rfl⟩ hl.1 rfl (Nat.le_of_ble_eq_true rfl) dX2_goThrough_5 (fun H locs hP hS => ?_)
  refine lv_aload_n S.1 S.2.1 dX2_goThrough_8 rfl (lv_at hl 0 rfl) ?_
  refine gC_5_table S hK hP wf_X2_29 dX2_goThrough_9 ?_
  refine lv_iconst (v := (0 : Int32)) S.1 S.2.1 dX2_goThrough_12 (by decide) ?_
  obtain ⟨r5, u6, q4, h⟩ := bd_some h
  refine x_sv (Wf := WC ad cI) (As := [.ref (ad 11), .int (0 : Int32)]) (rest := []) S hK hP hS (k_J7_fill_53178_11 hap q4) wl_X2_38 wt_J7_fill_53178 wz_J7 wc_J7_fill_53178 hy_J7_fill_53178 ⟨Nat.le_of_ble_eq_true rfl, Nat.le_of_ble_eq_true rfl⟩ hl.1 rfl (Nat.le_of_ble_eq_true rfl) dX2_goThrough_13 (fun H locs hP hS => ?_)
  refine lv_aload_n S.1 S.2.1 dX2_goThrough_16 rfl (lv_at hl 0 rfl) ?_
  refine lv_iconst (v := (0 : Int32)) S.1 S.2.1 dX2_goThrough_17 (by decide) ?_
  obtain ⟨u7, hu7, h⟩ := bw_some h
  refine pC_5_found S hK hap hP hS wf_X2_44 dX2_goThrough_18 hu7 (fun H locs hP hS => ?_)
  refine lv_aload_n S.1 S.2.1 dX2_goThrough_21 rfl (lv_at hl 0 rfl) ?_
  refine lv_iconst (v := (0 : Int32)) S.1 S.2.1 dX2_goThrough_22 (by decide) ?_
  obtain ⟨u8, hu8, h⟩ := bw_some h
  refine pC_5_spent S hK hap hP hS wf_X2_48 dX2_goThrough_23 (by decide) hu8 (fun H locs hP hS => ?_)
  refine lv_aload_n S.1 S.2.1 dX2_goThrough_26 rfl (lv_at hl 0 rfl) ?_
  refine gC_5_stand S hK hP wf_X2_9 dX2_goThrough_27 ?_
  refine lv_aload_n S.1 S.2.1 dX2_goThrough_30 rfl (lv_at hl 0 rfl) ?_
  refine gC_5_before S hK hP wf_X2_32 dX2_goThrough_31 ?_
  refine lv_iconst (v := (0 : Int32)) S.1 S.2.1 dX2_goThrough_34 (by decide) ?_
  refine lv_sipush (v := (618 : Int32)) S.1 S.2.1 dX2_goThrough_35 (by decide) ?_
  obtain ⟨r10, u11, q9, h⟩ := bd_some h
  refine x_vv (Wf := WC ad cI) (q0 := 1) (ci := 3) (As := [.ref (ad 12), .int (0 : Int32), .int (618 : Int32)]) (rest := []) S hK hP hS (k_X3_copyTo_12 hap q9) rfl rfl wl_X2_52 wi_X3_copyTo ws_X3_copyTo wz_X3 wc_X3_copyTo hy_X3_copyTo ⟨Nat.le_of_ble_eq_true rfl, Nat.le_of_ble_eq_true rfl⟩ hl.1 rfl (Nat.le_of_ble_eq_true rfl) dX2_goThrough_38 (fun H locs hP hS => ?_)
  refine lv_aload_n S.1 S.2.1 dX2_goThrough_41 rfl (lv_at hl 0 rfl) ?_
  refine gC_5_ways S hK hP wf_X2_15 dX2_goThrough_42 ?_
  refine lv_iconst (v := (0 : Int32)) S.1 S.2.1 dX2_goThrough_45 (by decide) ?_
  obtain ⟨u12, hu12, h⟩ := bw_some h
  refine pC_3_writing S hK hap hP hS wf_X2_56 dX2_goThrough_46 (by decide) hu12 (fun H locs hP hS => ?_)
  refine lv_aload_n S.1 S.2.1 dX2_goThrough_49 rfl (lv_at hl 0 rfl) ?_
  obtain ⟨r14, u15, q13, h⟩ := bd_some h
  refine x_vv (Wf := WC ad cI) (q0 := 5) (ci := 2) (As := []) (rest := []) S hK hP hS (k_X2_keep hap q13) rfl rfl wl_X2_61 wi_X2_keep ws_X2_keep wz_X2 wc_X2_keep hy_X2_keep ⟨Nat.le_of_ble_eq_true rfl, Nat.le_of_ble_eq_true rfl⟩ hl.1 rfl (Nat.le_of_ble_eq_true rfl) dX2_goThrough_50 (fun H locs hP hS => ?_)
  refine lv_iconst (v := (0 : Int32)) S.1 S.2.1 dX2_goThrough_53 (by decide) ?_
  refine lv_istore_n (lv' := [(1, .int (0 : Int32)), (0, .ref (ad 5))]) S.1 S.2.1 dX2_goThrough_54 rfl hl (by decide) rfl (fun ls hl => ?_)
  exact B_55 _ B_81 FU _ u15 h _ _ _ hP hS (lv_sub hl [1, 0] rfl)
theorem hy_X5_pass : yX5_pass.cls ≠ "java/lang/invoke/MethodHandle" ∧ yX5_pass.cls ≠ "java/lang/invoke/VarHandle" ∧ (parseMethodDescriptor yX5_pass.desc).map (fun d => d.parameters.length) = some 0 := by decide +kernel
set_option maxHeartbeats 4000000 in
set_option maxRecDepth 100000 in
theorem k_X5_pass {l : Launch} {dC : Nat → ClassId} {dI : Nat → Nat → Nat} {ad : Nat → Nat} {cI : ClassId} (hap : AP ad 14) {u uf : Wo} {rf : Int32} (h : fX5_pass u = some (rf, uf)) : CI l dC dI cI (WC ad cI) (AF ad 14) yX5_pass cX5_pass 1 (some .int) 7 162 [.ref (ad 0)] u rf uf := by
  refine ci_begin (by decide) (Nat.le_of_ble_eq_true rfl) ?_
  intro p e s m args below meth c S hr hlk hK
  intro H locs ls hP hS hl
  have hl : lv_has ls 1 [(0, .ref (ad 0))] := hl
  unfold fX5_pass at h
  refine lv_aload_n S.1 S.2.1 dX5_pass_0 rfl (lv_at hl 0 rfl) ?_
  refine gC_0_passes S hK hP wf_X5_58 dX5_pass_1 ?_
  refine lv_bipush (v := (15 : Int32)) S.1 S.2.1 dX5_pass_4 (by decide) ?_
  refine lv_icmp_lt (tgt := 12) S.1 S.2.1 dX5_pass_6 (by decide) (fun c1 => ?_) (fun c1 => ?_)
  · rw [if_pos c1] at h
    refine lv_aload_n S.1 S.2.1 dX5_pass_12 rfl (lv_at hl 0 rfl) ?_
    refine lv_dup S.1 S.2.1 dX5_pass_13 rfl ?_
    refine gC_0_passes S hK hP wf_X5_58 dX5_pass_14 ?_
    refine lv_iconst (v := (1 : Int32)) S.1 S.2.1 dX5_pass_17 (by decide) ?_
    refine lv_iadd S.1 S.2.1 dX5_pass_18 ?_
    obtain ⟨u2, hu2, h⟩ := bw_some h
    refine pC_0_passes S hK hap hP hS wf_X5_58 dX5_pass_19 hu2 (fun H locs hP hS => ?_)
    refine lv_aload_n S.1 S.2.1 dX5_pass_22 rfl (lv_at hl 0 rfl) ?_
    refine gC_0_search S hK hP wf_X5_46 dX5_pass_23 ?_
    obtain ⟨r4, u5, q3, h⟩ := bd_some h
    refine x_vi (Wf := WC ad cI) (q0 := 5) (ci := 2) (As := []) (rest := []) S hK hP hS (k_X2_goThrough hap q3) rfl rfl wl_X5_163 wi_X2_goThrough ws_X2_goThrough wz_X2 wc_X2_goThrough hy_X2_goThrough ⟨Nat.le_of_ble_eq_true rfl, Nat.le_of_ble_eq_true rfl⟩ hl.1 rfl (Nat.le_of_ble_eq_true rfl) dX5_pass_26 (fun H locs hP hS => ?_)
    exact x_iret S hr hlk hK hP hS h dX5_pass_29
  · rw [if_neg c1] at h
    refine lv_bipush (v := (-3 : Int32)) S.1 S.2.1 dX5_pass_9 (by decide) ?_
    exact x_iret S hr hlk hK hP hS h dX5_pass_11
theorem hy_X5_passed : yX5_passed.cls ≠ "java/lang/invoke/MethodHandle" ∧ yX5_passed.cls ≠ "java/lang/invoke/VarHandle" ∧ (parseMethodDescriptor yX5_passed.desc).map (fun d => d.parameters.length) = some 1 := by decide +kernel
set_option maxHeartbeats 4000000 in
set_option maxRecDepth 100000 in
theorem k_X5_passed {l : Launch} {dC : Nat → ClassId} {dI : Nat → Nat → Nat} {ad : Nat → Nat} {cI : ClassId} (hap : AP ad 14) {x1 : Int32} {u uf : Wo} {rf : Int32} (h : fX5_passed x1 u = some (rf, uf)) : CI l dC dI cI (WC ad cI) (AF ad 14) yX5_passed cX5_passed 2 (some .int) 0 0 [.ref (ad 0), .int x1] u rf uf := by
  refine ci_begin (by decide) (Nat.le_of_ble_eq_true rfl) ?_
  intro p e s m args below meth c S hr hlk hK
  have B_16 : ∀ (u : Wo), fX5_passed_16 u = some (rf, uf) → J p l e (rmk 0 0) s m args below meth c dC dI (WC ad cI) (AF ad 14) (MQ below (QI dC dI cI (WC ad cI) (AF ad 14) rf uf) args s 0 0 (AF ad 14)) u 16 2 [] [] := by
    intro u h H locs ls hP hS hl
    unfold fX5_passed_16 at h
    refine lv_iconst (v := (-1 : Int32)) S.1 S.2.1 dX5_passed_16 (by decide) ?_
    exact x_iret S hr hlk hK hP hS h dX5_passed_17
  intro H locs ls hP hS hl
  have hl : lv_has ls 2 [(0, .ref (ad 0)), (1, .int x1)] := hl
  unfold fX5_passed at h
  refine lv_iload_n S.1 S.2.1 dX5_passed_0 rfl (lv_at hl 1 rfl) ?_
  refine lv_if_lt (tgt := 16) S.1 S.2.1 dX5_passed_1 (by decide) (fun c1 => ?_) (fun c1 => ?_)
  · rw [if_pos c1] at h
    exact B_16 u h _ _ _ hP hS (lv_sub hl [] rfl)
  · rw [if_neg c1] at h
    refine lv_iload_n S.1 S.2.1 dX5_passed_4 rfl (lv_at hl 1 rfl) ?_
    refine lv_aload_n S.1 S.2.1 dX5_passed_5 rfl (lv_at hl 0 rfl) ?_
    refine gC_0_search S hK hP wf_X5_46 dX5_passed_6 ?_
    refine gC_5_told S hK hP wf_X5_166 dX5_passed_9 ?_
    refine nC_13 S hK hP dX5_passed_12 ?_
    refine lv_icmp_lt (tgt := 18) S.1 S.2.1 dX5_passed_13 (by decide) (fun c2 => ?_) (fun c2 => ?_)
    · rw [if_pos c2] at h
      refine lv_aload_n S.1 S.2.1 dX5_passed_18 rfl (lv_at hl 0 rfl) ?_
      refine gC_0_search S hK hP wf_X5_46 dX5_passed_19 ?_
      refine gC_5_told S hK hP wf_X5_166 dX5_passed_22 ?_
      refine lv_iload_n S.1 S.2.1 dX5_passed_25 rfl (lv_at hl 1 rfl) ?_
      obtain ⟨q3, h⟩ := gi_some h
      refine lC_13 S hK hP q3 dX5_passed_26 ?_
      exact x_iret S hr hlk hK hP hS h dX5_passed_27
    · rw [if_neg c2] at h
      exact B_16 u h _ _ _ hP hS (lv_sub hl [] rfl)
theorem hy_X5_count : yX5_count.cls ≠ "java/lang/invoke/MethodHandle" ∧ yX5_count.cls ≠ "java/lang/invoke/VarHandle" ∧ (parseMethodDescriptor yX5_count.desc).map (fun d => d.parameters.length) = some 1 := by decide +kernel
set_option maxHeartbeats 4000000 in
set_option maxRecDepth 100000 in
theorem k_X5_count {l : Launch} {dC : Nat → ClassId} {dI : Nat → Nat → Nat} {ad : Nat → Nat} {cI : ClassId} (hap : AP ad 14) {x1 : Int32} {u uf : Wo} {rf : Int32} (h : fX5_count x1 u = some (rf, uf)) : CI l dC dI cI (WC ad cI) (AF ad 14) yX5_count cX5_count 2 (some .int) 3 66 [.ref (ad 0), .int x1] u rf uf := by
  refine ci_begin (by decide) (Nat.le_of_ble_eq_true rfl) ?_
  intro p e s m args below meth c S hr hlk hK
  intro H locs ls hP hS hl
  have hl : lv_has ls 2 [(0, .ref (ad 0)), (1, .int x1)] := hl
  unfold fX5_count at h
  refine lv_iload_n S.1 S.2.1 dX5_count_0 rfl (lv_at hl 1 rfl) ?_
  by_cases c1_0 : x1 = (0 : Int32)
  · rw [if_pos c1_0] at h
    refine lv_tableIn (tgt := 56) (off := 55) S.1 S.2.1 dX5_count_1 (by rw [c1_0]; decide) (by rw [c1_0]; decide) (by rw [c1_0]; decide) (by decide) ?_
    refine lv_aload_n S.1 S.2.1 dX5_count_56 rfl (lv_at hl 0 rfl) ?_
    refine gC_0_stand S hK hP wf_X5_10 dX5_count_57 ?_
    refine gC_1_n S hK hP wf_X5_68 dX5_count_60 ?_
    exact x_iret S hr hlk hK hP hS h dX5_count_63
  rw [if_neg c1_0] at h
  by_cases c1_1 : x1 = (1 : Int32)
  · rw [if_pos c1_1] at h
    refine lv_tableIn (tgt := 64) (off := 63) S.1 S.2.1 dX5_count_1 (by rw [c1_1]; decide) (by rw [c1_1]; decide) (by rw [c1_1]; decide) (by decide) ?_
    refine lv_aload_n S.1 S.2.1 dX5_count_64 rfl (lv_at hl 0 rfl) ?_
    refine gC_0_stand S hK hP wf_X5_10 dX5_count_65 ?_
    refine gC_1_way S hK hP wf_X5_71 dX5_count_68 ?_
    exact x_iret S hr hlk hK hP hS h dX5_count_71
  rw [if_neg c1_1] at h
  by_cases c1_2 : x1 = (2 : Int32)
  · rw [if_pos c1_2] at h
    refine lv_tableIn (tgt := 72) (off := 71) S.1 S.2.1 dX5_count_1 (by rw [c1_2]; decide) (by rw [c1_2]; decide) (by rw [c1_2]; decide) (by decide) ?_
    refine lv_aload_n S.1 S.2.1 dX5_count_72 rfl (lv_at hl 0 rfl) ?_
    refine gC_0_stand S hK hP wf_X5_10 dX5_count_73 ?_
    refine lv_sipush (v := (611 : Int32)) S.1 S.2.1 dX5_count_76 (by decide) ?_
    obtain ⟨r3, u4, q2, h⟩ := bd_some h
    refine x_vi (Wf := WC ad cI) (q0 := 1) (ci := 3) (As := [.int (611 : Int32)]) (rest := []) S hK hP hS (k_X3_get hap q2) rfl rfl wl_X5_141 wi_X3_get ws_X3_get wz_X3 wc_X3_get hy_X3_get ⟨Nat.le_of_ble_eq_true rfl, Nat.le_of_ble_eq_true rfl⟩ hl.1 rfl (Nat.le_of_ble_eq_true rfl) dX5_count_79 (fun H locs hP hS => ?_)
    exact x_iret S hr hlk hK hP hS h dX5_count_82
  rw [if_neg c1_2] at h
  by_cases c1_3 : x1 = (3 : Int32)
  · rw [if_pos c1_3] at h
    refine lv_tableIn (tgt := 83) (off := 82) S.1 S.2.1 dX5_count_1 (by rw [c1_3]; decide) (by rw [c1_3]; decide) (by rw [c1_3]; decide) (by decide) ?_
    refine lv_aload_n S.1 S.2.1 dX5_count_83 rfl (lv_at hl 0 rfl) ?_
    refine gC_0_stand S hK hP wf_X5_10 dX5_count_84 ?_
    refine lv_sipush (v := (608 : Int32)) S.1 S.2.1 dX5_count_87 (by decide) ?_
    obtain ⟨r6, u7, q5, h⟩ := bd_some h
    refine x_vi (Wf := WC ad cI) (q0 := 1) (ci := 3) (As := [.int (608 : Int32)]) (rest := []) S hK hP hS (k_X3_get hap q5) rfl rfl wl_X5_141 wi_X3_get ws_X3_get wz_X3 wc_X3_get hy_X3_get ⟨Nat.le_of_ble_eq_true rfl, Nat.le_of_ble_eq_true rfl⟩ hl.1 rfl (Nat.le_of_ble_eq_true rfl) dX5_count_90 (fun H locs hP hS => ?_)
    exact x_iret S hr hlk hK hP hS h dX5_count_93
  rw [if_neg c1_3] at h
  by_cases c1_4 : x1 = (4 : Int32)
  · rw [if_pos c1_4] at h
    refine lv_tableIn (tgt := 94) (off := 93) S.1 S.2.1 dX5_count_1 (by rw [c1_4]; decide) (by rw [c1_4]; decide) (by rw [c1_4]; decide) (by decide) ?_
    refine lv_aload_n S.1 S.2.1 dX5_count_94 rfl (lv_at hl 0 rfl) ?_
    refine gC_0_stand S hK hP wf_X5_10 dX5_count_95 ?_
    refine lv_sipush (v := (609 : Int32)) S.1 S.2.1 dX5_count_98 (by decide) ?_
    obtain ⟨r9, u10, q8, h⟩ := bd_some h
    refine x_vi (Wf := WC ad cI) (q0 := 1) (ci := 3) (As := [.int (609 : Int32)]) (rest := []) S hK hP hS (k_X3_get hap q8) rfl rfl wl_X5_141 wi_X3_get ws_X3_get wz_X3 wc_X3_get hy_X3_get ⟨Nat.le_of_ble_eq_true rfl, Nat.le_of_ble_eq_true rfl⟩ hl.1 rfl (Nat.le_of_ble_eq_true rfl) dX5_count_101 (fun H locs hP hS => ?_)
    exact x_iret S hr hlk hK hP hS h dX5_count_104
  rw [if_neg c1_4] at h
  by_cases c1_5 : x1 = (5 : Int32)
  · rw [if_pos c1_5] at h
    refine lv_tableIn (tgt := 105) (off := 104) S.1 S.2.1 dX5_count_1 (by rw [c1_5]; decide) (by rw [c1_5]; decide) (by rw [c1_5]; decide) (by decide) ?_
    refine lv_aload_n S.1 S.2.1 dX5_count_105 rfl (lv_at hl 0 rfl) ?_
    refine gC_0_stand S hK hP wf_X5_10 dX5_count_106 ?_
    refine lv_sipush (v := (610 : Int32)) S.1 S.2.1 dX5_count_109 (by decide) ?_
    obtain ⟨r12, u13, q11, h⟩ := bd_some h
    refine x_vi (Wf := WC ad cI) (q0 := 1) (ci := 3) (As := [.int (610 : Int32)]) (rest := []) S hK hP hS (k_X3_get hap q11) rfl rfl wl_X5_141 wi_X3_get ws_X3_get wz_X3 wc_X3_get hy_X3_get ⟨Nat.le_of_ble_eq_true rfl, Nat.le_of_ble_eq_true rfl⟩ hl.1 rfl (Nat.le_of_ble_eq_true rfl) dX5_count_112 (fun H locs hP hS => ?_)
    exact x_iret S hr hlk hK hP hS h dX5_count_115
  rw [if_neg c1_5] at h
  by_cases c1_6 : x1 = (6 : Int32)
  · rw [if_pos c1_6] at h
    refine lv_tableIn (tgt := 116) (off := 115) S.1 S.2.1 dX5_count_1 (by rw [c1_6]; decide) (by rw [c1_6]; decide) (by rw [c1_6]; decide) (by decide) ?_
    refine lv_aload_n S.1 S.2.1 dX5_count_116 rfl (lv_at hl 0 rfl) ?_
    refine gC_0_stand S hK hP wf_X5_10 dX5_count_117 ?_
    obtain ⟨r15, u16, q14, h⟩ := bd_some h
    refine x_vi (Wf := WC ad cI) (q0 := 1) (ci := 3) (As := []) (rest := []) S hK hP hS (k_X3_underWayInAll hap q14) rfl rfl wl_X5_170 wi_X3_underWayInAll ws_X3_underWayInAll wz_X3 wc_X3_underWayInAll hy_X3_underWayInAll ⟨Nat.le_of_ble_eq_true rfl, Nat.le_of_ble_eq_true rfl⟩ hl.1 rfl (Nat.le_of_ble_eq_true rfl) dX5_count_120 (fun H locs hP hS => ?_)
    exact x_iret S hr hlk hK hP hS h dX5_count_123
  rw [if_neg c1_6] at h
  by_cases c1_7 : x1 = (7 : Int32)
  · rw [if_pos c1_7] at h
    refine lv_tableIn (tgt := 124) (off := 123) S.1 S.2.1 dX5_count_1 (by rw [c1_7]; decide) (by rw [c1_7]; decide) (by rw [c1_7]; decide) (by decide) ?_
    refine lv_aload_n S.1 S.2.1 dX5_count_124 rfl (lv_at hl 0 rfl) ?_
    refine gC_0_stand S hK hP wf_X5_10 dX5_count_125 ?_
    refine lv_iconst (v := (2 : Int32)) S.1 S.2.1 dX5_count_128 (by decide) ?_
    obtain ⟨r18, u19, q17, h⟩ := bd_some h
    refine x_vi (Wf := WC ad cI) (q0 := 1) (ci := 3) (As := [.int (2 : Int32)]) (rest := []) S hK hP hS (k_X3_howMany hap q17) rfl rfl wl_X5_173 wi_X3_howMany ws_X3_howMany wz_X3 wc_X3_howMany hy_X3_howMany ⟨Nat.le_of_ble_eq_true rfl, Nat.le_of_ble_eq_true rfl⟩ hl.1 rfl (Nat.le_of_ble_eq_true rfl) dX5_count_129 (fun H locs hP hS => ?_)
    exact x_iret S hr hlk hK hP hS h dX5_count_132
  rw [if_neg c1_7] at h
  by_cases c1_8 : x1 = (8 : Int32)
  · rw [if_pos c1_8] at h
    refine lv_tableIn (tgt := 133) (off := 132) S.1 S.2.1 dX5_count_1 (by rw [c1_8]; decide) (by rw [c1_8]; decide) (by rw [c1_8]; decide) (by decide) ?_
    refine lv_aload_n S.1 S.2.1 dX5_count_133 rfl (lv_at hl 0 rfl) ?_
    refine gC_0_stand S hK hP wf_X5_10 dX5_count_134 ?_
    refine lv_iconst (v := (1 : Int32)) S.1 S.2.1 dX5_count_137 (by decide) ?_
    obtain ⟨r21, u22, q20, h⟩ := bd_some h
    refine x_vi (Wf := WC ad cI) (q0 := 1) (ci := 3) (As := [.int (1 : Int32)]) (rest := []) S hK hP hS (k_X3_howMany hap q20) rfl rfl wl_X5_173 wi_X3_howMany ws_X3_howMany wz_X3 wc_X3_howMany hy_X3_howMany ⟨Nat.le_of_ble_eq_true rfl, Nat.le_of_ble_eq_true rfl⟩ hl.1 rfl (Nat.le_of_ble_eq_true rfl) dX5_count_138 (fun H locs hP hS => ?_)
    exact x_iret S hr hlk hK hP hS h dX5_count_141
  rw [if_neg c1_8] at h
  by_cases c1_9 : x1 = (9 : Int32)
  · rw [if_pos c1_9] at h
    refine lv_tableIn (tgt := 142) (off := 141) S.1 S.2.1 dX5_count_1 (by rw [c1_9]; decide) (by rw [c1_9]; decide) (by rw [c1_9]; decide) (by decide) ?_
    refine lv_aload_n S.1 S.2.1 dX5_count_142 rfl (lv_at hl 0 rfl) ?_
    refine gC_0_past S hK hP wf_X5_37 dX5_count_143 ?_
    refine gC_4_kept S hK hP wf_X5_176 dX5_count_146 ?_
    exact x_iret S hr hlk hK hP hS h dX5_count_149
  rw [if_neg c1_9] at h
  have ec1_0 : (x1).toInt ≠ 0 := fun q => c1_0 (Int32.toInt_inj.mp (q.trans (by decide)))
  have ec1_1 : (x1).toInt ≠ 1 := fun q => c1_1 (Int32.toInt_inj.mp (q.trans (by decide)))
  have ec1_2 : (x1).toInt ≠ 2 := fun q => c1_2 (Int32.toInt_inj.mp (q.trans (by decide)))
  have ec1_3 : (x1).toInt ≠ 3 := fun q => c1_3 (Int32.toInt_inj.mp (q.trans (by decide)))
  have ec1_4 : (x1).toInt ≠ 4 := fun q => c1_4 (Int32.toInt_inj.mp (q.trans (by decide)))
  have ec1_5 : (x1).toInt ≠ 5 := fun q => c1_5 (Int32.toInt_inj.mp (q.trans (by decide)))
  have ec1_6 : (x1).toInt ≠ 6 := fun q => c1_6 (Int32.toInt_inj.mp (q.trans (by decide)))
  have ec1_7 : (x1).toInt ≠ 7 := fun q => c1_7 (Int32.toInt_inj.mp (q.trans (by decide)))
  have ec1_8 : (x1).toInt ≠ 8 := fun q => c1_8 (Int32.toInt_inj.mp (q.trans (by decide)))
  have ec1_9 : (x1).toInt ≠ 9 := fun q => c1_9 (Int32.toInt_inj.mp (q.trans (by decide)))
  refine lv_tableOut (tgt := 150) S.1 S.2.1 dX5_count_1 (by omega) (by decide) ?_
  refine lv_iconst (v := (-1 : Int32)) S.1 S.2.1 dX5_count_150 (by decide) ?_
  exact x_iret S hr hlk hK hP hS h dX5_count_151
