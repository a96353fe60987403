theorem hy_X6_dropEldest : yX6_dropEldest.cls ≠ "java/lang/invoke/MethodHandle" ∧ yX6_dropEldest.cls ≠ "java/lang/invoke/VarHandle" ∧ (parseMethodDescriptor yX6_dropEldest.desc).map (fun d => d.parameters.length) = some 1 := by decide +kernel
set_option maxHeartbeats 4000000 in
set_option maxRecDepth 100000 in
theorem k_X6_dropEldest {l : Launch} {dC : Nat → ClassId} {dI : Nat → Nat → Nat} {ad : Nat → Nat} {cI : ClassId} (hap : AP ad 9) {x1 : Int32} {u uf : Wo} {rf : Int32} (h : fX6_dropEldest x1 u = some (rf, uf)) : CV l dC dI cI (WM ad cI) (AF ad 9) yX6_dropEldest cX6_dropEldest 3 none 0 0 [.ref (ad 0), .int x1] u uf := by
  refine cv_begin (by decide) (Nat.le_of_ble_eq_true rfl) ?_
  intro p e s m args below meth c S hr hlk hK
  have B_2 : ∀ (k32 : Int32 → Wo → Re) (hk32 : ∀ (x1 : Int32) (u : Wo), k32 x1 u = some (rf, uf) → J p l e (rmk 0 0) s m args below meth c dC dI (WM ad cI) (AF ad 9) (MQ below (QV dC dI cI (WM ad cI) (AF ad 9) uf) args s 0 0 (AF ad 9)) u 32 3 [(0, .ref (ad 0)), (1, .int x1)] []) (n : Nat) (x1 : Int32) (x2 : Int32) (u : Wo), fX6_dropEldest_2 k32 n x1 x2 u = some (rf, uf) → J p l e (rmk 0 0) s m args below meth c dC dI (WM ad cI) (AF ad 9) (MQ below (QV dC dI cI (WM ad cI) (AF ad 9) uf) args s 0 0 (AF ad 9)) u 2 3 [(0, .ref (ad 0)), (1, .int x1), (2, .int x2)] [] := by
    intro k32 hk32
    intro n
    induction n with
    | zero => intro x1 x2 u h; cases h
    | succ n ih =>
      intro x1 x2 u h H locs ls hP hS hl
      rw [fX6_dropEldest_2.eq_2] at h
      refine lv_iload_n S.1 S.2.1 dX6_dropEldest_2 rfl (lv_at hl 2 rfl) ?_
      refine lv_bipush (v := (23 : Int32)) S.1 S.2.1 dX6_dropEldest_3 (by decide) ?_
      refine lv_icmp_ge (tgt := 32) S.1 S.2.1 dX6_dropEldest_5 (by decide) (fun c1 => ?_) (fun c1 => ?_)
      · rw [if_pos c1] at h
        exact hk32 _ u h _ _ _ hP hS (lv_sub hl [0, 1] rfl)
      · rw [if_neg c1] at h
        refine lv_aload_n S.1 S.2.1 dX6_dropEldest_8 rfl (lv_at hl 0 rfl) ?_
        refine gM_0_st S hK hP wf_X6_17 dX6_dropEldest_9 ?_
        refine lv_iload_n S.1 S.2.1 dX6_dropEldest_12 rfl (lv_at hl 1 rfl) ?_
        refine lv_iload_n S.1 S.2.1 dX6_dropEldest_13 rfl (lv_at hl 2 rfl) ?_
        refine lv_iadd S.1 S.2.1 dX6_dropEldest_14 ?_
        refine lv_aload_n S.1 S.2.1 dX6_dropEldest_15 rfl (lv_at hl 0 rfl) ?_
        refine gM_0_st S hK hP wf_X6_17 dX6_dropEldest_16 ?_
        refine lv_iload_n S.1 S.2.1 dX6_dropEldest_19 rfl (lv_at hl 1 rfl) ?_
        refine lv_iload_n S.1 S.2.1 dX6_dropEldest_20 rfl (lv_at hl 2 rfl) ?_
        refine lv_iadd S.1 S.2.1 dX6_dropEldest_21 ?_
        refine lv_iconst (v := (2 : Int32)) S.1 S.2.1 dX6_dropEldest_22 (by decide) ?_
        refine lv_iadd S.1 S.2.1 dX6_dropEldest_23 ?_
        obtain ⟨q2, h⟩ := gi_some h
        refine lM_2 S hK hP q2 dX6_dropEldest_24 ?_
        obtain ⟨q3, h⟩ := gi_some h
        obtain ⟨u4, hu4, h⟩ := bw_some h
        refine tM_2 S hK hap hP hS q3 dX6_dropEldest_25 hu4 (fun H locs hP hS => ?_)
        refine lv_iinc (v := (x2 + (1 : Int32))) (lv' := [(2, .int (x2 + (1 : Int32))), (0, .ref (ad 0)), (1, .int x1)]) S.1 S.2.1 dX6_dropEldest_26 hl (k := 2) rfl rfl (by decide) rfl (fun ls hl => ?_)
        refine lv_goto (tgt := 2) S.1 S.2.1 dX6_dropEldest_29 (by decide) ?_
        exact ih _ _ u4 h _ _ _ hP hS (lv_sub hl [1, 2, 0] rfl)
  have B_32 : ∀ (x1 : Int32) (u : Wo), fX6_dropEldest_32 x1 u = some (rf, uf) → J p l e (rmk 0 0) s m args below meth c dC dI (WM ad cI) (AF ad 9) (MQ below (QV dC dI cI (WM ad cI) (AF ad 9) uf) args s 0 0 (AF ad 9)) u 32 3 [(0, .ref (ad 0)), (1, .int x1)] [] := by
    intro x1 u h H locs ls hP hS hl
    unfold fX6_dropEldest_32 at h
    refine lv_aload_n S.1 S.2.1 dX6_dropEldest_32 rfl (lv_at hl 0 rfl) ?_
    refine gM_0_st S hK hP wf_X6_17 dX6_dropEldest_33 ?_
    refine lv_iload_n S.1 S.2.1 dX6_dropEldest_36 rfl (lv_at hl 1 rfl) ?_
    refine lv_bipush (v := (23 : Int32)) S.1 S.2.1 dX6_dropEldest_37 (by decide) ?_
    refine lv_iadd S.1 S.2.1 dX6_dropEldest_39 ?_
    refine lv_iconst (v := (0 : Int32)) S.1 S.2.1 dX6_dropEldest_40 (by decide) ?_
    obtain ⟨q5, h⟩ := gi_some h
    obtain ⟨u6, hu6, h⟩ := bw_some h
    refine tM_2 S hK hap hP hS q5 dX6_dropEldest_41 hu6 (fun H locs hP hS => ?_)
    refine lv_aload_n S.1 S.2.1 dX6_dropEldest_42 rfl (lv_at hl 0 rfl) ?_
    refine gM_0_st S hK hP wf_X6_17 dX6_dropEldest_43 ?_
    refine lv_iload_n S.1 S.2.1 dX6_dropEldest_46 rfl (lv_at hl 1 rfl) ?_
    refine lv_bipush (v := (24 : Int32)) S.1 S.2.1 dX6_dropEldest_47 (by decide) ?_
    refine lv_iadd S.1 S.2.1 dX6_dropEldest_49 ?_
    refine lv_iconst (v := (0 : Int32)) S.1 S.2.1 dX6_dropEldest_50 (by decide) ?_
    obtain ⟨q7, h⟩ := gi_some h
    obtain ⟨u8, hu8, h⟩ := bw_some h
    refine tM_2 S hK hap hP hS q7 dX6_dropEldest_51 hu8 (fun H locs hP hS => ?_)
    refine lv_aload_n S.1 S.2.1 dX6_dropEldest_52 rfl (lv_at hl 0 rfl) ?_
    refine gM_0_st S hK hP wf_X6_17 dX6_dropEldest_53 ?_
    refine lv_iload_n S.1 S.2.1 dX6_dropEldest_56 rfl (lv_at hl 1 rfl) ?_
    refine lv_dup2_11 S.1 S.2.1 dX6_dropEldest_57 rfl rfl ?_
    obtain ⟨q9, h⟩ := gi_some h
    refine lM_2 S hK hP q9 dX6_dropEldest_58 ?_
    refine lv_iconst (v := (1 : Int32)) S.1 S.2.1 dX6_dropEldest_59 (by decide) ?_
    refine lv_isub S.1 S.2.1 dX6_dropEldest_60 ?_
    obtain ⟨q10, h⟩ := gi_some h
    obtain ⟨u11, hu11, h⟩ := bw_some h
    refine tM_2 S hK hap hP hS q10 dX6_dropEldest_61 hu11 (fun H locs hP hS => ?_)
    exact x_vret S hr hlk hK hP hS h dX6_dropEldest_62
  intro H locs ls hP hS hl
  have hl : lv_has ls 3 [(0, .ref (ad 0)), (1, .int x1)] := hl
  unfold fX6_dropEldest at h
  refine lv_iconst (v := (1 : Int32)) S.1 S.2.1 dX6_dropEldest_0 (by decide) ?_
  refine lv_istore_n (lv' := [(2, .int (1 : Int32)), (0, .ref (ad 0)), (1, .int x1)]) S.1 S.2.1 dX6_dropEldest_1 rfl hl (by decide) rfl (fun ls hl => ?_)
  exact B_2 _ B_32 FU _ _ u h _ _ _ hP hS (lv_sub hl [1, 2, 0] rfl)
theorem hy_X6_askedComes : yX6_askedComes.cls ≠ "java/lang/invoke/MethodHandle" ∧ yX6_askedComes.cls ≠ "java/lang/invoke/VarHandle" ∧ (parseMethodDescriptor yX6_askedComes.desc).map (fun d => d.parameters.length) = some 3 := by decide +kernel
set_option maxHeartbeats 4000000 in
set_option maxRecDepth 100000 in
theorem k_X6_askedComes {l : Launch} {dC : Nat → ClassId} {dI : Nat → Nat → Nat} {ad : Nat → Nat} {cI : ClassId} (hap : AP ad 9) {x1 x2 x3 : Int32} {u uf : Wo} {rf : Int32} (h : fX6_askedComes x1 x2 x3 u = some (rf, uf)) : CV l dC dI cI (WM ad cI) (AF ad 9) yX6_askedComes cX6_askedComes 7 none 3 72 [.ref (ad 0), .int x1, .int x2, .int x3] u uf := by
  refine cv_begin (by decide) (Nat.le_of_ble_eq_true rfl) ?_
  intro p e s m args below meth c S hr hlk hK
  have B_255 : ∀ (u : Wo), fX6_askedComes_255 u = some (rf, uf) → J p l e (rmk 3 72) s m args below meth c dC dI (WM ad cI) (AF ad 9) (MQ below (QV dC dI cI (WM ad cI) (AF ad 9) uf) args s 0 0 (AF ad 9)) u 255 7 [] [] := by
    intro u h H locs ls hP hS hl
    unfold fX6_askedComes_255 at h
    exact x_vret S hr hlk hK hP hS h dX6_askedComes_255
  have B_241 : ∀ (u : Wo), fX6_askedComes_241 u = some (rf, uf) → J p l e (rmk 3 72) s m args below meth c dC dI (WM ad cI) (AF ad 9) (MQ below (QV dC dI cI (WM ad cI) (AF ad 9) uf) args s 0 0 (AF ad 9)) u 241 7 [] [] := by
    intro u h H locs ls hP hS hl
    unfold fX6_askedComes_241 at h
    refine lv_goto (tgt := 255) S.1 S.2.1 dX6_askedComes_241 (by decide) ?_
    exact B_255 u h _ _ _ hP hS (lv_sub hl [] rfl)
  have B_190 : ∀ (x1 : Int32) (x2 : Int32) (x4 : Int32) (x5 : Int32) (s1 : Int32) (s2 : Int32) (u : Wo), fX6_askedComes_190 x1 x2 x4 x5 s1 s2 u = some (rf, uf) → J p l e (rmk 3 72) s m args below meth c dC dI (WM ad cI) (AF ad 9) (MQ below (QV dC dI cI (WM ad cI) (AF ad 9) uf) args s 0 0 (AF ad 9)) u 190 7 [(0, .ref (ad 0)), (1, .int x1), (2, .int x2), (4, .int x4), (5, .int x5)] [.int s2, .int s1, .ref (ad 2)] := by
    intro x1 x2 x4 x5 s1 s2 u h H locs ls hP hS hl
    unfold fX6_askedComes_190 at h
    obtain ⟨q11, h⟩ := gi_some h
    obtain ⟨u12, hu12, h⟩ := bw_some h
    refine tM_2 S hK hap hP hS q11 dX6_askedComes_190 hu12 (fun H locs hP hS => ?_)
    refine lv_aload_n S.1 S.2.1 dX6_askedComes_191 rfl (lv_at hl 0 rfl) ?_
    refine gM_0_st S hK hP wf_X6_17 dX6_askedComes_192 ?_
    refine lv_bipush (v := (126 : Int32)) S.1 S.2.1 dX6_askedComes_195 (by decide) ?_
    obtain ⟨q13, h⟩ := gi_some h
    refine lM_2 S hK hP q13 dX6_askedComes_197 ?_
    refine lv_iload_n S.1 S.2.1 dX6_askedComes_198 rfl (lv_at hl 1 rfl) ?_
    refine lv_icmp_ne (tgt := 241) S.1 S.2.1 dX6_askedComes_199 (by decide) (fun c14 => ?_) (fun c14 => ?_)
    · rw [if_neg c14] at h
      exact B_241 u12 h _ _ _ hP hS (lv_sub hl [] rfl)
    · rw [if_pos c14] at h
      refine lv_aload_n S.1 S.2.1 dX6_askedComes_202 rfl (lv_at hl 0 rfl) ?_
      refine gM_0_st S hK hP wf_X6_17 dX6_askedComes_203 ?_
      refine lv_iload S.1 S.2.1 dX6_askedComes_206 (lv_at hl 3 rfl) ?_
      refine lv_iconst (v := (0 : Int32)) S.1 S.2.1 dX6_askedComes_208 (by decide) ?_
      refine lv_iadd S.1 S.2.1 dX6_askedComes_209 ?_
      obtain ⟨q15, h⟩ := gi_some h
      refine lM_2 S hK hP q15 dX6_askedComes_210 ?_
      refine lv_if_ne (tgt := 241) S.1 S.2.1 dX6_askedComes_211 (by decide) (fun c16 => ?_) (fun c16 => ?_)
      · rw [if_neg c16] at h
        exact B_241 u12 h _ _ _ hP hS (lv_sub hl [] rfl)
      · rw [if_pos c16] at h
        refine lv_aload_n S.1 S.2.1 dX6_askedComes_214 rfl (lv_at hl 0 rfl) ?_
        refine gM_0_st S hK hP wf_X6_17 dX6_askedComes_215 ?_
        refine lv_iload S.1 S.2.1 dX6_askedComes_218 (lv_at hl 4 rfl) ?_
        obtain ⟨q17, h⟩ := gi_some h
        refine lM_2 S hK hP q17 dX6_askedComes_220 ?_
        refine lv_aload_n S.1 S.2.1 dX6_askedComes_221 rfl (lv_at hl 0 rfl) ?_
        refine gM_0_st S hK hP wf_X6_17 dX6_askedComes_222 ?_
        refine lv_bipush (v := (127 : Int32)) S.1 S.2.1 dX6_askedComes_225 (by decide) ?_
        refine lv_iload_n S.1 S.2.1 dX6_askedComes_227 rfl (lv_at hl 2 rfl) ?_
        refine lv_iadd S.1 S.2.1 dX6_askedComes_228 ?_
        obtain ⟨q18, h⟩ := gi_some h
        refine lM_2 S hK hP q18 dX6_askedComes_229 ?_
        refine lv_iconst (v := (1 : Int32)) S.1 S.2.1 dX6_askedComes_230 (by decide) ?_
        refine lv_iadd S.1 S.2.1 dX6_askedComes_231 ?_
        refine lv_icmp_ne (tgt := 241) S.1 S.2.1 dX6_askedComes_232 (by decide) (fun c19 => ?_) (fun c19 => ?_)
        · rw [if_neg c19] at h
          exact B_241 u12 h _ _ _ hP hS (lv_sub hl [] rfl)
        · rw [if_pos c19] at h
          refine lv_aload_n S.1 S.2.1 dX6_askedComes_235 rfl (lv_at hl 0 rfl) ?_
          refine lv_iload_n S.1 S.2.1 dX6_askedComes_236 rfl (lv_at hl 1 rfl) ?_
          refine lv_iload_n S.1 S.2.1 dX6_askedComes_237 rfl (lv_at hl 2 rfl) ?_
          obtain ⟨r21, u22, q20, h⟩ := bd_some h
          refine x_vv (Wf := WM ad cI) (q0 := 0) (ci := 6) (As := [.int x1, .int x2]) (rest := []) S hK hP hS (k_X6_passToken hap q20) rfl rfl wl_X6_102 wi_X6_passToken ws_X6_passToken wz_X6 wc_X6_passToken hy_X6_passToken ⟨Nat.le_of_ble_eq_true rfl, Nat.le_of_ble_eq_true rfl⟩ hl.1 rfl (Nat.le_of_ble_eq_true rfl) dX6_askedComes_238 (fun H locs hP hS => ?_)
          exact B_241 u22 h _ _ _ hP hS (lv_sub hl [] rfl)
  have B_142 : ∀ (u : Wo), fX6_askedComes_142 u = some (rf, uf) → J p l e (rmk 3 72) s m args below meth c dC dI (WM ad cI) (AF ad 9) (MQ below (QV dC dI cI (WM ad cI) (AF ad 9) uf) args s 0 0 (AF ad 9)) u 142 7 [] [] := by
    intro u h H locs ls hP hS hl
    unfold fX6_askedComes_142 at h
    refine lv_goto (tgt := 255) S.1 S.2.1 dX6_askedComes_142 (by decide) ?_
    exact B_255 u h _ _ _ hP hS (lv_sub hl [] rfl)
  have B_116 : ∀ (x2 : Int32) (x4 : Int32) (u : Wo), fX6_askedComes_116 x2 x4 u = some (rf, uf) → J p l e (rmk 3 72) s m args below meth c dC dI (WM ad cI) (AF ad 9) (MQ below (QV dC dI cI (WM ad cI) (AF ad 9) uf) args s 0 0 (AF ad 9)) u 116 7 [(0, .ref (ad 0)), (2, .int x2), (4, .int x4)] [] := by
    intro x2 x4 u h H locs ls hP hS hl
    unfold fX6_askedComes_116 at h
    refine lv_aload_n S.1 S.2.1 dX6_askedComes_116 rfl (lv_at hl 0 rfl) ?_
    refine gM_0_st S hK hP wf_X6_17 dX6_askedComes_117 ?_
    refine lv_iload S.1 S.2.1 dX6_askedComes_120 (lv_at hl 2 rfl) ?_
    refine lv_iconst (v := (4 : Int32)) S.1 S.2.1 dX6_askedComes_122 (by decide) ?_
    refine lv_iadd S.1 S.2.1 dX6_askedComes_123 ?_
    refine lv_dup2_11 S.1 S.2.1 dX6_askedComes_124 rfl rfl ?_
    obtain ⟨q34, h⟩ := gi_some h
    refine lM_2 S hK hP q34 dX6_askedComes_125 ?_
    refine lv_iconst (v := (1 : Int32)) S.1 S.2.1 dX6_askedComes_126 (by decide) ?_
    refine lv_iload_n S.1 S.2.1 dX6_askedComes_127 rfl (lv_at hl 1 rfl) ?_
    refine lv_ishl S.1 S.2.1 dX6_askedComes_128 ?_
    refine lv_ior S.1 S.2.1 dX6_askedComes_129 ?_
    obtain ⟨q35, h⟩ := gi_some h
    obtain ⟨u36, hu36, h⟩ := bw_some h
    refine tM_2 S hK hap hP hS q35 dX6_askedComes_130 hu36 (fun H locs hP hS => ?_)
    refine lv_goto (tgt := 142) S.1 S.2.1 dX6_askedComes_131 (by decide) ?_
    exact B_142 u36 h _ _ _ hP hS (lv_sub hl [] rfl)
  have B_96 : ∀ (x1 : Int32) (x2 : Int32) (x4 : Int32) (s0 : Int32) (u : Wo), fX6_askedComes_96 x1 x2 x4 s0 u = some (rf, uf) → J p l e (rmk 3 72) s m args below meth c dC dI (WM ad cI) (AF ad 9) (MQ below (QV dC dI cI (WM ad cI) (AF ad 9) uf) args s 0 0 (AF ad 9)) u 96 7 [(0, .ref (ad 0)), (1, .int x1), (2, .int x2), (4, .int x4)] [.int s0] := by
    intro x1 x2 x4 s0 u h H locs ls hP hS hl
    unfold fX6_askedComes_96 at h
    refine lv_istore (lv' := [(6, .int s0), (0, .ref (ad 0)), (1, .int x1), (2, .int x2), (4, .int x4)]) S.1 S.2.1 dX6_askedComes_96 hl (by decide) rfl (fun ls hl => ?_)
    refine lv_aload_n S.1 S.2.1 dX6_askedComes_98 rfl (lv_at hl 1 rfl) ?_
    refine gM_0_st S hK hP wf_X6_17 dX6_askedComes_99 ?_
    refine lv_iload S.1 S.2.1 dX6_askedComes_102 (lv_at hl 4 rfl) ?_
    refine lv_iconst (v := (0 : Int32)) S.1 S.2.1 dX6_askedComes_104 (by decide) ?_
    refine lv_iadd S.1 S.2.1 dX6_askedComes_105 ?_
    obtain ⟨q32, h⟩ := gi_some h
    refine lM_2 S hK hP q32 dX6_askedComes_106 ?_
    refine lv_iconst (v := (2 : Int32)) S.1 S.2.1 dX6_askedComes_107 (by decide) ?_
    refine lv_icmp_eq (tgt := 116) S.1 S.2.1 dX6_askedComes_108 (by decide) (fun c33 => ?_) (fun c33 => ?_)
    · rw [if_pos c33] at h
      exact B_116 _ _ u h _ _ _ hP hS (lv_sub hl [1, 3, 4] rfl)
    · rw [if_neg c33] at h
      refine lv_iload S.1 S.2.1 dX6_askedComes_111 (lv_at hl 0 rfl) ?_
      refine lv_if_eq (tgt := 134) S.1 S.2.1 dX6_askedComes_113 (by decide) (fun c37 => ?_) (fun c37 => ?_)
      · rw [if_pos c37] at h
        refine lv_aload_n S.1 S.2.1 dX6_askedComes_134 rfl (lv_at hl 1 rfl) ?_
        refine lv_iload_n S.1 S.2.1 dX6_askedComes_135 rfl (lv_at hl 2 rfl) ?_
        refine lv_iload_n S.1 S.2.1 dX6_askedComes_136 rfl (lv_at hl 3 rfl) ?_
        refine lv_iconst (v := (1 : Int32)) S.1 S.2.1 dX6_askedComes_137 (by decide) ?_
        refine lv_iconst (v := (0 : Int32)) S.1 S.2.1 dX6_askedComes_138 (by decide) ?_
        obtain ⟨r39, u40, q38, h⟩ := bd_some h
        refine x_vv (Wf := WM ad cI) (q0 := 0) (ci := 6) (As := [.int x1, .int x2, .int (1 : Int32), .int (0 : Int32)]) (rest := []) S hK hP hS (k_X6_send hap q38) rfl rfl wl_X6_76 wi_X6_send ws_X6_send wz_X6 wc_X6_send hy_X6_send ⟨Nat.le_of_ble_eq_true rfl, Nat.le_of_ble_eq_true rfl⟩ hl.1 rfl (Nat.le_of_ble_eq_true rfl) dX6_askedComes_139 (fun H locs hP hS => ?_)
        exact B_142 u40 h _ _ _ hP hS (lv_sub hl [] rfl)
      · rw [if_neg c37] at h
        exact B_116 _ _ u h _ _ _ hP hS (lv_sub hl [1, 3, 4] rfl)
  have B_95 : ∀ (x1 : Int32) (x2 : Int32) (x4 : Int32) (u : Wo), fX6_askedComes_95 x1 x2 x4 u = some (rf, uf) → J p l e (rmk 3 72) s m args below meth c dC dI (WM ad cI) (AF ad 9) (MQ below (QV dC dI cI (WM ad cI) (AF ad 9) uf) args s 0 0 (AF ad 9)) u 95 7 [(0, .ref (ad 0)), (1, .int x1), (2, .int x2), (4, .int x4)] [] := by
    intro x1 x2 x4 u h H locs ls hP hS hl
    unfold fX6_askedComes_95 at h
    refine lv_iconst (v := (0 : Int32)) S.1 S.2.1 dX6_askedComes_95 (by decide) ?_
    exact B_96 _ _ _ _ u h _ _ _ hP hS (lv_sub hl [0, 1, 2, 3] rfl)
  have B_91 : ∀ (x1 : Int32) (x2 : Int32) (x4 : Int32) (u : Wo), fX6_askedComes_91 x1 x2 x4 u = some (rf, uf) → J p l e (rmk 3 72) s m args below meth c dC dI (WM ad cI) (AF ad 9) (MQ below (QV dC dI cI (WM ad cI) (AF ad 9) uf) args s 0 0 (AF ad 9)) u 91 7 [(0, .ref (ad 0)), (1, .int x1), (2, .int x2), (4, .int x4)] [] := by
    intro x1 x2 x4 u h H locs ls hP hS hl
    unfold fX6_askedComes_91 at h
    refine lv_iconst (v := (1 : Int32)) S.1 S.2.1 dX6_askedComes_91 (by decide) ?_
    refine lv_goto (tgt := 96) S.1 S.2.1 dX6_askedComes_92 (by decide) ?_
    exact B_96 _ _ _ _ u h _ _ _ hP hS (lv_sub hl [0, 1, 2, 3] rfl)
  have B_58 : ∀ (x1 : Int32) (x2 : Int32) (x3 : Int32) (x4 : Int32) (x5 : Int32) (s1 : Int32) (s2 : Int32) (u : Wo), fX6_askedComes_58 x1 x2 x3 x4 x5 s1 s2 u = some (rf, uf) → J p l e (rmk 3 72) s m args below meth c dC dI (WM ad cI) (AF ad 9) (MQ below (QV dC dI cI (WM ad cI) (AF ad 9) uf) args s 0 0 (AF ad 9)) u 58 7 [(0, .ref (ad 0)), (1, .int x1), (2, .int x2), (3, .int x3), (4, .int x4), (5, .int x5)] [.int s2, .int s1, .ref (ad 2)] := by
    intro x1 x2 x3 x4 x5 s1 s2 u h H locs ls hP hS hl
    unfold fX6_askedComes_58 at h
    refine lv_iconst (v := (1 : Int32)) S.1 S.2.1 dX6_askedComes_58 (by decide) ?_
    refine lv_iadd S.1 S.2.1 dX6_askedComes_59 ?_
    obtain ⟨q28, h⟩ := gi_some h
    obtain ⟨u29, hu29, h⟩ := bw_some h
    refine tM_2 S hK hap hP hS q28 dX6_askedComes_60 hu29 (fun H locs hP hS => ?_)
    refine lv_aload_n S.1 S.2.1 dX6_askedComes_61 rfl (lv_at hl 0 rfl) ?_
    refine gM_0_st S hK hP wf_X6_17 dX6_askedComes_62 ?_
    refine lv_iload S.1 S.2.1 dX6_askedComes_65 (lv_at hl 4 rfl) ?_
    refine lv_iconst (v := (0 : Int32)) S.1 S.2.1 dX6_askedComes_67 (by decide) ?_
    refine lv_iadd S.1 S.2.1 dX6_askedComes_68 ?_
    obtain ⟨q30, h⟩ := gi_some h
    refine lM_2 S hK hP q30 dX6_askedComes_69 ?_
    refine lv_iconst (v := (1 : Int32)) S.1 S.2.1 dX6_askedComes_70 (by decide) ?_
    refine lv_icmp_ne (tgt := 95) S.1 S.2.1 dX6_askedComes_71 (by decide) (fun c31 => ?_) (fun c31 => ?_)
    · rw [if_neg c31] at h
      exact B_95 _ _ _ u29 h _ _ _ hP hS (lv_sub hl [0, 1, 2, 4] rfl)
    · rw [if_pos c31] at h
      refine lv_iload S.1 S.2.1 dX6_askedComes_74 (lv_at hl 5 rfl) ?_
      refine lv_iload_n S.1 S.2.1 dX6_askedComes_76 rfl (lv_at hl 3 rfl) ?_
      refine lv_icmp_lt (tgt := 91) S.1 S.2.1 dX6_askedComes_77 (by decide) (fun c41 => ?_) (fun c41 => ?_)
      · rw [if_pos c41] at h
        exact B_91 _ _ _ u29 h _ _ _ hP hS (lv_sub hl [0, 1, 2, 4] rfl)
      · rw [if_neg c41] at h
        refine lv_iload S.1 S.2.1 dX6_askedComes_80 (lv_at hl 5 rfl) ?_
        refine lv_iload_n S.1 S.2.1 dX6_askedComes_82 rfl (lv_at hl 3 rfl) ?_
        refine lv_icmp_ne (tgt := 95) S.1 S.2.1 dX6_askedComes_83 (by decide) (fun c42 => ?_) (fun c42 => ?_)
        · rw [if_neg c42] at h
          exact B_95 _ _ _ u29 h _ _ _ hP hS (lv_sub hl [0, 1, 2, 4] rfl)
        · rw [if_pos c42] at h
          refine lv_iload_n S.1 S.2.1 dX6_askedComes_86 rfl (lv_at hl 1 rfl) ?_
          refine lv_iload_n S.1 S.2.1 dX6_askedComes_87 rfl (lv_at hl 2 rfl) ?_
          refine lv_icmp_ge (tgt := 95) S.1 S.2.1 dX6_askedComes_88 (by decide) (fun c43 => ?_) (fun c43 => ?_)
          · rw [if_pos c43] at h
            exact B_95 _ _ _ u29 h _ _ _ hP hS (lv_sub hl [0, 1, 2, 4] rfl)
          · rw [if_neg c43] at h
            exact B_91 _ _ _ u29 h _ _ _ hP hS (lv_sub hl [0, 1, 2, 4] rfl)
  intro H locs ls hP hS hl
  have hl : lv_has ls 7 [(0, .ref (ad 0)), (1, .int x1), (2, .int x2), (3, .int x3)] := hl
  unfold fX6_askedComes at h
  refine lv_bipush (v := (21 : Int32)) S.1 S.2.1 dX6_askedComes_0 (by decide) ?_
  refine lv_iload_n S.1 S.2.1 dX6_askedComes_2 rfl (lv_at hl 1 rfl) ?_
  refine lv_imul S.1 S.2.1 dX6_askedComes_3 ?_
  refine lv_istore (lv' := [(4, .int ((21 : Int32) * x1)), (0, .ref (ad 0)), (1, .int x1), (2, .int x2), (3, .int x3)]) S.1 S.2.1 dX6_askedComes_4 hl (by decide) rfl (fun ls hl => ?_)
  refine lv_aload_n S.1 S.2.1 dX6_askedComes_6 rfl (lv_at hl 1 rfl) ?_
  refine gM_0_way S hK hP wf_X6_66 dX6_askedComes_7 ?_
  refine lv_if_ne (tgt := 145) S.1 S.2.1 dX6_askedComes_10 (by decide) (fun c1 => ?_) (fun c1 => ?_)
  · rw [if_neg c1] at h
    refine lv_aload_n S.1 S.2.1 dX6_askedComes_145 rfl (lv_at hl 1 rfl) ?_
    refine gM_0_way S hK hP wf_X6_66 dX6_askedComes_146 ?_
    refine lv_iconst (v := (1 : Int32)) S.1 S.2.1 dX6_askedComes_149 (by decide) ?_
    refine lv_icmp_ne (tgt := 244) S.1 S.2.1 dX6_askedComes_150 (by decide) (fun c2 => ?_) (fun c2 => ?_)
    · rw [if_neg c2] at h
      refine lv_aload_n S.1 S.2.1 dX6_askedComes_244 rfl (lv_at hl 1 rfl) ?_
      refine lv_iload_n S.1 S.2.1 dX6_askedComes_245 rfl (lv_at hl 2 rfl) ?_
      refine lv_iload_n S.1 S.2.1 dX6_askedComes_246 rfl (lv_at hl 3 rfl) ?_
      obtain ⟨r4, u5, q3, h⟩ := bd_some h
      refine x_vv (Wf := WM ad cI) (q0 := 0) (ci := 6) (As := [.int x1, .int x2]) (rest := []) S hK hP hS (k_X6_queue hap q3) rfl rfl wl_X6_92 wi_X6_queue ws_X6_queue wz_X6 wc_X6_queue hy_X6_queue ⟨Nat.le_of_ble_eq_true rfl, Nat.le_of_ble_eq_true rfl⟩ hl.1 rfl (Nat.le_of_ble_eq_true rfl) dX6_askedComes_247 (fun H locs hP hS => ?_)
      refine lv_aload_n S.1 S.2.1 dX6_askedComes_250 rfl (lv_at hl 1 rfl) ?_
      refine lv_iload_n S.1 S.2.1 dX6_askedComes_251 rfl (lv_at hl 2 rfl) ?_
      obtain ⟨r7, u8, q6, h⟩ := bd_some h
      refine x_vv (Wf := WM ad cI) (q0 := 0) (ci := 6) (As := [.int x1]) (rest := []) S hK hP hS (k_X6_rules hap q6) rfl rfl wl_X6_95 wi_X6_rules ws_X6_rules wz_X6 wc_X6_rules hy_X6_rules ⟨Nat.le_of_ble_eq_true rfl, Nat.le_of_ble_eq_true rfl⟩ hl.1 rfl (Nat.le_of_ble_eq_true rfl) dX6_askedComes_252 (fun H locs hP hS => ?_)
      exact B_255 u8 h _ _ _ hP hS (lv_sub hl [] rfl)
    · rw [if_pos c2] at h
      refine lv_iload S.1 S.2.1 dX6_askedComes_153 (lv_at hl 0 rfl) ?_
      refine lv_bipush (v := (14 : Int32)) S.1 S.2.1 dX6_askedComes_155 (by decide) ?_
      refine lv_iadd S.1 S.2.1 dX6_askedComes_157 ?_
      refine lv_iload_n S.1 S.2.1 dX6_askedComes_158 rfl (lv_at hl 3 rfl) ?_
      refine lv_iadd S.1 S.2.1 dX6_askedComes_159 ?_
      refine lv_istore (lv' := [(5, .int ((((21 : Int32) * x1) + (14 : Int32)) + x2)), (4, .int ((21 : Int32) * x1)), (0, .ref (ad 0)), (1, .int x1), (2, .int x2), (3, .int x3)]) S.1 S.2.1 dX6_askedComes_160 hl (by decide) rfl (fun ls hl => ?_)
      refine lv_aload_n S.1 S.2.1 dX6_askedComes_162 rfl (lv_at hl 2 rfl) ?_
      refine gM_0_st S hK hP wf_X6_17 dX6_askedComes_163 ?_
      refine lv_iload S.1 S.2.1 dX6_askedComes_166 (lv_at hl 0 rfl) ?_
      refine lv_aload_n S.1 S.2.1 dX6_askedComes_168 rfl (lv_at hl 2 rfl) ?_
      refine gM_0_st S hK hP wf_X6_17 dX6_askedComes_169 ?_
      refine lv_iload S.1 S.2.1 dX6_askedComes_172 (lv_at hl 0 rfl) ?_
      obtain ⟨q9, h⟩ := gi_some h
      refine lM_2 S hK hP q9 dX6_askedComes_174 ?_
      refine lv_iload_n S.1 S.2.1 dX6_askedComes_175 rfl (lv_at hl 5 rfl) ?_
      refine lv_icmp_le (tgt := 189) S.1 S.2.1 dX6_askedComes_176 (by decide) (fun c10 => ?_) (fun c10 => ?_)
      · rw [if_pos c10] at h
        refine lv_iload_n S.1 S.2.1 dX6_askedComes_189 rfl (lv_at hl 5 rfl) ?_
        exact B_190 _ _ _ _ _ _ u h _ _ _ hP hS (lv_sub hl [2, 3, 4, 1, 0] rfl)
      · rw [if_neg c10] at h
        refine lv_aload_n S.1 S.2.1 dX6_askedComes_179 rfl (lv_at hl 2 rfl) ?_
        refine gM_0_st S hK hP wf_X6_17 dX6_askedComes_180 ?_
        refine lv_iload S.1 S.2.1 dX6_askedComes_183 (lv_at hl 0 rfl) ?_
        obtain ⟨q23, h⟩ := gi_some h
        refine lM_2 S hK hP q23 dX6_askedComes_185 ?_
        refine lv_goto (tgt := 190) S.1 S.2.1 dX6_askedComes_186 (by decide) ?_
        exact B_190 _ _ _ _ _ _ u h _ _ _ hP hS (lv_sub hl [2, 3, 4, 1, 0] rfl)
  · rw [if_pos c1] at h
    refine lv_aload_n S.1 S.2.1 dX6_askedComes_13 rfl (lv_at hl 1 rfl) ?_
    refine gM_0_st S hK hP wf_X6_17 dX6_askedComes_14 ?_
    refine lv_iload S.1 S.2.1 dX6_askedComes_17 (lv_at hl 0 rfl) ?_
    refine lv_iconst (v := (2 : Int32)) S.1 S.2.1 dX6_askedComes_19 (by decide) ?_
    refine lv_iadd S.1 S.2.1 dX6_askedComes_20 ?_
    obtain ⟨q24, h⟩ := gi_some h
    refine lM_2 S hK hP q24 dX6_askedComes_21 ?_
    obtain ⟨y25, hy25, h⟩ := bn_some h
    rw [hy25]
    refine lv_istore (lv' := [(5, .int y25), (4, .int ((21 : Int32) * x1)), (0, .ref (ad 0)), (1, .int x1), (2, .int x2), (3, .int x3)]) S.1 S.2.1 dX6_askedComes_22 hl (by decide) rfl (fun ls hl => ?_)
    refine lv_aload_n S.1 S.2.1 dX6_askedComes_24 rfl (lv_at hl 2 rfl) ?_
    refine gM_0_st S hK hP wf_X6_17 dX6_askedComes_25 ?_
    refine lv_iload S.1 S.2.1 dX6_askedComes_28 (lv_at hl 1 rfl) ?_
    refine lv_iconst (v := (1 : Int32)) S.1 S.2.1 dX6_askedComes_30 (by decide) ?_
    refine lv_iadd S.1 S.2.1 dX6_askedComes_31 ?_
    refine lv_aload_n S.1 S.2.1 dX6_askedComes_32 rfl (lv_at hl 2 rfl) ?_
    refine gM_0_st S hK hP wf_X6_17 dX6_askedComes_33 ?_
    refine lv_iload S.1 S.2.1 dX6_askedComes_36 (lv_at hl 1 rfl) ?_
    refine lv_iconst (v := (1 : Int32)) S.1 S.2.1 dX6_askedComes_38 (by decide) ?_
    refine lv_iadd S.1 S.2.1 dX6_askedComes_39 ?_
    obtain ⟨q26, h⟩ := gi_some h
    refine lM_2 S hK hP q26 dX6_askedComes_40 ?_
    refine lv_iload_n S.1 S.2.1 dX6_askedComes_41 rfl (lv_at hl 5 rfl) ?_
    refine lv_icmp_le (tgt := 57) S.1 S.2.1 dX6_askedComes_42 (by decide) (fun c27 => ?_) (fun c27 => ?_)
    · rw [if_pos c27] at h
      refine lv_iload_n S.1 S.2.1 dX6_askedComes_57 rfl (lv_at hl 5 rfl) ?_
      exact B_58 _ _ _ _ _ _ _ u h _ _ _ hP hS (lv_sub hl [2, 3, 4, 5, 1, 0] rfl)
    · rw [if_neg c27] at h
      refine lv_aload_n S.1 S.2.1 dX6_askedComes_45 rfl (lv_at hl 2 rfl) ?_
      refine gM_0_st S hK hP wf_X6_17 dX6_askedComes_46 ?_
      refine lv_iload S.1 S.2.1 dX6_askedComes_49 (lv_at hl 1 rfl) ?_
      refine lv_iconst (v := (1 : Int32)) S.1 S.2.1 dX6_askedComes_51 (by decide) ?_
      refine lv_iadd S.1 S.2.1 dX6_askedComes_52 ?_
      obtain ⟨q44, h⟩ := gi_some h
      refine lM_2 S hK hP q44 dX6_askedComes_53 ?_
      refine lv_goto (tgt := 58) S.1 S.2.1 dX6_askedComes_54 (by decide) ?_
      exact B_58 _ _ _ _ _ _ _ u h _ _ _ hP hS (lv_sub hl [2, 3, 4, 5, 1, 0] rfl)
theorem hy_X6_comes : yX6_comes.cls ≠ "java/lang/invoke/MethodHandle" ∧ yX6_comes.cls ≠ "java/lang/invoke/VarHandle" ∧ (parseMethodDescriptor yX6_comes.desc).map (fun d => d.parameters.length) = some 2 := by decide +kernel
set_option maxHeartbeats 4000000 in
set_option maxRecDepth 100000 in
theorem k_X6_comes {l : Launch} {dC : Nat → ClassId} {dI : Nat → Nat → Nat} {ad : Nat → Nat} {cI : ClassId} (hap : AP ad 9) {x1 x2 : Int32} {u uf : Wo} {rf : Int32} (h : fX6_comes x1 x2 u = some (rf, uf)) : CI l dC dI cI (WM ad cI) (AF ad 9) yX6_comes cX6_comes 7 (some .int) 4 98 [.ref (ad 0), .int x1, .int x2] u rf uf := by
  refine ci_begin (by decide) (Nat.le_of_ble_eq_true rfl) ?_
  intro p e s m args below meth c S hr hlk hK
  have B_132 : ∀ (x4 : Int32) (u : Wo), fX6_comes_132 x4 u = some (rf, uf) → J p l e (rmk 4 98) s m args below meth c dC dI (WM ad cI) (AF ad 9) (MQ below (QI dC dI cI (WM ad cI) (AF ad 9) rf uf) args s 0 0 (AF ad 9)) u 132 7 [(4, .int x4)] [] := by
    intro x4 u h H locs ls hP hS hl
    unfold fX6_comes_132 at h
    refine lv_iload S.1 S.2.1 dX6_comes_132 (lv_at hl 0 rfl) ?_
    exact x_iret S hr hlk hK hP hS h dX6_comes_134
  intro H locs ls hP hS hl
  have hl : lv_has ls 7 [(0, .ref (ad 0)), (1, .int x1), (2, .int x2)] := hl
  unfold fX6_comes at h
  refine lv_aload_n S.1 S.2.1 dX6_comes_0 rfl (lv_at hl 0 rfl) ?_
  refine lv_iload_n S.1 S.2.1 dX6_comes_1 rfl (lv_at hl 1 rfl) ?_
  refine lv_iload_n S.1 S.2.1 dX6_comes_2 rfl (lv_at hl 2 rfl) ?_
  obtain ⟨r2, u3, q1, h⟩ := bd_some h
  refine x_vi (Wf := WM ad cI) (q0 := 0) (ci := 6) (As := [.int x1, .int x2]) (rest := []) S hK hP hS (k_X6_pairAt hap q1) rfl rfl wl_X6_69 wi_X6_pairAt ws_X6_pairAt wz_X6 wc_X6_pairAt hy_X6_pairAt ⟨Nat.le_of_ble_eq_true rfl, Nat.le_of_ble_eq_true rfl⟩ hl.1 rfl (Nat.le_of_ble_eq_true rfl) dX6_comes_3 (fun H locs hP hS => ?_)
  refine lv_istore_n (lv' := [(3, .int r2), (0, .ref (ad 0)), (1, .int x1), (2, .int x2)]) S.1 S.2.1 dX6_comes_6 rfl hl (by decide) rfl (fun ls hl => ?_)
  refine lv_aload_n S.1 S.2.1 dX6_comes_7 rfl (lv_at hl 1 rfl) ?_
  refine gM_0_st S hK hP wf_X6_17 dX6_comes_8 ?_
  refine lv_iload_n S.1 S.2.1 dX6_comes_11 rfl (lv_at hl 0 rfl) ?_
  refine lv_iconst (v := (1 : Int32)) S.1 S.2.1 dX6_comes_12 (by decide) ?_
  refine lv_iadd S.1 S.2.1 dX6_comes_13 ?_
  obtain ⟨q4, h⟩ := gi_some h
  refine lM_2 S hK hP q4 dX6_comes_14 ?_
  refine lv_istore (lv' := [(4, .int (u3 2 ((r2 + (1 : Int32))).toNatClampNeg)), (3, .int r2), (0, .ref (ad 0)), (1, .int x1), (2, .int x2)]) S.1 S.2.1 dX6_comes_15 hl (by decide) rfl (fun ls hl => ?_)
  refine lv_aload_n S.1 S.2.1 dX6_comes_17 rfl (lv_at hl 2 rfl) ?_
  refine gM_0_st S hK hP wf_X6_17 dX6_comes_18 ?_
  refine lv_iload_n S.1 S.2.1 dX6_comes_21 rfl (lv_at hl 1 rfl) ?_
  refine lv_iconst (v := (2 : Int32)) S.1 S.2.1 dX6_comes_22 (by decide) ?_
  refine lv_iadd S.1 S.2.1 dX6_comes_23 ?_
  obtain ⟨q5, h⟩ := gi_some h
  refine lM_2 S hK hP q5 dX6_comes_24 ?_
  refine lv_istore (lv' := [(5, .int (u3 2 ((r2 + (2 : Int32))).toNatClampNeg)), (4, .int (u3 2 ((r2 + (1 : Int32))).toNatClampNeg)), (3, .int r2), (0, .ref (ad 0)), (1, .int x1), (2, .int x2)]) S.1 S.2.1 dX6_comes_25 hl (by decide) rfl (fun ls hl => ?_)
  refine lv_aload_n S.1 S.2.1 dX6_comes_27 rfl (lv_at hl 3 rfl) ?_
  refine lv_iload_n S.1 S.2.1 dX6_comes_28 rfl (lv_at hl 2 rfl) ?_
  obtain ⟨r7, u8, q6, h⟩ := bd_some h
  refine x_vv (Wf := WM ad cI) (q0 := 0) (ci := 6) (As := [.int r2]) (rest := []) S hK hP hS (k_X6_dropEldest hap q6) rfl rfl wl_X6_105 wi_X6_dropEldest ws_X6_dropEldest wz_X6 wc_X6_dropEldest hy_X6_dropEldest ⟨Nat.le_of_ble_eq_true rfl, Nat.le_of_ble_eq_true rfl⟩ hl.1 rfl (Nat.le_of_ble_eq_true rfl) dX6_comes_29 (fun H locs hP hS => ?_)
  refine lv_bipush (v := (21 : Int32)) S.1 S.2.1 dX6_comes_32 (by decide) ?_
  refine lv_iload_n S.1 S.2.1 dX6_comes_34 rfl (lv_at hl 5 rfl) ?_
  refine lv_imul S.1 S.2.1 dX6_comes_35 ?_
  refine lv_istore (lv' := [(6, .int ((21 : Int32) * x2)), (5, .int (u3 2 ((r2 + (2 : Int32))).toNatClampNeg)), (4, .int (u3 2 ((r2 + (1 : Int32))).toNatClampNeg)), (3, .int r2), (0, .ref (ad 0)), (1, .int x1), (2, .int x2)]) S.1 S.2.1 dX6_comes_36 hl (by decide) rfl (fun ls hl => ?_)
  refine lv_iload S.1 S.2.1 dX6_comes_38 (lv_at hl 2 rfl) ?_
  refine lv_if_ne (tgt := 54) S.1 S.2.1 dX6_comes_40 (by decide) (fun c9 => ?_) (fun c9 => ?_)
  · rw [if_neg c9] at h
    refine lv_iload S.1 S.2.1 dX6_comes_54 (lv_at hl 2 rfl) ?_
    refine lv_iconst (v := (1 : Int32)) S.1 S.2.1 dX6_comes_56 (by decide) ?_
    refine lv_icmp_ne (tgt := 93) S.1 S.2.1 dX6_comes_57 (by decide) (fun c10 => ?_) (fun c10 => ?_)
    · rw [if_neg c10] at h
      refine lv_aload_n S.1 S.2.1 dX6_comes_93 rfl (lv_at hl 4 rfl) ?_
      refine gM_0_way S hK hP wf_X6_66 dX6_comes_94 ?_
      refine lv_iconst (v := (1 : Int32)) S.1 S.2.1 dX6_comes_97 (by decide) ?_
      refine lv_icmp_ne (tgt := 117) S.1 S.2.1 dX6_comes_98 (by decide) (fun c11 => ?_) (fun c11 => ?_)
      · rw [if_neg c11] at h
        refine lv_aload_n S.1 S.2.1 dX6_comes_117 rfl (lv_at hl 4 rfl) ?_
        refine gM_0_st S hK hP wf_X6_17 dX6_comes_118 ?_
        refine lv_iload S.1 S.2.1 dX6_comes_121 (lv_at hl 0 rfl) ?_
        refine lv_iconst (v := (5 : Int32)) S.1 S.2.1 dX6_comes_123 (by decide) ?_
        refine lv_iadd S.1 S.2.1 dX6_comes_124 ?_
        refine lv_iload_n S.1 S.2.1 dX6_comes_125 rfl (lv_at hl 6 rfl) ?_
        obtain ⟨q12, h⟩ := gi_some h
        obtain ⟨u13, hu13, h⟩ := bw_some h
        refine tM_2 S hK hap hP hS q12 dX6_comes_126 hu13 (fun H locs hP hS => ?_)
        refine lv_aload_n S.1 S.2.1 dX6_comes_127 rfl (lv_at hl 4 rfl) ?_
        refine lv_iload_n S.1 S.2.1 dX6_comes_128 rfl (lv_at hl 6 rfl) ?_
        obtain ⟨r15, u16, q14, h⟩ := bd_some h
        refine x_vv (Wf := WM ad cI) (q0 := 0) (ci := 6) (As := [.int x2]) (rest := []) S hK hP hS (k_X6_rules hap q14) rfl rfl wl_X6_95 wi_X6_rules ws_X6_rules wz_X6 wc_X6_rules hy_X6_rules ⟨Nat.le_of_ble_eq_true rfl, Nat.le_of_ble_eq_true rfl⟩ hl.1 rfl (Nat.le_of_ble_eq_true rfl) dX6_comes_129 (fun H locs hP hS => ?_)
        exact B_132 _ u16 h _ _ _ hP hS (lv_sub hl [2] rfl)
      · rw [if_pos c11] at h
        refine lv_aload_n S.1 S.2.1 dX6_comes_101 rfl (lv_at hl 4 rfl) ?_
        refine gM_0_st S hK hP wf_X6_17 dX6_comes_102 ?_
        refine lv_bipush (v := (126 : Int32)) S.1 S.2.1 dX6_comes_105 (by decide) ?_
        refine lv_iload_n S.1 S.2.1 dX6_comes_107 rfl (lv_at hl 6 rfl) ?_
        obtain ⟨q17, h⟩ := gi_some h
        obtain ⟨u18, hu18, h⟩ := bw_some h
        refine tM_2 S hK hap hP hS q17 dX6_comes_108 hu18 (fun H locs hP hS => ?_)
        refine lv_aload_n S.1 S.2.1 dX6_comes_109 rfl (lv_at hl 4 rfl) ?_
        refine lv_iload_n S.1 S.2.1 dX6_comes_110 rfl (lv_at hl 6 rfl) ?_
        obtain ⟨r20, u21, q19, h⟩ := bd_some h
        refine x_vv (Wf := WM ad cI) (q0 := 0) (ci := 6) (As := [.int x2]) (rest := []) S hK hP hS (k_X6_comesIn hap q19) rfl rfl wl_X6_84 wi_X6_comesIn ws_X6_comesIn wz_X6 wc_X6_comesIn hy_X6_comesIn ⟨Nat.le_of_ble_eq_true rfl, Nat.le_of_ble_eq_true rfl⟩ hl.1 rfl (Nat.le_of_ble_eq_true rfl) dX6_comes_111 (fun H locs hP hS => ?_)
        refine lv_goto (tgt := 132) S.1 S.2.1 dX6_comes_114 (by decide) ?_
        exact B_132 _ u21 h _ _ _ hP hS (lv_sub hl [2] rfl)
    · rw [if_pos c10] at h
      refine lv_aload_n S.1 S.2.1 dX6_comes_60 rfl (lv_at hl 4 rfl) ?_
      refine gM_0_st S hK hP wf_X6_17 dX6_comes_61 ?_
      refine lv_iload S.1 S.2.1 dX6_comes_64 (lv_at hl 0 rfl) ?_
      refine lv_iconst (v := (3 : Int32)) S.1 S.2.1 dX6_comes_66 (by decide) ?_
      refine lv_iadd S.1 S.2.1 dX6_comes_67 ?_
      refine lv_dup2_11 S.1 S.2.1 dX6_comes_68 rfl rfl ?_
      obtain ⟨q22, h⟩ := gi_some h
      refine lM_2 S hK hP q22 dX6_comes_69 ?_
      refine lv_iconst (v := (1 : Int32)) S.1 S.2.1 dX6_comes_70 (by decide) ?_
      refine lv_isub S.1 S.2.1 dX6_comes_71 ?_
      obtain ⟨q23, h⟩ := gi_some h
      obtain ⟨u24, hu24, h⟩ := bw_some h
      refine tM_2 S hK hap hP hS q23 dX6_comes_72 hu24 (fun H locs hP hS => ?_)
      refine lv_aload_n S.1 S.2.1 dX6_comes_73 rfl (lv_at hl 4 rfl) ?_
      refine gM_0_st S hK hP wf_X6_17 dX6_comes_74 ?_
      refine lv_iload S.1 S.2.1 dX6_comes_77 (lv_at hl 0 rfl) ?_
      refine lv_iconst (v := (3 : Int32)) S.1 S.2.1 dX6_comes_79 (by decide) ?_
      refine lv_iadd S.1 S.2.1 dX6_comes_80 ?_
      obtain ⟨q25, h⟩ := gi_some h
      refine lM_2 S hK hP q25 dX6_comes_81 ?_
      refine lv_if_ne (tgt := 132) S.1 S.2.1 dX6_comes_82 (by decide) (fun c26 => ?_) (fun c26 => ?_)
      · rw [if_neg c26] at h
        exact B_132 _ u24 h _ _ _ hP hS (lv_sub hl [2] rfl)
      · rw [if_pos c26] at h
        refine lv_aload_n S.1 S.2.1 dX6_comes_85 rfl (lv_at hl 4 rfl) ?_
        refine lv_iload_n S.1 S.2.1 dX6_comes_86 rfl (lv_at hl 6 rfl) ?_
        obtain ⟨r28, u29, q27, h⟩ := bd_some h
        refine x_vv (Wf := WM ad cI) (q0 := 0) (ci := 6) (As := [.int x2]) (rest := []) S hK hP hS (k_X6_comesIn hap q27) rfl rfl wl_X6_84 wi_X6_comesIn ws_X6_comesIn wz_X6 wc_X6_comesIn hy_X6_comesIn ⟨Nat.le_of_ble_eq_true rfl, Nat.le_of_ble_eq_true rfl⟩ hl.1 rfl (Nat.le_of_ble_eq_true rfl) dX6_comes_87 (fun H locs hP hS => ?_)
        refine lv_goto (tgt := 132) S.1 S.2.1 dX6_comes_90 (by decide) ?_
        exact B_132 _ u29 h _ _ _ hP hS (lv_sub hl [2] rfl)
  · rw [if_pos c9] at h
    refine lv_aload_n S.1 S.2.1 dX6_comes_43 rfl (lv_at hl 4 rfl) ?_
    refine lv_iload_n S.1 S.2.1 dX6_comes_44 rfl (lv_at hl 6 rfl) ?_
    refine lv_iload_n S.1 S.2.1 dX6_comes_45 rfl (lv_at hl 5 rfl) ?_
    refine lv_iload S.1 S.2.1 dX6_comes_46 (lv_at hl 1 rfl) ?_
    obtain ⟨r31, u32, q30, h⟩ := bd_some h
    refine x_vv (Wf := WM ad cI) (q0 := 0) (ci := 6) (As := [.int x2, .int x1, .int (u3 2 ((r2 + (2 : Int32))).toNatClampNeg)]) (rest := []) S hK hP hS (k_X6_askedComes hap q30) rfl rfl wl_X6_108 wi_X6_askedComes ws_X6_askedComes wz_X6 wc_X6_askedComes hy_X6_askedComes ⟨Nat.le_of_ble_eq_true rfl, Nat.le_of_ble_eq_true rfl⟩ hl.1 rfl (Nat.le_of_ble_eq_true rfl) dX6_comes_48 (fun H locs hP hS => ?_)
    refine lv_goto (tgt := 132) S.1 S.2.1 dX6_comes_51 (by decide) ?_
    exact B_132 _ u32 h _ _ _ hP hS (lv_sub hl [2] rfl)
theorem hy_X6_come : yX6_come.cls ≠ "java/lang/invoke/MethodHandle" ∧ yX6_come.cls ≠ "java/lang/invoke/VarHandle" ∧ (parseMethodDescriptor yX6_come.desc).map (fun d => d.parameters.length) = some 2 := by decide +kernel
set_option maxHeartbeats 4000000 in
set_option maxRecDepth 100000 in
theorem k_X6_come {l : Launch} {dC : Nat → ClassId} {dI : Nat → Nat → Nat} {ad : Nat → Nat} {cI : ClassId} (hap : AP ad 9) {x1 x2 : Int32} {u uf : Wo} {rf : Int32} (h : fX6_come x1 x2 u = some (rf, uf)) : CI l dC dI cI (WM ad cI) (AF ad 9) yX6_come cX6_come 4 (some .int) 5 124 [.ref (ad 0), .int x1, .int x2] u rf uf := by
  refine ci_begin (by decide) (Nat.le_of_ble_eq_true rfl) ?_
  intro p e s m args below meth c S hr hlk hK
  have B_21 : ∀ (u : Wo), fX6_come_21 u = some (rf, uf) → J p l e (rmk 5 124) s m args below meth c dC dI (WM ad cI) (AF ad 9) (MQ below (QI dC dI cI (WM ad cI) (AF ad 9) rf uf) args s 0 0 (AF ad 9)) u 21 4 [] [] := by
    intro u h H locs ls hP hS hl
    unfold fX6_come_21 at h
    refine lv_iconst (v := (-1 : Int32)) S.1 S.2.1 dX6_come_21 (by decide) ?_
    exact x_iret S hr hlk hK hP hS h dX6_come_22
  have B_64 : ∀ (s0 : Int32) (u : Wo), fX6_come_64 s0 u = some (rf, uf) → J p l e (rmk 5 124) s m args below meth c dC dI (WM ad cI) (AF ad 9) (MQ below (QI dC dI cI (WM ad cI) (AF ad 9) rf uf) args s 0 0 (AF ad 9)) u 64 4 [] [.int s0] := by
    intro s0 u h H locs ls hP hS hl
    unfold fX6_come_64 at h
    exact x_iret S hr hlk hK hP hS h dX6_come_64
  intro H locs ls hP hS hl
  have hl : lv_has ls 4 [(0, .ref (ad 0)), (1, .int x1), (2, .int x2)] := hl
  unfold fX6_come at h
  refine lv_aload_n S.1 S.2.1 dX6_come_0 rfl (lv_at hl 0 rfl) ?_
  refine lv_iload_n S.1 S.2.1 dX6_come_1 rfl (lv_at hl 1 rfl) ?_
  obtain ⟨r2, u3, q1, h⟩ := bd_some h
  refine x_vi (Wf := WM ad cI) (q0 := 0) (ci := 6) (As := [.int x1]) (rest := []) S hK hP hS (k_X6_isKeeper hap q1) rfl rfl wl_X6_113 wi_X6_isKeeper ws_X6_isKeeper wz_X6 wc_X6_isKeeper hy_X6_isKeeper ⟨Nat.le_of_ble_eq_true rfl, Nat.le_of_ble_eq_true rfl⟩ hl.1 rfl (Nat.le_of_ble_eq_true rfl) dX6_come_2 (fun H locs hP hS => ?_)
  refine lv_if_eq (tgt := 21) S.1 S.2.1 dX6_come_5 (by decide) (fun c4 => ?_) (fun c4 => ?_)
  · rw [if_pos c4] at h
    exact B_21 u3 h _ _ _ hP hS (lv_sub hl [] rfl)
  · rw [if_neg c4] at h
    refine lv_aload_n S.1 S.2.1 dX6_come_8 rfl (lv_at hl 0 rfl) ?_
    refine lv_iload_n S.1 S.2.1 dX6_come_9 rfl (lv_at hl 2 rfl) ?_
    obtain ⟨r6, u7, q5, h⟩ := bd_some h
    refine x_vi (Wf := WM ad cI) (q0 := 0) (ci := 6) (As := [.int x2]) (rest := []) S hK hP hS (k_X6_isKeeper hap q5) rfl rfl wl_X6_113 wi_X6_isKeeper ws_X6_isKeeper wz_X6 wc_X6_isKeeper hy_X6_isKeeper ⟨Nat.le_of_ble_eq_true rfl, Nat.le_of_ble_eq_true rfl⟩ hl.1 rfl (Nat.le_of_ble_eq_true rfl) dX6_come_10 (fun H locs hP hS => ?_)
    refine lv_if_eq (tgt := 21) S.1 S.2.1 dX6_come_13 (by decide) (fun c8 => ?_) (fun c8 => ?_)
    · rw [if_pos c8] at h
      exact B_21 u7 h _ _ _ hP hS (lv_sub hl [] rfl)
    · rw [if_neg c8] at h
      refine lv_iload_n S.1 S.2.1 dX6_come_16 rfl (lv_at hl 1 rfl) ?_
      refine lv_iload_n S.1 S.2.1 dX6_come_17 rfl (lv_at hl 2 rfl) ?_
      refine lv_icmp_ne (tgt := 23) S.1 S.2.1 dX6_come_18 (by decide) (fun c9 => ?_) (fun c9 => ?_)
      · rw [if_neg c9] at h
        refine lv_aload_n S.1 S.2.1 dX6_come_23 rfl (lv_at hl 0 rfl) ?_
        refine gM_0_st S hK hP wf_X6_17 dX6_come_24 ?_
        refine lv_aload_n S.1 S.2.1 dX6_come_27 rfl (lv_at hl 0 rfl) ?_
        refine lv_iload_n S.1 S.2.1 dX6_come_28 rfl (lv_at hl 1 rfl) ?_
        refine lv_iload_n S.1 S.2.1 dX6_come_29 rfl (lv_at hl 2 rfl) ?_
        obtain ⟨r11, u12, q10, h⟩ := bd_some h
        refine x_vi (Wf := WM ad cI) (q0 := 0) (ci := 6) (As := [.int x1, .int x2]) (rest := [.ref (ad 2)]) S hK hP hS (k_X6_pairAt hap q10) rfl rfl wl_X6_69 wi_X6_pairAt ws_X6_pairAt wz_X6 wc_X6_pairAt hy_X6_pairAt ⟨Nat.le_of_ble_eq_true rfl, Nat.le_of_ble_eq_true rfl⟩ hl.1 rfl (Nat.le_of_ble_eq_true rfl) dX6_come_30 (fun H locs hP hS => ?_)
        obtain ⟨q13, h⟩ := gi_some h
        refine lM_2 S hK hP q13 dX6_come_33 ?_
        refine lv_if_ne (tgt := 40) S.1 S.2.1 dX6_come_34 (by decide) (fun c14 => ?_) (fun c14 => ?_)
        · rw [if_neg c14] at h
          refine lv_aload_n S.1 S.2.1 dX6_come_40 rfl (lv_at hl 0 rfl) ?_
          obtain ⟨r16, u17, q15, h⟩ := bd_some h
          refine x_vv (Wf := WM ad cI) (q0 := 0) (ci := 6) (As := []) (rest := []) S hK hP hS (k_X6_store hap q15) rfl rfl wl_X6_116 wi_X6_store ws_X6_store wz_X6 wc_X6_store hy_X6_store ⟨Nat.le_of_ble_eq_true rfl, Nat.le_of_ble_eq_true rfl⟩ hl.1 rfl (Nat.le_of_ble_eq_true rfl) dX6_come_41 (fun H locs hP hS => ?_)
          refine lv_aload_n S.1 S.2.1 dX6_come_44 rfl (lv_at hl 0 rfl) ?_
          refine lv_iload_n S.1 S.2.1 dX6_come_45 rfl (lv_at hl 1 rfl) ?_
          refine lv_iload_n S.1 S.2.1 dX6_come_46 rfl (lv_at hl 2 rfl) ?_
          obtain ⟨r19, u20, q18, h⟩ := bd_some h
          refine x_vi (Wf := WM ad cI) (q0 := 0) (ci := 6) (As := [.int x1, .int x2]) (rest := []) S hK hP hS (k_X6_comes hap q18) rfl rfl wl_X6_129 wi_X6_comes ws_X6_comes wz_X6 wc_X6_comes hy_X6_comes ⟨Nat.le_of_ble_eq_true rfl, Nat.le_of_ble_eq_true rfl⟩ hl.1 rfl (Nat.le_of_ble_eq_true rfl) dX6_come_47 (fun H locs hP hS => ?_)
          refine lv_istore_n (lv' := [(3, .int r19), (0, .ref (ad 0)), (1, .int x1), (2, .int x2)]) S.1 S.2.1 dX6_come_50 rfl hl (by decide) rfl (fun ls hl => ?_)
          refine lv_aload_n S.1 S.2.1 dX6_come_51 rfl (lv_at hl 1 rfl) ?_
          obtain ⟨r22, u23, q21, h⟩ := bd_some h
          refine x_vi (Wf := WM ad cI) (q0 := 0) (ci := 6) (As := []) (rest := []) S hK hP hS (k_X6_stands hap q21) rfl rfl wl_X6_122 wi_X6_stands ws_X6_stands wz_X6 wc_X6_stands hy_X6_stands ⟨Nat.le_of_ble_eq_true rfl, Nat.le_of_ble_eq_true rfl⟩ hl.1 rfl (Nat.le_of_ble_eq_true rfl) dX6_come_52 (fun H locs hP hS => ?_)
          refine lv_if_eq (tgt := 62) S.1 S.2.1 dX6_come_55 (by decide) (fun c24 => ?_) (fun c24 => ?_)
          · rw [if_pos c24] at h
            refine lv_bipush (v := (-3 : Int32)) S.1 S.2.1 dX6_come_62 (by decide) ?_
            exact B_64 _ u23 h _ _ _ hP hS (lv_sub hl [] rfl)
          · rw [if_neg c24] at h
            refine lv_iload_n S.1 S.2.1 dX6_come_58 rfl (lv_at hl 0 rfl) ?_
            refine lv_goto (tgt := 64) S.1 S.2.1 dX6_come_59 (by decide) ?_
            exact B_64 _ u23 h _ _ _ hP hS (lv_sub hl [] rfl)
        · rw [if_pos c14] at h
          refine lv_bipush (v := (-2 : Int32)) S.1 S.2.1 dX6_come_37 (by decide) ?_
          exact x_iret S hr hlk hK hP hS h dX6_come_39
      · rw [if_pos c9] at h
        exact B_21 u7 h _ _ _ hP hS (lv_sub hl [] rfl)
theorem hy_X6_pairOf : yX6_pairOf.cls ≠ "java/lang/invoke/MethodHandle" ∧ yX6_pairOf.cls ≠ "java/lang/invoke/VarHandle" ∧ (parseMethodDescriptor yX6_pairOf.desc).map (fun d => d.parameters.length) = some 1 := by decide +kernel
set_option maxHeartbeats 4000000 in
set_option maxRecDepth 100000 in
theorem k_X6_pairOf {l : Launch} {dC : Nat → ClassId} {dI : Nat → Nat → Nat} {ad : Nat → Nat} {cI : ClassId} (hap : AP ad 9) {x1 : Int32} {u uf : Wo} {rf : Int32} (h : fX6_pairOf x1 u = some (rf, uf)) : CI l dC dI cI (WM ad cI) (AF ad 9) yX6_pairOf cX6_pairOf 5 (some .int) 1 22 [.ref (ad 0), .int x1] u rf uf := by
  refine ci_begin (by decide) (Nat.le_of_ble_eq_true rfl) ?_
  intro p e s m args below meth c S hr hlk hK
  have B_55 : ∀ (k15 : Int32 → Int32 → Int32 → Int32 → Wo → Re) (hk15 : ∀ (x1 : Int32) (x2 : Int32) (x3 : Int32) (x4 : Int32) (u : Wo), k15 x1 x2 x3 x4 u = some (rf, uf) → J p l e (rmk 1 22) s m args below meth c dC dI (WM ad cI) (AF ad 9) (MQ below (QI dC dI cI (WM ad cI) (AF ad 9) rf uf) args s 0 0 (AF ad 9)) u 15 5 [(0, .ref (ad 0)), (1, .int x1), (2, .int x2), (3, .int x3), (4, .int x4)] []) (x1 : Int32) (x2 : Int32) (x3 : Int32) (x4 : Int32) (u : Wo), fX6_pairOf_55 k15 x1 x2 x3 x4 u = some (rf, uf) → J p l e (rmk 1 22) s m args below meth c dC dI (WM ad cI) (AF ad 9) (MQ below (QI dC dI cI (WM ad cI) (AF ad 9) rf uf) args s 0 0 (AF ad 9)) u 55 5 [(0, .ref (ad 0)), (1, .int x1), (2, .int x2), (3, .int x3), (4, .int x4)] [] := by
    intro k15 hk15 x1 x2 x3 x4 u h H locs ls hP hS hl
    unfold fX6_pairOf_55 at h
    refine lv_iinc (v := (x4 + (1 : Int32))) (lv' := [(4, .int (x4 + (1 : Int32))), (0, .ref (ad 0)), (1, .int x1), (2, .int x2), (3, .int x3)]) S.1 S.2.1 dX6_pairOf_55 hl (k := 4) rfl rfl (by decide) rfl (fun ls hl => ?_)
    refine lv_goto (tgt := 15) S.1 S.2.1 dX6_pairOf_58 (by decide) ?_
    exact hk15 _ _ _ _ u h _ _ _ hP hS (lv_sub hl [1, 2, 3, 4, 0] rfl)
  have B_15 : ∀ (k44 : Int32 → Int32 → Wo → Re) (hk44 : ∀ (x3 : Int32) (x4 : Int32) (u : Wo), k44 x3 x4 u = some (rf, uf) → J p l e (rmk 1 22) s m args below meth c dC dI (WM ad cI) (AF ad 9) (MQ below (QI dC dI cI (WM ad cI) (AF ad 9) rf uf) args s 0 0 (AF ad 9)) u 44 5 [(3, .int x3), (4, .int x4)] []) (k61 : Int32 → Int32 → Int32 → Wo → Re) (hk61 : ∀ (x1 : Int32) (x2 : Int32) (x3 : Int32) (u : Wo), k61 x1 x2 x3 u = some (rf, uf) → J p l e (rmk 1 22) s m args below meth c dC dI (WM ad cI) (AF ad 9) (MQ below (QI dC dI cI (WM ad cI) (AF ad 9) rf uf) args s 0 0 (AF ad 9)) u 61 5 [(0, .ref (ad 0)), (1, .int x1), (2, .int x2), (3, .int x3)] []) (n : Nat) (x1 : Int32) (x2 : Int32) (x3 : Int32) (x4 : Int32) (u : Wo), fX6_pairOf_15 k44 k61 n x1 x2 x3 x4 u = some (rf, uf) → J p l e (rmk 1 22) s m args below meth c dC dI (WM ad cI) (AF ad 9) (MQ below (QI dC dI cI (WM ad cI) (AF ad 9) rf uf) args s 0 0 (AF ad 9)) u 15 5 [(0, .ref (ad 0)), (1, .int x1), (2, .int x2), (3, .int x3), (4, .int x4)] [] := by
    intro k44 hk44 k61 hk61
    intro n
    induction n with
    | zero => intro x1 x2 x3 x4 u h; cases h
    | succ n ih =>
      intro x1 x2 x3 x4 u h H locs ls hP hS hl
      rw [fX6_pairOf_15.eq_2] at h
      refine lv_iload S.1 S.2.1 dX6_pairOf_15 (lv_at hl 4 rfl) ?_
      refine lv_aload_n S.1 S.2.1 dX6_pairOf_17 rfl (lv_at hl 0 rfl) ?_
      refine gM_0_n S hK hP wf_X6_7 dX6_pairOf_18 ?_
      refine lv_icmp_ge (tgt := 61) S.1 S.2.1 dX6_pairOf_21 (by decide) (fun c2 => ?_) (fun c2 => ?_)
      · rw [if_pos c2] at h
        exact hk61 _ _ _ u h _ _ _ hP hS (lv_sub hl [0, 1, 2, 3] rfl)
      · rw [if_neg c2] at h
        refine lv_aload_n S.1 S.2.1 dX6_pairOf_24 rfl (lv_at hl 0 rfl) ?_
        refine gM_0_st S hK hP wf_X6_17 dX6_pairOf_25 ?_
        refine lv_aload_n S.1 S.2.1 dX6_pairOf_28 rfl (lv_at hl 0 rfl) ?_
        refine lv_iload_n S.1 S.2.1 dX6_pairOf_29 rfl (lv_at hl 3 rfl) ?_
        refine lv_iload S.1 S.2.1 dX6_pairOf_30 (lv_at hl 4 rfl) ?_
        obtain ⟨r4, u5, q3, h⟩ := bd_some h
        refine x_vi (Wf := WM ad cI) (q0 := 0) (ci := 6) (As := [.int x3, .int x4]) (rest := [.ref (ad 2)]) S hK hP hS (k_X6_pairAt hap q3) rfl rfl wl_X6_69 wi_X6_pairAt ws_X6_pairAt wz_X6 wc_X6_pairAt hy_X6_pairAt ⟨Nat.le_of_ble_eq_true rfl, Nat.le_of_ble_eq_true rfl⟩ hl.1 rfl (Nat.le_of_ble_eq_true rfl) dX6_pairOf_32 (fun H locs hP hS => ?_)
        obtain ⟨q6, h⟩ := gi_some h
        refine lM_2 S hK hP q6 dX6_pairOf_35 ?_
        refine lv_if_le (tgt := 55) S.1 S.2.1 dX6_pairOf_36 (by decide) (fun c7 => ?_) (fun c7 => ?_)
        · rw [if_pos c7] at h
          exact B_55 _ ih _ _ _ _ u5 h _ _ _ hP hS (lv_sub hl [0, 1, 2, 3, 4] rfl)
        · rw [if_neg c7] at h
          refine lv_iload_n S.1 S.2.1 dX6_pairOf_39 rfl (lv_at hl 2 rfl) ?_
          refine lv_iload_n S.1 S.2.1 dX6_pairOf_40 rfl (lv_at hl 1 rfl) ?_
          refine lv_icmp_ne (tgt := 52) S.1 S.2.1 dX6_pairOf_41 (by decide) (fun c8 => ?_) (fun c8 => ?_)
          · rw [if_neg c8] at h
            refine lv_iinc (v := (x2 + (1 : Int32))) (lv' := [(2, .int (x2 + (1 : Int32))), (0, .ref (ad 0)), (1, .int x1), (3, .int x3), (4, .int x4)]) S.1 S.2.1 dX6_pairOf_52 hl (k := 2) rfl rfl (by decide) rfl (fun ls hl => ?_)
            exact B_55 _ ih _ _ _ _ u5 h _ _ _ hP hS (lv_sub hl [1, 2, 0, 3, 4] rfl)
          · rw [if_pos c8] at h
            exact hk44 _ _ u5 h _ _ _ hP hS (lv_sub hl [3, 4] rfl)
  have B_61 : ∀ (k4 : Int32 → Int32 → Int32 → Wo → Re) (hk4 : ∀ (x1 : Int32) (x2 : Int32) (x3 : Int32) (u : Wo), k4 x1 x2 x3 u = some (rf, uf) → J p l e (rmk 1 22) s m args below meth c dC dI (WM ad cI) (AF ad 9) (MQ below (QI dC dI cI (WM ad cI) (AF ad 9) rf uf) args s 0 0 (AF ad 9)) u 4 5 [(0, .ref (ad 0)), (1, .int x1), (2, .int x2), (3, .int x3)] []) (x1 : Int32) (x2 : Int32) (x3 : Int32) (u : Wo), fX6_pairOf_61 k4 x1 x2 x3 u = some (rf, uf) → J p l e (rmk 1 22) s m args below meth c dC dI (WM ad cI) (AF ad 9) (MQ below (QI dC dI cI (WM ad cI) (AF ad 9) rf uf) args s 0 0 (AF ad 9)) u 61 5 [(0, .ref (ad 0)), (1, .int x1), (2, .int x2), (3, .int x3)] [] := by
    intro k4 hk4 x1 x2 x3 u h H locs ls hP hS hl
    unfold fX6_pairOf_61 at h
    refine lv_iinc (v := (x3 + (1 : Int32))) (lv' := [(3, .int (x3 + (1 : Int32))), (0, .ref (ad 0)), (1, .int x1), (2, .int x2)]) S.1 S.2.1 dX6_pairOf_61 hl (k := 3) rfl rfl (by decide) rfl (fun ls hl => ?_)
    refine lv_goto (tgt := 4) S.1 S.2.1 dX6_pairOf_64 (by decide) ?_
    exact hk4 _ _ _ u h _ _ _ hP hS (lv_sub hl [1, 2, 3, 0] rfl)
  have B_4 : ∀ (k44 : Int32 → Int32 → Wo → Re) (hk44 : ∀ (x3 : Int32) (x4 : Int32) (u : Wo), k44 x3 x4 u = some (rf, uf) → J p l e (rmk 1 22) s m args below meth c dC dI (WM ad cI) (AF ad 9) (MQ below (QI dC dI cI (WM ad cI) (AF ad 9) rf uf) args s 0 0 (AF ad 9)) u 44 5 [(3, .int x3), (4, .int x4)] []) (k67 : Int32 → Wo → Re) (hk67 : ∀ (x2 : Int32) (u : Wo), k67 x2 u = some (rf, uf) → J p l e (rmk 1 22) s m args below meth c dC dI (WM ad cI) (AF ad 9) (MQ below (QI dC dI cI (WM ad cI) (AF ad 9) rf uf) args s 0 0 (AF ad 9)) u 67 5 [(2, .int x2)] []) (n : Nat) (x1 : Int32) (x2 : Int32) (x3 : Int32) (u : Wo), fX6_pairOf_4 k44 k67 n x1 x2 x3 u = some (rf, uf) → J p l e (rmk 1 22) s m args below meth c dC dI (WM ad cI) (AF ad 9) (MQ below (QI dC dI cI (WM ad cI) (AF ad 9) rf uf) args s 0 0 (AF ad 9)) u 4 5 [(0, .ref (ad 0)), (1, .int x1), (2, .int x2), (3, .int x3)] [] := by
    intro k44 hk44 k67 hk67
    intro n
    induction n with
    | zero => intro x1 x2 x3 u h; cases h
    | succ n ih =>
      intro x1 x2 x3 u h H locs ls hP hS hl
      rw [fX6_pairOf_4.eq_2] at h
      refine lv_iload_n S.1 S.2.1 dX6_pairOf_4 rfl (lv_at hl 3 rfl) ?_
      refine lv_aload_n S.1 S.2.1 dX6_pairOf_5 rfl (lv_at hl 0 rfl) ?_
      refine gM_0_n S hK hP wf_X6_7 dX6_pairOf_6 ?_
      refine lv_icmp_ge (tgt := 67) S.1 S.2.1 dX6_pairOf_9 (by decide) (fun c1 => ?_) (fun c1 => ?_)
      · rw [if_pos c1] at h
        exact hk67 _ u h _ _ _ hP hS (lv_sub hl [2] rfl)
      · rw [if_neg c1] at h
        refine lv_iconst (v := (0 : Int32)) S.1 S.2.1 dX6_pairOf_12 (by decide) ?_
        refine lv_istore (lv' := [(4, .int (0 : Int32)), (0, .ref (ad 0)), (1, .int x1), (2, .int x2), (3, .int x3)]) S.1 S.2.1 dX6_pairOf_13 hl (by decide) rfl (fun ls hl => ?_)
        exact B_15 _ hk44 _ (B_61 _ ih) FU _ _ _ _ u h _ _ _ hP hS (lv_sub hl [1, 2, 3, 4, 0] rfl)
  have B_44 : ∀ (x3 : Int32) (x4 : Int32) (u : Wo), fX6_pairOf_44 x3 x4 u = some (rf, uf) → J p l e (rmk 1 22) s m args below meth c dC dI (WM ad cI) (AF ad 9) (MQ below (QI dC dI cI (WM ad cI) (AF ad 9) rf uf) args s 0 0 (AF ad 9)) u 44 5 [(3, .int x3), (4, .int x4)] [] := by
    intro x3 x4 u h H locs ls hP hS hl
    unfold fX6_pairOf_44 at h
    refine lv_bipush (v := (6 : Int32)) S.1 S.2.1 dX6_pairOf_44 (by decide) ?_
    refine lv_iload_n S.1 S.2.1 dX6_pairOf_46 rfl (lv_at hl 0 rfl) ?_
    refine lv_imul S.1 S.2.1 dX6_pairOf_47 ?_
    refine lv_iload S.1 S.2.1 dX6_pairOf_48 (lv_at hl 1 rfl) ?_
    refine lv_iadd S.1 S.2.1 dX6_pairOf_50 ?_
    exact x_iret S hr hlk hK hP hS h dX6_pairOf_51
  have B_67 : ∀ (x2 : Int32) (u : Wo), fX6_pairOf_67 x2 u = some (rf, uf) → J p l e (rmk 1 22) s m args below meth c dC dI (WM ad cI) (AF ad 9) (MQ below (QI dC dI cI (WM ad cI) (AF ad 9) rf uf) args s 0 0 (AF ad 9)) u 67 5 [(2, .int x2)] [] := by
    intro x2 u h H locs ls hP hS hl
    unfold fX6_pairOf_67 at h
    refine lv_iload_n S.1 S.2.1 dX6_pairOf_67 rfl (lv_at hl 0 rfl) ?_
    exact x_iret S hr hlk hK hP hS h dX6_pairOf_68
  intro H locs ls hP hS hl
  have hl : lv_has ls 5 [(0, .ref (ad 0)), (1, .int x1)] := hl
  unfold fX6_pairOf at h
  refine lv_iconst (v := (0 : Int32)) S.1 S.2.1 dX6_pairOf_0 (by decide) ?_
  refine lv_istore_n (lv' := [(2, .int (0 : Int32)), (0, .ref (ad 0)), (1, .int x1)]) S.1 S.2.1 dX6_pairOf_1 rfl hl (by decide) rfl (fun ls hl => ?_)
  refine lv_iconst (v := (0 : Int32)) S.1 S.2.1 dX6_pairOf_2 (by decide) ?_
  refine lv_istore_n (lv' := [(3, .int (0 : Int32)), (2, .int (0 : Int32)), (0, .ref (ad 0)), (1, .int x1)]) S.1 S.2.1 dX6_pairOf_3 rfl hl (by decide) rfl (fun ls hl => ?_)
  exact B_4 _ B_44 _ B_67 FU _ _ _ u h _ _ _ hP hS (lv_sub hl [2, 3, 1, 0] rfl)
theorem hy_X6_run : yX6_run.cls ≠ "java/lang/invoke/MethodHandle" ∧ yX6_run.cls ≠ "java/lang/invoke/VarHandle" ∧ (parseMethodDescriptor yX6_run.desc).map (fun d => d.parameters.length) = some 2 := by decide +kernel
set_option maxHeartbeats 4000000 in
set_option maxRecDepth 100000 in
theorem k_X6_run {l : Launch} {dC : Nat → ClassId} {dI : Nat → Nat → Nat} {ad : Nat → Nat} {cI : ClassId} (hap : AP ad 9) {x1 x2 : Int32} {u uf : Wo} {rf : Int32} (h : fX6_run x1 x2 u = some (rf, uf)) : CI l dC dI cI (WM ad cI) (AF ad 9) yX6_run cX6_run 9 (some .int) 6 147 [.ref (ad 0), .int x1, .int x2] u rf uf := by
  refine ci_begin (by decide) (Nat.le_of_ble_eq_true rfl) ?_
  intro p e s m args below meth c S hr hlk hK
  have B_14 : ∀ (u : Wo), fX6_run_14 u = some (rf, uf) → J p l e (rmk 6 147) s m args below meth c dC dI (WM ad cI) (AF ad 9) (MQ below (QI dC dI cI (WM ad cI) (AF ad 9) rf uf) args s 0 0 (AF ad 9)) u 14 9 [] [] := by
    intro u h H locs ls hP hS hl
    unfold fX6_run_14 at h
    refine lv_iconst (v := (-1 : Int32)) S.1 S.2.1 dX6_run_14 (by decide) ?_
    exact x_iret S hr hlk hK hP hS h dX6_run_15
  have B_129 : ∀ (k25 : Int32 → Int64 → Int32 → Int32 → Wo → Re) (hk25 : ∀ (x1 : Int32) (x3 : Int64) (x5 : Int32) (x6 : Int32) (u : Wo), k25 x1 x3 x5 x6 u = some (rf, uf) → J p l e (rmk 6 147) s m args below meth c dC dI (WM ad cI) (AF ad 9) (MQ below (QI dC dI cI (WM ad cI) (AF ad 9) rf uf) args s 0 0 (AF ad 9)) u 25 9 [(0, .ref (ad 0)), (1, .int x1), (3, .long x3), (5, .int x5), (6, .int x6)] []) (x1 : Int32) (x3 : Int64) (x5 : Int32) (x6 : Int32) (u : Wo), fX6_run_129 k25 x1 x3 x5 x6 u = some (rf, uf) → J p l e (rmk 6 147) s m args below meth c dC dI (WM ad cI) (AF ad 9) (MQ below (QI dC dI cI (WM ad cI) (AF ad 9) rf uf) args s 0 0 (AF ad 9)) u 129 9 [(0, .ref (ad 0)), (1, .int x1), (3, .long x3), (5, .int x5), (6, .int x6)] [] := by
    intro k25 hk25 x1 x3 x5 x6 u h H locs ls hP hS hl
    unfold fX6_run_129 at h
    refine lv_goto (tgt := 25) S.1 S.2.1 dX6_run_129 (by decide) ?_
    exact hk25 _ _ _ _ u h _ _ _ hP hS (lv_sub hl [0, 1, 2, 3, 4] rfl)
  have B_108 : ∀ (k25 : Int32 → Int64 → Int32 → Int32 → Wo → Re) (hk25 : ∀ (x1 : Int32) (x3 : Int64) (x5 : Int32) (x6 : Int32) (u : Wo), k25 x1 x3 x5 x6 u = some (rf, uf) → J p l e (rmk 6 147) s m args below meth c dC dI (WM ad cI) (AF ad 9) (MQ below (QI dC dI cI (WM ad cI) (AF ad 9) rf uf) args s 0 0 (AF ad 9)) u 25 9 [(0, .ref (ad 0)), (1, .int x1), (3, .long x3), (5, .int x5), (6, .int x6)] []) (x1 : Int32) (x3 : Int64) (x6 : Int32) (s0 : Int32) (s1 : Int32) (u : Wo), fX6_run_108 k25 x1 x3 x6 s0 s1 u = some (rf, uf) → J p l e (rmk 6 147) s m args below meth c dC dI (WM ad cI) (AF ad 9) (MQ below (QI dC dI cI (WM ad cI) (AF ad 9) rf uf) args s 0 0 (AF ad 9)) u 108 9 [(0, .ref (ad 0)), (1, .int x1), (3, .long x3), (6, .int x6)] [.int s1, .int s0] := by
    intro k25 hk25 x1 x3 x6 s0 s1 u h H locs ls hP hS hl
    unfold fX6_run_108 at h
    refine lv_iadd S.1 S.2.1 dX6_run_108 ?_
    refine lv_istore (lv' := [(5, .int (s0 + s1)), (0, .ref (ad 0)), (1, .int x1), (3, .long x3), (6, .int x6)]) S.1 S.2.1 dX6_run_109 hl (by decide) rfl (fun ls hl => ?_)
    refine lv_lload_n S.1 S.2.1 dX6_run_111 rfl (lv_at hl 3 rfl) ?_
    refine x_ldc2 S wk_X6_139 dX6_run_112 ?_
    refine lv_lmul S.1 S.2.1 dX6_run_115 ?_
    refine x_ldc2 S wk_X6_141 dX6_run_116 ?_
    refine lv_ladd S.1 S.2.1 dX6_run_119 ?_
    refine x_ldc2 S wk_X6_143 dX6_run_120 ?_
    refine lv_lrem S.1 S.2.1 dX6_run_123 (by decide) ?_
    refine x_ldc2 S wk_X6_145 dX6_run_124 ?_
    refine lv_ldiv S.1 S.2.1 dX6_run_127 (by decide) ?_
    refine lv_lstore_n (lv' := [(3, .long ((((x3 * (1103515245 : Int64)) + (12345 : Int64)) - ((x3 * (1103515245 : Int64)) + (12345 : Int64)) / (2147483648 : Int64) * (2147483648 : Int64)) / (8 : Int64))), (5, .int (s0 + s1)), (0, .ref (ad 0)), (1, .int x1), (6, .int x6)]) S.1 S.2.1 dX6_run_128 rfl hl (by decide) rfl (fun ls hl => ?_)
    exact B_129 _ hk25 _ _ _ _ u h _ _ _ hP hS (lv_sub hl [2, 3, 0, 1, 4] rfl)
  have B_94 : ∀ (k25 : Int32 → Int64 → Int32 → Int32 → Wo → Re) (hk25 : ∀ (x1 : Int32) (x3 : Int64) (x5 : Int32) (x6 : Int32) (u : Wo), k25 x1 x3 x5 x6 u = some (rf, uf) → J p l e (rmk 6 147) s m args below meth c dC dI (WM ad cI) (AF ad 9) (MQ below (QI dC dI cI (WM ad cI) (AF ad 9) rf uf) args s 0 0 (AF ad 9)) u 25 9 [(0, .ref (ad 0)), (1, .int x1), (3, .long x3), (5, .int x5), (6, .int x6)] []) (x1 : Int32) (x3 : Int64) (x5 : Int32) (s0 : Int32) (u : Wo), fX6_run_94 k25 x1 x3 x5 s0 u = some (rf, uf) → J p l e (rmk 6 147) s m args below meth c dC dI (WM ad cI) (AF ad 9) (MQ below (QI dC dI cI (WM ad cI) (AF ad 9) rf uf) args s 0 0 (AF ad 9)) u 94 9 [(0, .ref (ad 0)), (1, .int x1), (3, .long x3), (5, .int x5)] [.int s0] := by
    intro k25 hk25 x1 x3 x5 s0 u h H locs ls hP hS hl
    unfold fX6_run_94 at h
    refine lv_istore (lv' := [(6, .int s0), (0, .ref (ad 0)), (1, .int x1), (3, .long x3), (5, .int x5)]) S.1 S.2.1 dX6_run_94 hl (by decide) rfl (fun ls hl => ?_)
    refine lv_iload S.1 S.2.1 dX6_run_96 (lv_at hl 4 rfl) ?_
    refine lv_iload S.1 S.2.1 dX6_run_98 (lv_at hl 0 rfl) ?_
    refine lv_if_eq (tgt := 107) S.1 S.2.1 dX6_run_100 (by decide) (fun c21 => ?_) (fun c21 => ?_)
    · rw [if_pos c21] at h
      refine lv_iconst (v := (0 : Int32)) S.1 S.2.1 dX6_run_107 (by decide) ?_
      exact B_108 _ hk25 _ _ _ _ _ u h _ _ _ hP hS (lv_sub hl [1, 2, 3, 0] rfl)
    · rw [if_neg c21] at h
      refine lv_iconst (v := (1 : Int32)) S.1 S.2.1 dX6_run_103 (by decide) ?_
      refine lv_goto (tgt := 108) S.1 S.2.1 dX6_run_104 (by decide) ?_
      exact B_108 _ hk25 _ _ _ _ _ u h _ _ _ hP hS (lv_sub hl [1, 2, 3, 0] rfl)
  have B_53 : ∀ (k25 : Int32 → Int64 → Int32 → Int32 → Wo → Re) (hk25 : ∀ (x1 : Int32) (x3 : Int64) (x5 : Int32) (x6 : Int32) (u : Wo), k25 x1 x3 x5 x6 u = some (rf, uf) → J p l e (rmk 6 147) s m args below meth c dC dI (WM ad cI) (AF ad 9) (MQ below (QI dC dI cI (WM ad cI) (AF ad 9) rf uf) args s 0 0 (AF ad 9)) u 25 9 [(0, .ref (ad 0)), (1, .int x1), (3, .long x3), (5, .int x5), (6, .int x6)] []) (x1 : Int32) (x3 : Int64) (x5 : Int32) (x7 : Int32) (s0 : Int32) (u : Wo), fX6_run_53 k25 x1 x3 x5 x7 s0 u = some (rf, uf) → J p l e (rmk 6 147) s m args below meth c dC dI (WM ad cI) (AF ad 9) (MQ below (QI dC dI cI (WM ad cI) (AF ad 9) rf uf) args s 0 0 (AF ad 9)) u 53 9 [(0, .ref (ad 0)), (1, .int x1), (3, .long x3), (5, .int x5), (7, .int x7)] [.int s0] := by
    intro k25 hk25 x1 x3 x5 x7 s0 u h H locs ls hP hS hl
    unfold fX6_run_53 at h
    refine lv_istore (lv' := [(6, .int s0), (0, .ref (ad 0)), (1, .int x1), (3, .long x3), (5, .int x5), (7, .int x7)]) S.1 S.2.1 dX6_run_53 hl (by decide) rfl (fun ls hl => ?_)
    refine lv_iload S.1 S.2.1 dX6_run_55 (lv_at hl 0 rfl) ?_
    refine lv_if_eq (tgt := 129) S.1 S.2.1 dX6_run_57 (by decide) (fun c12 => ?_) (fun c12 => ?_)
    · rw [if_pos c12] at h
      exact B_129 _ hk25 _ _ _ _ u h _ _ _ hP hS (lv_sub hl [1, 2, 3, 4, 0] rfl)
    · rw [if_neg c12] at h
      refine lv_aload_n S.1 S.2.1 dX6_run_60 rfl (lv_at hl 1 rfl) ?_
      refine lv_lload_n S.1 S.2.1 dX6_run_61 rfl (lv_at hl 3 rfl) ?_
      refine lv_iload S.1 S.2.1 dX6_run_62 (lv_at hl 5 rfl) ?_
      refine lv_i2l (v := (x7).toInt64) S.1 S.2.1 dX6_run_64 rfl ?_
      obtain ⟨q13, h⟩ := gi_some h
      refine lv_lrem S.1 S.2.1 dX6_run_65 (of_decide_eq_true q13) ?_
      refine lv_l2i (v := ((x3 - x3 / (x7).toInt64 * (x7).toInt64)).toInt32) S.1 S.2.1 dX6_run_66 rfl ?_
      obtain ⟨r15, u16, q14, h⟩ := bd_some h
      refine x_vi (Wf := WM ad cI) (q0 := 0) (ci := 6) (As := [.int ((x3 - x3 / (x7).toInt64 * (x7).toInt64)).toInt32]) (rest := []) S hK hP hS (k_X6_pairOf hap q14) rfl rfl wl_X6_132 wi_X6_pairOf ws_X6_pairOf wz_X6 wc_X6_pairOf hy_X6_pairOf ⟨Nat.le_of_ble_eq_true rfl, Nat.le_of_ble_eq_true rfl⟩ hl.1 rfl (Nat.le_of_ble_eq_true rfl) dX6_run_67 (fun H locs hP hS => ?_)
      refine lv_istore (lv' := [(8, .int r15), (6, .int s0), (0, .ref (ad 0)), (1, .int x1), (3, .long x3), (5, .int x5), (7, .int x7)]) S.1 S.2.1 dX6_run_70 hl (by decide) rfl (fun ls hl => ?_)
      refine lv_aload_n S.1 S.2.1 dX6_run_72 rfl (lv_at hl 2 rfl) ?_
      refine lv_iload S.1 S.2.1 dX6_run_73 (lv_at hl 0 rfl) ?_
      refine lv_bipush (v := (6 : Int32)) S.1 S.2.1 dX6_run_75 (by decide) ?_
      refine lv_idiv S.1 S.2.1 dX6_run_77 (by decide) ?_
      refine lv_iload S.1 S.2.1 dX6_run_78 (lv_at hl 0 rfl) ?_
      refine lv_bipush (v := (6 : Int32)) S.1 S.2.1 dX6_run_80 (by decide) ?_
      refine lv_irem S.1 S.2.1 dX6_run_82 (by decide) ?_
      obtain ⟨r18, u19, q17, h⟩ := bd_some h
      refine x_vi (Wf := WM ad cI) (q0 := 0) (ci := 6) (As := [.int (r15 / (6 : Int32)), .int (r15 - r15 / (6 : Int32) * (6 : Int32))]) (rest := []) S hK hP hS (k_X6_come hap q17) rfl rfl wl_X6_136 wi_X6_come ws_X6_come wz_X6 wc_X6_come hy_X6_come ⟨Nat.le_of_ble_eq_true rfl, Nat.le_of_ble_eq_true rfl⟩ hl.1 rfl (Nat.le_of_ble_eq_true rfl) dX6_run_83 (fun H locs hP hS => ?_)
      refine lv_if_lt (tgt := 93) S.1 S.2.1 dX6_run_86 (by decide) (fun c20 => ?_) (fun c20 => ?_)
      · rw [if_pos c20] at h
        refine lv_iconst (v := (0 : Int32)) S.1 S.2.1 dX6_run_93 (by decide) ?_
        exact B_94 _ hk25 _ _ _ _ u19 h _ _ _ hP hS (lv_sub hl [2, 3, 4, 5] rfl)
      · rw [if_neg c20] at h
        refine lv_iconst (v := (1 : Int32)) S.1 S.2.1 dX6_run_89 (by decide) ?_
        refine lv_goto (tgt := 94) S.1 S.2.1 dX6_run_90 (by decide) ?_
        exact B_94 _ hk25 _ _ _ _ u19 h _ _ _ hP hS (lv_sub hl [2, 3, 4, 5] rfl)
  have B_25 : ∀ (k132 : Int32 → Wo → Re) (hk132 : ∀ (x5 : Int32) (u : Wo), k132 x5 u = some (rf, uf) → J p l e (rmk 6 147) s m args below meth c dC dI (WM ad cI) (AF ad 9) (MQ below (QI dC dI cI (WM ad cI) (AF ad 9) rf uf) args s 0 0 (AF ad 9)) u 132 9 [(5, .int x5)] []) (n : Nat) (x1 : Int32) (x3 : Int64) (x5 : Int32) (x6 : Int32) (u : Wo), fX6_run_25 k132 n x1 x3 x5 x6 u = some (rf, uf) → J p l e (rmk 6 147) s m args below meth c dC dI (WM ad cI) (AF ad 9) (MQ below (QI dC dI cI (WM ad cI) (AF ad 9) rf uf) args s 0 0 (AF ad 9)) u 25 9 [(0, .ref (ad 0)), (1, .int x1), (3, .long x3), (5, .int x5), (6, .int x6)] [] := by
    intro k132 hk132
    intro n
    induction n with
    | zero => intro x1 x3 x5 x6 u h; cases h
    | succ n ih =>
      intro x1 x3 x5 x6 u h H locs ls hP hS hl
      rw [fX6_run_25.eq_2] at h
      refine lv_iload S.1 S.2.1 dX6_run_25 (lv_at hl 3 rfl) ?_
      refine lv_iload_n S.1 S.2.1 dX6_run_27 rfl (lv_at hl 1 rfl) ?_
      refine lv_icmp_ge (tgt := 132) S.1 S.2.1 dX6_run_28 (by decide) (fun c6 => ?_) (fun c6 => ?_)
      · rw [if_pos c6] at h
        exact hk132 _ u h _ _ _ hP hS (lv_sub hl [3] rfl)
      · rw [if_neg c6] at h
        refine lv_iload S.1 S.2.1 dX6_run_31 (lv_at hl 4 rfl) ?_
        refine lv_if_eq (tgt := 132) S.1 S.2.1 dX6_run_33 (by decide) (fun c7 => ?_) (fun c7 => ?_)
        · rw [if_pos c7] at h
          exact hk132 _ u h _ _ _ hP hS (lv_sub hl [3] rfl)
        · rw [if_neg c7] at h
          refine lv_aload_n S.1 S.2.1 dX6_run_36 rfl (lv_at hl 0 rfl) ?_
          refine lv_iconst (v := (-1 : Int32)) S.1 S.2.1 dX6_run_37 (by decide) ?_
          obtain ⟨r9, u10, q8, h⟩ := bd_some h
          refine x_vi (Wf := WM ad cI) (q0 := 0) (ci := 6) (As := [.int (-1 : Int32)]) (rest := []) S hK hP hS (k_X6_pairOf hap q8) rfl rfl wl_X6_132 wi_X6_pairOf ws_X6_pairOf wz_X6 wc_X6_pairOf hy_X6_pairOf ⟨Nat.le_of_ble_eq_true rfl, Nat.le_of_ble_eq_true rfl⟩ hl.1 rfl (Nat.le_of_ble_eq_true rfl) dX6_run_38 (fun H locs hP hS => ?_)
          refine lv_istore (lv' := [(7, .int r9), (0, .ref (ad 0)), (1, .int x1), (3, .long x3), (5, .int x5), (6, .int x6)]) S.1 S.2.1 dX6_run_41 hl (by decide) rfl (fun ls hl => ?_)
          refine lv_iload S.1 S.2.1 dX6_run_43 (lv_at hl 0 rfl) ?_
          refine lv_if_le (tgt := 52) S.1 S.2.1 dX6_run_45 (by decide) (fun c11 => ?_) (fun c11 => ?_)
          · rw [if_pos c11] at h
            refine lv_iconst (v := (0 : Int32)) S.1 S.2.1 dX6_run_52 (by decide) ?_
            exact B_53 _ ih _ _ _ _ _ u10 h _ _ _ hP hS (lv_sub hl [1, 2, 3, 4, 0] rfl)
          · rw [if_neg c11] at h
            refine lv_iconst (v := (1 : Int32)) S.1 S.2.1 dX6_run_48 (by decide) ?_
            refine lv_goto (tgt := 53) S.1 S.2.1 dX6_run_49 (by decide) ?_
            exact B_53 _ ih _ _ _ _ _ u10 h _ _ _ hP hS (lv_sub hl [1, 2, 3, 4, 0] rfl)
  have B_132 : ∀ (x5 : Int32) (u : Wo), fX6_run_132 x5 u = some (rf, uf) → J p l e (rmk 6 147) s m args below meth c dC dI (WM ad cI) (AF ad 9) (MQ below (QI dC dI cI (WM ad cI) (AF ad 9) rf uf) args s 0 0 (AF ad 9)) u 132 9 [(5, .int x5)] [] := by
    intro x5 u h H locs ls hP hS hl
    unfold fX6_run_132 at h
    refine lv_iload S.1 S.2.1 dX6_run_132 (lv_at hl 0 rfl) ?_
    exact x_iret S hr hlk hK hP hS h dX6_run_134
  intro H locs ls hP hS hl
  have hl : lv_has ls 9 [(0, .ref (ad 0)), (1, .int x1), (2, .int x2)] := hl
  unfold fX6_run at h
  refine lv_iload_n S.1 S.2.1 dX6_run_0 rfl (lv_at hl 1 rfl) ?_
  refine lv_iconst (v := (1 : Int32)) S.1 S.2.1 dX6_run_1 (by decide) ?_
  refine lv_bipush (v := (100 : Int32)) S.1 S.2.1 dX6_run_2 (by decide) ?_
  obtain ⟨r2, u3, q1, h⟩ := bd_some h
  refine x_si (Wf := WM ad cI) (As := [.int x1, .int (1 : Int32), .int (100 : Int32)]) (rest := []) S hK hP hS (k_X6_in hap q1) wl_X6_47 wt_X6_in wz_X6 wc_X6_in hy_X6_in ⟨Nat.le_of_ble_eq_true rfl, Nat.le_of_ble_eq_true rfl⟩ hl.1 rfl (Nat.le_of_ble_eq_true rfl) dX6_run_4 (fun H locs hP hS => ?_)
  refine lv_if_eq (tgt := 14) S.1 S.2.1 dX6_run_7 (by decide) (fun c4 => ?_) (fun c4 => ?_)
  · rw [if_pos c4] at h
    exact B_14 u3 h _ _ _ hP hS (lv_sub hl [] rfl)
  · rw [if_neg c4] at h
    refine lv_iload_n S.1 S.2.1 dX6_run_10 rfl (lv_at hl 2 rfl) ?_
    refine lv_if_ge (tgt := 16) S.1 S.2.1 dX6_run_11 (by decide) (fun c5 => ?_) (fun c5 => ?_)
    · rw [if_pos c5] at h
      refine lv_iload_n S.1 S.2.1 dX6_run_16 rfl (lv_at hl 2 rfl) ?_
      refine lv_i2l (v := (x2).toInt64) S.1 S.2.1 dX6_run_17 rfl ?_
      refine lv_lstore_n (lv' := [(3, .long (x2).toInt64), (0, .ref (ad 0)), (1, .int x1), (2, .int x2)]) S.1 S.2.1 dX6_run_18 rfl hl (by decide) rfl (fun ls hl => ?_)
      refine lv_iconst (v := (0 : Int32)) S.1 S.2.1 dX6_run_19 (by decide) ?_
      refine lv_istore (lv' := [(5, .int (0 : Int32)), (3, .long (x2).toInt64), (0, .ref (ad 0)), (1, .int x1), (2, .int x2)]) S.1 S.2.1 dX6_run_20 hl (by decide) rfl (fun ls hl => ?_)
      refine lv_iconst (v := (1 : Int32)) S.1 S.2.1 dX6_run_22 (by decide) ?_
      refine lv_istore (lv' := [(6, .int (1 : Int32)), (5, .int (0 : Int32)), (3, .long (x2).toInt64), (0, .ref (ad 0)), (1, .int x1), (2, .int x2)]) S.1 S.2.1 dX6_run_23 hl (by decide) rfl (fun ls hl => ?_)
      exact B_25 _ B_132 FU _ _ _ _ u3 h _ _ _ hP hS (lv_sub hl [3, 4, 2, 1, 0] rfl)
    · rw [if_neg c5] at h
      exact B_14 u3 h _ _ _ hP hS (lv_sub hl [] rfl)
theorem hy_X6_hasToken : yX6_hasToken.cls ≠ "java/lang/invoke/MethodHandle" ∧ yX6_hasToken.cls ≠ "java/lang/invoke/VarHandle" ∧ (parseMethodDescriptor yX6_hasToken.desc).map (fun d => d.parameters.length) = some 1 := by decide +kernel
set_option maxHeartbeats 4000000 in
set_option maxRecDepth 100000 in
theorem k_X6_hasToken {l : Launch} {dC : Nat → ClassId} {dI : Nat → Nat → Nat} {ad : Nat → Nat} {cI : ClassId} (hap : AP ad 9) {x1 : Int32} {u uf : Wo} {rf : Int32} (h : fX6_hasToken x1 u = some (rf, uf)) : CI l dC dI cI (WM ad cI) (AF ad 9) yX6_hasToken cX6_hasToken 2 (some .boolean) 0 0 [.ref (ad 0), .int x1] u rf uf := by
  refine ci_begin (by decide) (Nat.le_of_ble_eq_true rfl) ?_
  intro p e s m args below meth c S hr hlk hK
  have B_55 : ∀ (s0 : Int32) (u : Wo), fX6_hasToken_55 s0 u = some (rf, uf) → J p l e (rmk 0 0) s m args below meth c dC dI (WM ad cI) (AF ad 9) (MQ below (QI dC dI cI (WM ad cI) (AF ad 9) rf uf) args s 0 0 (AF ad 9)) u 55 2 [] [.int s0] := by
    intro s0 u h H locs ls hP hS hl
    unfold fX6_hasToken_55 at h
    obtain ⟨q3, h⟩ := gi_some h
    exact x_zret S hr hlk hK hP hS q3 h dX6_hasToken_55
  have B_54 : ∀ (u : Wo), fX6_hasToken_54 u = some (rf, uf) → J p l e (rmk 0 0) s m args below meth c dC dI (WM ad cI) (AF ad 9) (MQ below (QI dC dI cI (WM ad cI) (AF ad 9) rf uf) args s 0 0 (AF ad 9)) u 54 2 [] [] := by
    intro u h H locs ls hP hS hl
    unfold fX6_hasToken_54 at h
    refine lv_iconst (v := (0 : Int32)) S.1 S.2.1 dX6_hasToken_54 (by decide) ?_
    exact B_55 _ u h _ _ _ hP hS (lv_sub hl [] rfl)
  intro H locs ls hP hS hl
  have hl : lv_has ls 2 [(0, .ref (ad 0)), (1, .int x1)] := hl
  unfold fX6_hasToken at h
  refine lv_aload_n S.1 S.2.1 dX6_hasToken_0 rfl (lv_at hl 0 rfl) ?_
  refine gM_0_way S hK hP wf_X6_66 dX6_hasToken_1 ?_
  refine lv_iconst (v := (1 : Int32)) S.1 S.2.1 dX6_hasToken_4 (by decide) ?_
  refine lv_icmp_ne (tgt := 27) S.1 S.2.1 dX6_hasToken_5 (by decide) (fun c1 => ?_) (fun c1 => ?_)
  · rw [if_neg c1] at h
    refine lv_aload_n S.1 S.2.1 dX6_hasToken_27 rfl (lv_at hl 0 rfl) ?_
    refine gM_0_way S hK hP wf_X6_66 dX6_hasToken_28 ?_
    refine lv_iconst (v := (2 : Int32)) S.1 S.2.1 dX6_hasToken_31 (by decide) ?_
    refine lv_icmp_ne (tgt := 54) S.1 S.2.1 dX6_hasToken_32 (by decide) (fun c2 => ?_) (fun c2 => ?_)
    · rw [if_neg c2] at h
      exact B_54 u h _ _ _ hP hS (lv_sub hl [] rfl)
    · rw [if_pos c2] at h
      refine lv_aload_n S.1 S.2.1 dX6_hasToken_35 rfl (lv_at hl 0 rfl) ?_
      refine gM_0_st S hK hP wf_X6_17 dX6_hasToken_36 ?_
      refine lv_bipush (v := (21 : Int32)) S.1 S.2.1 dX6_hasToken_39 (by decide) ?_
      refine lv_iload_n S.1 S.2.1 dX6_hasToken_41 rfl (lv_at hl 1 rfl) ?_
      refine lv_imul S.1 S.2.1 dX6_hasToken_42 ?_
      refine lv_iconst (v := (5 : Int32)) S.1 S.2.1 dX6_hasToken_43 (by decide) ?_
      refine lv_iadd S.1 S.2.1 dX6_hasToken_44 ?_
      obtain ⟨q4, h⟩ := gi_some h
      refine lM_2 S hK hP q4 dX6_hasToken_45 ?_
      refine lv_iload_n S.1 S.2.1 dX6_hasToken_46 rfl (lv_at hl 1 rfl) ?_
      refine lv_icmp_ne (tgt := 54) S.1 S.2.1 dX6_hasToken_47 (by decide) (fun c5 => ?_) (fun c5 => ?_)
      · rw [if_neg c5] at h
        exact B_54 u h _ _ _ hP hS (lv_sub hl [] rfl)
      · rw [if_pos c5] at h
        refine lv_iconst (v := (1 : Int32)) S.1 S.2.1 dX6_hasToken_50 (by decide) ?_
        refine lv_goto (tgt := 55) S.1 S.2.1 dX6_hasToken_51 (by decide) ?_
        exact B_55 _ u h _ _ _ hP hS (lv_sub hl [] rfl)
  · rw [if_pos c1] at h
    refine lv_aload_n S.1 S.2.1 dX6_hasToken_8 rfl (lv_at hl 0 rfl) ?_
    refine gM_0_st S hK hP wf_X6_17 dX6_hasToken_9 ?_
    refine lv_bipush (v := (126 : Int32)) S.1 S.2.1 dX6_hasToken_12 (by decide) ?_
    obtain ⟨q6, h⟩ := gi_some h
    refine lM_2 S hK hP q6 dX6_hasToken_14 ?_
    refine lv_iload_n S.1 S.2.1 dX6_hasToken_15 rfl (lv_at hl 1 rfl) ?_
    refine lv_icmp_ne (tgt := 23) S.1 S.2.1 dX6_hasToken_16 (by decide) (fun c7 => ?_) (fun c7 => ?_)
    · rw [if_neg c7] at h
      refine lv_iconst (v := (0 : Int32)) S.1 S.2.1 dX6_hasToken_23 (by decide) ?_
      refine lv_goto (tgt := 55) S.1 S.2.1 dX6_hasToken_24 (by decide) ?_
      exact B_55 _ u h _ _ _ hP hS (lv_sub hl [] rfl)
    · rw [if_pos c7] at h
      refine lv_iconst (v := (1 : Int32)) S.1 S.2.1 dX6_hasToken_19 (by decide) ?_
      refine lv_goto (tgt := 55) S.1 S.2.1 dX6_hasToken_20 (by decide) ?_
      exact B_55 _ u h _ _ _ hP hS (lv_sub hl [] rfl)
theorem hy_X6_keeper : yX6_keeper.cls ≠ "java/lang/invoke/MethodHandle" ∧ yX6_keeper.cls ≠ "java/lang/invoke/VarHandle" ∧ (parseMethodDescriptor yX6_keeper.desc).map (fun d => d.parameters.length) = some 2 := by decide +kernel
set_option maxHeartbeats 4000000 in
set_option maxRecDepth 100000 in
theorem k_X6_keeper {l : Launch} {dC : Nat → ClassId} {dI : Nat → Nat → Nat} {ad : Nat → Nat} {cI : ClassId} (hap : AP ad 9) {x1 x2 : Int32} {u uf : Wo} {rf : Int32} (h : fX6_keeper x1 x2 u = some (rf, uf)) : CI l dC dI cI (WM ad cI) (AF ad 9) yX6_keeper cX6_keeper 4 (some .int) 2 43 [.ref (ad 0), .int x1, .int x2] u rf uf := by
  refine ci_begin (by decide) (Nat.le_of_ble_eq_true rfl) ?_
  intro p e s m args below meth c S hr hlk hK
  have B_18 : ∀ (u : Wo), fX6_keeper_18 u = some (rf, uf) → J p l e (rmk 2 43) s m args below meth c dC dI (WM ad cI) (AF ad 9) (MQ below (QI dC dI cI (WM ad cI) (AF ad 9) rf uf) args s 0 0 (AF ad 9)) u 18 4 [] [] := by
    intro u h H locs ls hP hS hl
    unfold fX6_keeper_18 at h
    refine lv_iconst (v := (-1 : Int32)) S.1 S.2.1 dX6_keeper_18 (by decide) ?_
    exact x_iret S hr hlk hK hP hS h dX6_keeper_19
  have B_104 : ∀ (s0 : Int32) (u : Wo), fX6_keeper_104 s0 u = some (rf, uf) → J p l e (rmk 2 43) s m args below meth c dC dI (WM ad cI) (AF ad 9) (MQ below (QI dC dI cI (WM ad cI) (AF ad 9) rf uf) args s 0 0 (AF ad 9)) u 104 4 [] [.int s0] := by
    intro s0 u h H locs ls hP hS hl
    unfold fX6_keeper_104 at h
    exact x_iret S hr hlk hK hP hS h dX6_keeper_104
  have B_146 : ∀ (s0 : Int32) (u : Wo), fX6_keeper_146 s0 u = some (rf, uf) → J p l e (rmk 2 43) s m args below meth c dC dI (WM ad cI) (AF ad 9) (MQ below (QI dC dI cI (WM ad cI) (AF ad 9) rf uf) args s 0 0 (AF ad 9)) u 146 4 [] [.int s0] := by
    intro s0 u h H locs ls hP hS hl
    unfold fX6_keeper_146 at h
    exact x_iret S hr hlk hK hP hS h dX6_keeper_146
  have B_178 : ∀ (s0 : Int32) (u : Wo), fX6_keeper_178 s0 u = some (rf, uf) → J p l e (rmk 2 43) s m args below meth c dC dI (WM ad cI) (AF ad 9) (MQ below (QI dC dI cI (WM ad cI) (AF ad 9) rf uf) args s 0 0 (AF ad 9)) u 178 4 [] [.int s0] := by
    intro s0 u h H locs ls hP hS hl
    unfold fX6_keeper_178 at h
    exact x_iret S hr hlk hK hP hS h dX6_keeper_178
  have B_177 : ∀ (u : Wo), fX6_keeper_177 u = some (rf, uf) → J p l e (rmk 2 43) s m args below meth c dC dI (WM ad cI) (AF ad 9) (MQ below (QI dC dI cI (WM ad cI) (AF ad 9) rf uf) args s 0 0 (AF ad 9)) u 177 4 [] [] := by
    intro u h H locs ls hP hS hl
    unfold fX6_keeper_177 at h
    refine lv_iconst (v := (0 : Int32)) S.1 S.2.1 dX6_keeper_177 (by decide) ?_
    exact B_178 _ u h _ _ _ hP hS (lv_sub hl [] rfl)
  have B_201 : ∀ (s0 : Int32) (u : Wo), fX6_keeper_201 s0 u = some (rf, uf) → J p l e (rmk 2 43) s m args below meth c dC dI (WM ad cI) (AF ad 9) (MQ below (QI dC dI cI (WM ad cI) (AF ad 9) rf uf) args s 0 0 (AF ad 9)) u 201 4 [] [.int s0] := by
    intro s0 u h H locs ls hP hS hl
    unfold fX6_keeper_201 at h
    exact x_iret S hr hlk hK hP hS h dX6_keeper_201
  have B_223 : ∀ (s0 : Int32) (u : Wo), fX6_keeper_223 s0 u = some (rf, uf) → J p l e (rmk 2 43) s m args below meth c dC dI (WM ad cI) (AF ad 9) (MQ below (QI dC dI cI (WM ad cI) (AF ad 9) rf uf) args s 0 0 (AF ad 9)) u 223 4 [] [.int s0] := by
    intro s0 u h H locs ls hP hS hl
    unfold fX6_keeper_223 at h
    exact x_iret S hr hlk hK hP hS h dX6_keeper_223
  have B_263 : ∀ (s0 : Int32) (u : Wo), fX6_keeper_263 s0 u = some (rf, uf) → J p l e (rmk 2 43) s m args below meth c dC dI (WM ad cI) (AF ad 9) (MQ below (QI dC dI cI (WM ad cI) (AF ad 9) rf uf) args s 0 0 (AF ad 9)) u 263 4 [] [.int s0] := by
    intro s0 u h H locs ls hP hS hl
    unfold fX6_keeper_263 at h
    exact x_iret S hr hlk hK hP hS h dX6_keeper_263
  intro H locs ls hP hS hl
  have hl : lv_has ls 4 [(0, .ref (ad 0)), (1, .int x1), (2, .int x2)] := hl
  unfold fX6_keeper at h
  refine lv_aload_n S.1 S.2.1 dX6_keeper_0 rfl (lv_at hl 0 rfl) ?_
  refine lv_iload_n S.1 S.2.1 dX6_keeper_1 rfl (lv_at hl 1 rfl) ?_
  obtain ⟨r2, u3, q1, h⟩ := bd_some h
  refine x_vi (Wf := WM ad cI) (q0 := 0) (ci := 6) (As := [.int x1]) (rest := []) S hK hP hS (k_X6_isKeeper hap q1) rfl rfl wl_X6_113 wi_X6_isKeeper ws_X6_isKeeper wz_X6 wc_X6_isKeeper hy_X6_isKeeper ⟨Nat.le_of_ble_eq_true rfl, Nat.le_of_ble_eq_true rfl⟩ hl.1 rfl (Nat.le_of_ble_eq_true rfl) dX6_keeper_2 (fun H locs hP hS => ?_)
  refine lv_if_eq (tgt := 18) S.1 S.2.1 dX6_keeper_5 (by decide) (fun c4 => ?_) (fun c4 => ?_)
  · rw [if_pos c4] at h
    exact B_18 u3 h _ _ _ hP hS (lv_sub hl [] rfl)
  · rw [if_neg c4] at h
    refine lv_iload_n S.1 S.2.1 dX6_keeper_8 rfl (lv_at hl 2 rfl) ?_
    refine lv_iconst (v := (0 : Int32)) S.1 S.2.1 dX6_keeper_9 (by decide) ?_
    refine lv_bipush (v := (9 : Int32)) S.1 S.2.1 dX6_keeper_10 (by decide) ?_
    obtain ⟨r6, u7, q5, h⟩ := bd_some h
    refine x_si (Wf := WM ad cI) (As := [.int x2, .int (0 : Int32), .int (9 : Int32)]) (rest := []) S hK hP hS (k_X6_in hap q5) wl_X6_47 wt_X6_in wz_X6 wc_X6_in hy_X6_in ⟨Nat.le_of_ble_eq_true rfl, Nat.le_of_ble_eq_true rfl⟩ hl.1 rfl (Nat.le_of_ble_eq_true rfl) dX6_keeper_12 (fun H locs hP hS => ?_)
    refine lv_if_ne (tgt := 20) S.1 S.2.1 dX6_keeper_15 (by decide) (fun c8 => ?_) (fun c8 => ?_)
    · rw [if_neg c8] at h
      refine lv_bipush (v := (21 : Int32)) S.1 S.2.1 dX6_keeper_20 (by decide) ?_
      refine lv_iload_n S.1 S.2.1 dX6_keeper_22 rfl (lv_at hl 1 rfl) ?_
      refine lv_imul S.1 S.2.1 dX6_keeper_23 ?_
      refine lv_istore_n (lv' := [(3, .int ((21 : Int32) * x1)), (0, .ref (ad 0)), (1, .int x1), (2, .int x2)]) S.1 S.2.1 dX6_keeper_24 rfl hl (by decide) rfl (fun ls hl => ?_)
      refine lv_iload_n S.1 S.2.1 dX6_keeper_25 rfl (lv_at hl 3 rfl) ?_
      by_cases c9_0 : x2 = (0 : Int32)
      · rw [if_pos c9_0] at h
        refine lv_tableIn (tgt := 76) (off := 50) S.1 S.2.1 dX6_keeper_26 (by rw [c9_0]; decide) (by rw [c9_0]; decide) (by rw [c9_0]; decide) (by decide) ?_
        refine lv_aload_n S.1 S.2.1 dX6_keeper_76 rfl (lv_at hl 1 rfl) ?_
        refine gM_0_st S hK hP wf_X6_17 dX6_keeper_77 ?_
        refine lv_iload_n S.1 S.2.1 dX6_keeper_80 rfl (lv_at hl 0 rfl) ?_
        refine lv_iconst (v := (0 : Int32)) S.1 S.2.1 dX6_keeper_81 (by decide) ?_
        refine lv_iadd S.1 S.2.1 dX6_keeper_82 ?_
        obtain ⟨q10, h⟩ := gi_some h
        refine lM_2 S hK hP q10 dX6_keeper_83 ?_
        exact x_iret S hr hlk hK hP hS h dX6_keeper_84
      rw [if_neg c9_0] at h
      by_cases c9_1 : x2 = (1 : Int32)
      · rw [if_pos c9_1] at h
        refine lv_tableIn (tgt := 85) (off := 59) S.1 S.2.1 dX6_keeper_26 (by rw [c9_1]; decide) (by rw [c9_1]; decide) (by rw [c9_1]; decide) (by decide) ?_
        refine lv_aload_n S.1 S.2.1 dX6_keeper_85 rfl (lv_at hl 1 rfl) ?_
        refine gM_0_way S hK hP wf_X6_66 dX6_keeper_86 ?_
        refine lv_if_ne (tgt := 103) S.1 S.2.1 dX6_keeper_89 (by decide) (fun c11 => ?_) (fun c11 => ?_)
        · rw [if_neg c11] at h
          refine lv_iconst (v := (0 : Int32)) S.1 S.2.1 dX6_keeper_103 (by decide) ?_
          exact B_104 _ u7 h _ _ _ hP hS (lv_sub hl [] rfl)
        · rw [if_pos c11] at h
          refine lv_aload_n S.1 S.2.1 dX6_keeper_92 rfl (lv_at hl 1 rfl) ?_
          refine gM_0_st S hK hP wf_X6_17 dX6_keeper_93 ?_
          refine lv_iload_n S.1 S.2.1 dX6_keeper_96 rfl (lv_at hl 0 rfl) ?_
          refine lv_iconst (v := (1 : Int32)) S.1 S.2.1 dX6_keeper_97 (by decide) ?_
          refine lv_iadd S.1 S.2.1 dX6_keeper_98 ?_
          obtain ⟨q12, h⟩ := gi_some h
          refine lM_2 S hK hP q12 dX6_keeper_99 ?_
          refine lv_goto (tgt := 104) S.1 S.2.1 dX6_keeper_100 (by decide) ?_
          exact B_104 _ u7 h _ _ _ hP hS (lv_sub hl [] rfl)
      rw [if_neg c9_1] at h
      by_cases c9_2 : x2 = (2 : Int32)
      · rw [if_pos c9_2] at h
        refine lv_tableIn (tgt := 105) (off := 79) S.1 S.2.1 dX6_keeper_26 (by rw [c9_2]; decide) (by rw [c9_2]; decide) (by rw [c9_2]; decide) (by decide) ?_
        refine lv_aload_n S.1 S.2.1 dX6_keeper_105 rfl (lv_at hl 1 rfl) ?_
        refine gM_0_way S hK hP wf_X6_66 dX6_keeper_106 ?_
        refine lv_if_ne (tgt := 123) S.1 S.2.1 dX6_keeper_109 (by decide) (fun c13 => ?_) (fun c13 => ?_)
        · rw [if_neg c13] at h
          refine lv_aload_n S.1 S.2.1 dX6_keeper_123 rfl (lv_at hl 1 rfl) ?_
          refine gM_0_way S hK hP wf_X6_66 dX6_keeper_124 ?_
          refine lv_iconst (v := (1 : Int32)) S.1 S.2.1 dX6_keeper_127 (by decide) ?_
          refine lv_icmp_ne (tgt := 145) S.1 S.2.1 dX6_keeper_128 (by decide) (fun c14 => ?_) (fun c14 => ?_)
          · rw [if_neg c14] at h
            refine lv_iconst (v := (0 : Int32)) S.1 S.2.1 dX6_keeper_145 (by decide) ?_
            exact B_146 _ u7 h _ _ _ hP hS (lv_sub hl [] rfl)
          · rw [if_pos c14] at h
            refine lv_aload_n S.1 S.2.1 dX6_keeper_131 rfl (lv_at hl 1 rfl) ?_
            refine gM_0_st S hK hP wf_X6_17 dX6_keeper_132 ?_
            refine lv_iload_n S.1 S.2.1 dX6_keeper_135 rfl (lv_at hl 0 rfl) ?_
            refine lv_bipush (v := (14 : Int32)) S.1 S.2.1 dX6_keeper_136 (by decide) ?_
            refine lv_iadd S.1 S.2.1 dX6_keeper_138 ?_
            refine lv_iload_n S.1 S.2.1 dX6_keeper_139 rfl (lv_at hl 2 rfl) ?_
            refine lv_iadd S.1 S.2.1 dX6_keeper_140 ?_
            obtain ⟨q15, h⟩ := gi_some h
            refine lM_2 S hK hP q15 dX6_keeper_141 ?_
            refine lv_goto (tgt := 146) S.1 S.2.1 dX6_keeper_142 (by decide) ?_
            exact B_146 _ u7 h _ _ _ hP hS (lv_sub hl [] rfl)
        · rw [if_pos c13] at h
          refine lv_aload_n S.1 S.2.1 dX6_keeper_112 rfl (lv_at hl 1 rfl) ?_
          refine gM_0_st S hK hP wf_X6_17 dX6_keeper_113 ?_
          refine lv_iload_n S.1 S.2.1 dX6_keeper_116 rfl (lv_at hl 0 rfl) ?_
          refine lv_iconst (v := (2 : Int32)) S.1 S.2.1 dX6_keeper_117 (by decide) ?_
          refine lv_iadd S.1 S.2.1 dX6_keeper_118 ?_
          obtain ⟨q16, h⟩ := gi_some h
          refine lM_2 S hK hP q16 dX6_keeper_119 ?_
          refine lv_goto (tgt := 146) S.1 S.2.1 dX6_keeper_120 (by decide) ?_
          exact B_146 _ u7 h _ _ _ hP hS (lv_sub hl [] rfl)
      rw [if_neg c9_2] at h
      by_cases c9_3 : x2 = (3 : Int32)
      · rw [if_pos c9_3] at h
        refine lv_tableIn (tgt := 147) (off := 121) S.1 S.2.1 dX6_keeper_26 (by rw [c9_3]; decide) (by rw [c9_3]; decide) (by rw [c9_3]; decide) (by decide) ?_
        refine lv_aload_n S.1 S.2.1 dX6_keeper_147 rfl (lv_at hl 1 rfl) ?_
        refine gM_0_way S hK hP wf_X6_66 dX6_keeper_148 ?_
        refine lv_if_ne (tgt := 177) S.1 S.2.1 dX6_keeper_151 (by decide) (fun c17 => ?_) (fun c17 => ?_)
        · rw [if_neg c17] at h
          exact B_177 u7 h _ _ _ hP hS (lv_sub hl [] rfl)
        · rw [if_pos c17] at h
          refine lv_aload_n S.1 S.2.1 dX6_keeper_154 rfl (lv_at hl 1 rfl) ?_
          refine gM_0_st S hK hP wf_X6_17 dX6_keeper_155 ?_
          refine lv_iload_n S.1 S.2.1 dX6_keeper_158 rfl (lv_at hl 0 rfl) ?_
          refine lv_iconst (v := (0 : Int32)) S.1 S.2.1 dX6_keeper_159 (by decide) ?_
          refine lv_iadd S.1 S.2.1 dX6_keeper_160 ?_
          obtain ⟨q18, h⟩ := gi_some h
          refine lM_2 S hK hP q18 dX6_keeper_161 ?_
          refine lv_iconst (v := (1 : Int32)) S.1 S.2.1 dX6_keeper_162 (by decide) ?_
          refine lv_icmp_ne (tgt := 177) S.1 S.2.1 dX6_keeper_163 (by decide) (fun c19 => ?_) (fun c19 => ?_)
          · rw [if_neg c19] at h
            exact B_177 u7 h _ _ _ hP hS (lv_sub hl [] rfl)
          · rw [if_pos c19] at h
            refine lv_aload_n S.1 S.2.1 dX6_keeper_166 rfl (lv_at hl 1 rfl) ?_
            refine gM_0_st S hK hP wf_X6_17 dX6_keeper_167 ?_
            refine lv_iload_n S.1 S.2.1 dX6_keeper_170 rfl (lv_at hl 0 rfl) ?_
            refine lv_iconst (v := (3 : Int32)) S.1 S.2.1 dX6_keeper_171 (by decide) ?_
            refine lv_iadd S.1 S.2.1 dX6_keeper_172 ?_
            obtain ⟨q20, h⟩ := gi_some h
            refine lM_2 S hK hP q20 dX6_keeper_173 ?_
            refine lv_goto (tgt := 178) S.1 S.2.1 dX6_keeper_174 (by decide) ?_
            exact B_178 _ u7 h _ _ _ hP hS (lv_sub hl [] rfl)
      rw [if_neg c9_3] at h
      by_cases c9_4 : x2 = (4 : Int32)
      · rw [if_pos c9_4] at h
        refine lv_tableIn (tgt := 179) (off := 153) S.1 S.2.1 dX6_keeper_26 (by rw [c9_4]; decide) (by rw [c9_4]; decide) (by rw [c9_4]; decide) (by decide) ?_
        refine lv_aload_n S.1 S.2.1 dX6_keeper_179 rfl (lv_at hl 1 rfl) ?_
        refine gM_0_st S hK hP wf_X6_17 dX6_keeper_180 ?_
        refine lv_iload_n S.1 S.2.1 dX6_keeper_183 rfl (lv_at hl 0 rfl) ?_
        refine lv_iconst (v := (4 : Int32)) S.1 S.2.1 dX6_keeper_184 (by decide) ?_
        refine lv_iadd S.1 S.2.1 dX6_keeper_185 ?_
        obtain ⟨q21, h⟩ := gi_some h
        refine lM_2 S hK hP q21 dX6_keeper_186 ?_
        exact x_iret S hr hlk hK hP hS h dX6_keeper_187
      rw [if_neg c9_4] at h
      by_cases c9_5 : x2 = (5 : Int32)
      · rw [if_pos c9_5] at h
        refine lv_tableIn (tgt := 188) (off := 162) S.1 S.2.1 dX6_keeper_26 (by rw [c9_5]; decide) (by rw [c9_5]; decide) (by rw [c9_5]; decide) (by decide) ?_
        refine lv_aload_n S.1 S.2.1 dX6_keeper_188 rfl (lv_at hl 1 rfl) ?_
        refine lv_iload_n S.1 S.2.1 dX6_keeper_189 rfl (lv_at hl 2 rfl) ?_
        obtain ⟨r23, u24, q22, h⟩ := bd_some h
        refine x_vi (Wf := WM ad cI) (q0 := 0) (ci := 6) (As := [.int x1]) (rest := []) S hK hP hS (k_X6_hasToken hap q22) rfl rfl wl_X6_147 wi_X6_hasToken ws_X6_hasToken wz_X6 wc_X6_hasToken hy_X6_hasToken ⟨Nat.le_of_ble_eq_true rfl, Nat.le_of_ble_eq_true rfl⟩ hl.1 rfl (Nat.le_of_ble_eq_true rfl) dX6_keeper_190 (fun H locs hP hS => ?_)
        refine lv_if_eq (tgt := 200) S.1 S.2.1 dX6_keeper_193 (by decide) (fun c25 => ?_) (fun c25 => ?_)
        · rw [if_pos c25] at h
          refine lv_iconst (v := (0 : Int32)) S.1 S.2.1 dX6_keeper_200 (by decide) ?_
          exact B_201 _ u24 h _ _ _ hP hS (lv_sub hl [] rfl)
        · rw [if_neg c25] at h
          refine lv_iconst (v := (1 : Int32)) S.1 S.2.1 dX6_keeper_196 (by decide) ?_
          refine lv_goto (tgt := 201) S.1 S.2.1 dX6_keeper_197 (by decide) ?_
          exact B_201 _ u24 h _ _ _ hP hS (lv_sub hl [] rfl)
      rw [if_neg c9_5] at h
      by_cases c9_6 : x2 = (6 : Int32)
      · rw [if_pos c9_6] at h
        refine lv_tableIn (tgt := 202) (off := 176) S.1 S.2.1 dX6_keeper_26 (by rw [c9_6]; decide) (by rw [c9_6]; decide) (by rw [c9_6]; decide) (by decide) ?_
        refine lv_aload_n S.1 S.2.1 dX6_keeper_202 rfl (lv_at hl 1 rfl) ?_
        refine gM_0_way S hK hP wf_X6_66 dX6_keeper_203 ?_
        refine lv_iconst (v := (2 : Int32)) S.1 S.2.1 dX6_keeper_206 (by decide) ?_
        refine lv_icmp_ne (tgt := 221) S.1 S.2.1 dX6_keeper_207 (by decide) (fun c26 => ?_) (fun c26 => ?_)
        · rw [if_neg c26] at h
          refine lv_bipush (v := (-4 : Int32)) S.1 S.2.1 dX6_keeper_221 (by decide) ?_
          exact B_223 _ u7 h _ _ _ hP hS (lv_sub hl [] rfl)
        · rw [if_pos c26] at h
          refine lv_aload_n S.1 S.2.1 dX6_keeper_210 rfl (lv_at hl 1 rfl) ?_
          refine gM_0_st S hK hP wf_X6_17 dX6_keeper_211 ?_
          refine lv_iload_n S.1 S.2.1 dX6_keeper_214 rfl (lv_at hl 0 rfl) ?_
          refine lv_iconst (v := (5 : Int32)) S.1 S.2.1 dX6_keeper_215 (by decide) ?_
          refine lv_iadd S.1 S.2.1 dX6_keeper_216 ?_
          obtain ⟨q27, h⟩ := gi_some h
          refine lM_2 S hK hP q27 dX6_keeper_217 ?_
          refine lv_goto (tgt := 223) S.1 S.2.1 dX6_keeper_218 (by decide) ?_
          exact B_223 _ u7 h _ _ _ hP hS (lv_sub hl [] rfl)
      rw [if_neg c9_6] at h
      by_cases c9_7 : x2 = (7 : Int32)
      · rw [if_pos c9_7] at h
        refine lv_tableIn (tgt := 224) (off := 198) S.1 S.2.1 dX6_keeper_26 (by rw [c9_7]; decide) (by rw [c9_7]; decide) (by rw [c9_7]; decide) (by decide) ?_
        refine lv_aload_n S.1 S.2.1 dX6_keeper_224 rfl (lv_at hl 1 rfl) ?_
        refine gM_0_st S hK hP wf_X6_17 dX6_keeper_225 ?_
        refine lv_iload_n S.1 S.2.1 dX6_keeper_228 rfl (lv_at hl 0 rfl) ?_
        refine lv_bipush (v := (6 : Int32)) S.1 S.2.1 dX6_keeper_229 (by decide) ?_
        refine lv_iadd S.1 S.2.1 dX6_keeper_231 ?_
        obtain ⟨q28, h⟩ := gi_some h
        refine lM_2 S hK hP q28 dX6_keeper_232 ?_
        exact x_iret S hr hlk hK hP hS h dX6_keeper_233
      rw [if_neg c9_7] at h
      by_cases c9_8 : x2 = (8 : Int32)
      · rw [if_pos c9_8] at h
        refine lv_tableIn (tgt := 234) (off := 208) S.1 S.2.1 dX6_keeper_26 (by rw [c9_8]; decide) (by rw [c9_8]; decide) (by rw [c9_8]; decide) (by decide) ?_
        refine lv_aload_n S.1 S.2.1 dX6_keeper_234 rfl (lv_at hl 1 rfl) ?_
        refine gM_0_st S hK hP wf_X6_17 dX6_keeper_235 ?_
        refine lv_iload_n S.1 S.2.1 dX6_keeper_238 rfl (lv_at hl 0 rfl) ?_
        refine lv_bipush (v := (7 : Int32)) S.1 S.2.1 dX6_keeper_239 (by decide) ?_
        refine lv_iadd S.1 S.2.1 dX6_keeper_241 ?_
        obtain ⟨q29, h⟩ := gi_some h
        refine lM_2 S hK hP q29 dX6_keeper_242 ?_
        exact x_iret S hr hlk hK hP hS h dX6_keeper_243
      rw [if_neg c9_8] at h
      have ec9_0 : (x2).toInt ≠ 0 := fun q => c9_0 (Int32.toInt_inj.mp (q.trans (by decide)))
      have ec9_1 : (x2).toInt ≠ 1 := fun q => c9_1 (Int32.toInt_inj.mp (q.trans (by decide)))
      have ec9_2 : (x2).toInt ≠ 2 := fun q => c9_2 (Int32.toInt_inj.mp (q.trans (by decide)))
      have ec9_3 : (x2).toInt ≠ 3 := fun q => c9_3 (Int32.toInt_inj.mp (q.trans (by decide)))
      have ec9_4 : (x2).toInt ≠ 4 := fun q => c9_4 (Int32.toInt_inj.mp (q.trans (by decide)))
      have ec9_5 : (x2).toInt ≠ 5 := fun q => c9_5 (Int32.toInt_inj.mp (q.trans (by decide)))
      have ec9_6 : (x2).toInt ≠ 6 := fun q => c9_6 (Int32.toInt_inj.mp (q.trans (by decide)))
      have ec9_7 : (x2).toInt ≠ 7 := fun q => c9_7 (Int32.toInt_inj.mp (q.trans (by decide)))
      have ec9_8 : (x2).toInt ≠ 8 := fun q => c9_8 (Int32.toInt_inj.mp (q.trans (by decide)))
      refine lv_tableOut (tgt := 244) S.1 S.2.1 dX6_keeper_26 (by omega) (by decide) ?_
      refine lv_aload_n S.1 S.2.1 dX6_keeper_244 rfl (lv_at hl 1 rfl) ?_
      refine gM_0_way S hK hP wf_X6_66 dX6_keeper_245 ?_
      refine lv_iconst (v := (2 : Int32)) S.1 S.2.1 dX6_keeper_248 (by decide) ?_
      refine lv_icmp_ne (tgt := 261) S.1 S.2.1 dX6_keeper_249 (by decide) (fun c30 => ?_) (fun c30 => ?_)
      · rw [if_neg c30] at h
        refine lv_bipush (v := (-4 : Int32)) S.1 S.2.1 dX6_keeper_261 (by decide) ?_
        exact B_263 _ u7 h _ _ _ hP hS (lv_sub hl [] rfl)
      · rw [if_pos c30] at h
        refine lv_aload_n S.1 S.2.1 dX6_keeper_252 rfl (lv_at hl 1 rfl) ?_
        refine gM_0_parent S hK hP wf_X6_13 dX6_keeper_253 ?_
        refine lv_iload_n S.1 S.2.1 dX6_keeper_256 rfl (lv_at hl 2 rfl) ?_
        obtain ⟨q31, h⟩ := gi_some h
        refine lM_1 S hK hP q31 dX6_keeper_257 ?_
        refine lv_goto (tgt := 263) S.1 S.2.1 dX6_keeper_258 (by decide) ?_
        exact B_263 _ u7 h _ _ _ hP hS (lv_sub hl [] rfl)
    · rw [if_pos c8] at h
      exact B_18 u7 h _ _ _ hP hS (lv_sub hl [] rfl)
theorem hy_X6_knows : yX6_knows.cls ≠ "java/lang/invoke/MethodHandle" ∧ yX6_knows.cls ≠ "java/lang/invoke/VarHandle" ∧ (parseMethodDescriptor yX6_knows.desc).map (fun d => d.parameters.length) = some 2 := by decide +kernel
set_option maxHeartbeats 4000000 in
set_option maxRecDepth 100000 in
theorem k_X6_knows {l : Launch} {dC : Nat → ClassId} {dI : Nat → Nat → Nat} {ad : Nat → Nat} {cI : ClassId} (hap : AP ad 9) {x1 x2 : Int32} {u uf : Wo} {rf : Int32} (h : fX6_knows x1 x2 u = some (rf, uf)) : CI l dC dI cI (WM ad cI) (AF ad 9) yX6_knows cX6_knows 3 (some .int) 2 43 [.ref (ad 0), .int x1, .int x2] u rf uf := by
  refine ci_begin (by decide) (Nat.le_of_ble_eq_true rfl) ?_
  intro p e s m args below meth c S hr hlk hK
  have B_19 : ∀ (u : Wo), fX6_knows_19 u = some (rf, uf) → J p l e (rmk 2 43) s m args below meth c dC dI (WM ad cI) (AF ad 9) (MQ below (QI dC dI cI (WM ad cI) (AF ad 9) rf uf) args s 0 0 (AF ad 9)) u 19 3 [] [] := by
    intro u h H locs ls hP hS hl
    unfold fX6_knows_19 at h
    refine lv_bipush (v := (-4 : Int32)) S.1 S.2.1 dX6_knows_19 (by decide) ?_
    exact x_iret S hr hlk hK hP hS h dX6_knows_21
  have B_93 : ∀ (s0 : Int32) (u : Wo), fX6_knows_93 s0 u = some (rf, uf) → J p l e (rmk 2 43) s m args below meth c dC dI (WM ad cI) (AF ad 9) (MQ below (QI dC dI cI (WM ad cI) (AF ad 9) rf uf) args s 0 0 (AF ad 9)) u 93 3 [] [.int s0] := by
    intro s0 u h H locs ls hP hS hl
    unfold fX6_knows_93 at h
    exact x_iret S hr hlk hK hP hS h dX6_knows_93
  have B_57 : ∀ (s0 : Int32) (u : Wo), fX6_knows_57 s0 u = some (rf, uf) → J p l e (rmk 2 43) s m args below meth c dC dI (WM ad cI) (AF ad 9) (MQ below (QI dC dI cI (WM ad cI) (AF ad 9) rf uf) args s 0 0 (AF ad 9)) u 57 3 [] [.int s0] := by
    intro s0 u h H locs ls hP hS hl
    unfold fX6_knows_57 at h
    exact x_iret S hr hlk hK hP hS h dX6_knows_57
  intro H locs ls hP hS hl
  have hl : lv_has ls 3 [(0, .ref (ad 0)), (1, .int x1), (2, .int x2)] := hl
  unfold fX6_knows at h
  refine lv_aload_n S.1 S.2.1 dX6_knows_0 rfl (lv_at hl 0 rfl) ?_
  refine lv_iload_n S.1 S.2.1 dX6_knows_1 rfl (lv_at hl 1 rfl) ?_
  obtain ⟨r2, u3, q1, h⟩ := bd_some h
  refine x_vi (Wf := WM ad cI) (q0 := 0) (ci := 6) (As := [.int x1]) (rest := []) S hK hP hS (k_X6_isKeeper hap q1) rfl rfl wl_X6_113 wi_X6_isKeeper ws_X6_isKeeper wz_X6 wc_X6_isKeeper hy_X6_isKeeper ⟨Nat.le_of_ble_eq_true rfl, Nat.le_of_ble_eq_true rfl⟩ hl.1 rfl (Nat.le_of_ble_eq_true rfl) dX6_knows_2 (fun H locs hP hS => ?_)
  refine lv_if_eq (tgt := 19) S.1 S.2.1 dX6_knows_5 (by decide) (fun c4 => ?_) (fun c4 => ?_)
  · rw [if_pos c4] at h
    exact B_19 u3 h _ _ _ hP hS (lv_sub hl [] rfl)
  · rw [if_neg c4] at h
    refine lv_iload_n S.1 S.2.1 dX6_knows_8 rfl (lv_at hl 2 rfl) ?_
    refine lv_if_lt (tgt := 19) S.1 S.2.1 dX6_knows_9 (by decide) (fun c5 => ?_) (fun c5 => ?_)
    · rw [if_pos c5] at h
      exact B_19 u3 h _ _ _ hP hS (lv_sub hl [] rfl)
    · rw [if_neg c5] at h
      refine lv_aload_n S.1 S.2.1 dX6_knows_12 rfl (lv_at hl 0 rfl) ?_
      refine gM_0_way S hK hP wf_X6_66 dX6_knows_13 ?_
      refine lv_if_ne (tgt := 22) S.1 S.2.1 dX6_knows_16 (by decide) (fun c6 => ?_) (fun c6 => ?_)
      · rw [if_neg c6] at h
        refine lv_aload_n S.1 S.2.1 dX6_knows_22 rfl (lv_at hl 0 rfl) ?_
        refine gM_0_way S hK hP wf_X6_66 dX6_knows_23 ?_
        refine lv_iconst (v := (1 : Int32)) S.1 S.2.1 dX6_knows_26 (by decide) ?_
        refine lv_icmp_ne (tgt := 58) S.1 S.2.1 dX6_knows_27 (by decide) (fun c7 => ?_) (fun c7 => ?_)
        · rw [if_neg c7] at h
          refine lv_iload_n S.1 S.2.1 dX6_knows_58 rfl (lv_at hl 2 rfl) ?_
          refine lv_aload_n S.1 S.2.1 dX6_knows_59 rfl (lv_at hl 0 rfl) ?_
          refine gM_0_st S hK hP wf_X6_17 dX6_knows_60 ?_
          refine lv_bipush (v := (21 : Int32)) S.1 S.2.1 dX6_knows_63 (by decide) ?_
          refine lv_iload_n S.1 S.2.1 dX6_knows_65 rfl (lv_at hl 1 rfl) ?_
          refine lv_imul S.1 S.2.1 dX6_knows_66 ?_
          refine lv_bipush (v := (7 : Int32)) S.1 S.2.1 dX6_knows_67 (by decide) ?_
          refine lv_iadd S.1 S.2.1 dX6_knows_69 ?_
          obtain ⟨q8, h⟩ := gi_some h
          refine lM_2 S hK hP q8 dX6_knows_70 ?_
          refine lv_icmp_ge (tgt := 91) S.1 S.2.1 dX6_knows_71 (by decide) (fun c9 => ?_) (fun c9 => ?_)
          · rw [if_pos c9] at h
            refine lv_bipush (v := (-4 : Int32)) S.1 S.2.1 dX6_knows_91 (by decide) ?_
            exact B_93 _ u3 h _ _ _ hP hS (lv_sub hl [] rfl)
          · rw [if_neg c9] at h
            refine lv_aload_n S.1 S.2.1 dX6_knows_74 rfl (lv_at hl 0 rfl) ?_
            refine gM_0_st S hK hP wf_X6_17 dX6_knows_75 ?_
            refine lv_bipush (v := (21 : Int32)) S.1 S.2.1 dX6_knows_78 (by decide) ?_
            refine lv_iload_n S.1 S.2.1 dX6_knows_80 rfl (lv_at hl 1 rfl) ?_
            refine lv_imul S.1 S.2.1 dX6_knows_81 ?_
            refine lv_bipush (v := (8 : Int32)) S.1 S.2.1 dX6_knows_82 (by decide) ?_
            refine lv_iadd S.1 S.2.1 dX6_knows_84 ?_
            refine lv_iload_n S.1 S.2.1 dX6_knows_85 rfl (lv_at hl 2 rfl) ?_
            refine lv_iadd S.1 S.2.1 dX6_knows_86 ?_
            obtain ⟨q10, h⟩ := gi_some h
            refine lM_2 S hK hP q10 dX6_knows_87 ?_
            refine lv_goto (tgt := 93) S.1 S.2.1 dX6_knows_88 (by decide) ?_
            exact B_93 _ u3 h _ _ _ hP hS (lv_sub hl [] rfl)
        · rw [if_pos c7] at h
          refine lv_iload_n S.1 S.2.1 dX6_knows_30 rfl (lv_at hl 2 rfl) ?_
          refine lv_aload_n S.1 S.2.1 dX6_knows_31 rfl (lv_at hl 0 rfl) ?_
          refine gM_0_n S hK hP wf_X6_7 dX6_knows_32 ?_
          refine lv_icmp_ge (tgt := 55) S.1 S.2.1 dX6_knows_35 (by decide) (fun c11 => ?_) (fun c11 => ?_)
          · rw [if_pos c11] at h
            refine lv_bipush (v := (-4 : Int32)) S.1 S.2.1 dX6_knows_55 (by decide) ?_
            exact B_57 _ u3 h _ _ _ hP hS (lv_sub hl [] rfl)
          · rw [if_neg c11] at h
            refine lv_aload_n S.1 S.2.1 dX6_knows_38 rfl (lv_at hl 0 rfl) ?_
            refine gM_0_st S hK hP wf_X6_17 dX6_knows_39 ?_
            refine lv_bipush (v := (21 : Int32)) S.1 S.2.1 dX6_knows_42 (by decide) ?_
            refine lv_iload_n S.1 S.2.1 dX6_knows_44 rfl (lv_at hl 1 rfl) ?_
            refine lv_imul S.1 S.2.1 dX6_knows_45 ?_
            refine lv_bipush (v := (14 : Int32)) S.1 S.2.1 dX6_knows_46 (by decide) ?_
            refine lv_iadd S.1 S.2.1 dX6_knows_48 ?_
            refine lv_iload_n S.1 S.2.1 dX6_knows_49 rfl (lv_at hl 2 rfl) ?_
            refine lv_iadd S.1 S.2.1 dX6_knows_50 ?_
            obtain ⟨q12, h⟩ := gi_some h
            refine lM_2 S hK hP q12 dX6_knows_51 ?_
            refine lv_goto (tgt := 57) S.1 S.2.1 dX6_knows_52 (by decide) ?_
            exact B_57 _ u3 h _ _ _ hP hS (lv_sub hl [] rfl)
      · rw [if_pos c6] at h
        exact B_19 u3 h _ _ _ hP hS (lv_sub hl [] rfl)
theorem hy_X6_token : yX6_token.cls ≠ "java/lang/invoke/MethodHandle" ∧ yX6_token.cls ≠ "java/lang/invoke/VarHandle" ∧ (parseMethodDescriptor yX6_token.desc).map (fun d => d.parameters.length) = some 2 := by decide +kernel
set_option maxHeartbeats 4000000 in
set_option maxRecDepth 100000 in
theorem k_X6_token {l : Launch} {dC : Nat → ClassId} {dI : Nat → Nat → Nat} {ad : Nat → Nat} {cI : ClassId} (hap : AP ad 9) {x1 x2 : Int32} {u uf : Wo} {rf : Int32} (h : fX6_token x1 x2 u = some (rf, uf)) : CI l dC dI cI (WM ad cI) (AF ad 9) yX6_token cX6_token 3 (some .int) 2 43 [.ref (ad 0), .int x1, .int x2] u rf uf := by
  refine ci_begin (by decide) (Nat.le_of_ble_eq_true rfl) ?_
  intro p e s m args below meth c S hr hlk hK
  have B_17 : ∀ (u : Wo), fX6_token_17 u = some (rf, uf) → J p l e (rmk 2 43) s m args below meth c dC dI (WM ad cI) (AF ad 9) (MQ below (QI dC dI cI (WM ad cI) (AF ad 9) rf uf) args s 0 0 (AF ad 9)) u 17 3 [] [] := by
    intro u h H locs ls hP hS hl
    unfold fX6_token_17 at h
    refine lv_iconst (v := (-1 : Int32)) S.1 S.2.1 dX6_token_17 (by decide) ?_
    exact x_iret S hr hlk hK hP hS h dX6_token_18
  have B_73 : ∀ (s0 : Int32) (u : Wo), fX6_token_73 s0 u = some (rf, uf) → J p l e (rmk 2 43) s m args below meth c dC dI (WM ad cI) (AF ad 9) (MQ below (QI dC dI cI (WM ad cI) (AF ad 9) rf uf) args s 0 0 (AF ad 9)) u 73 3 [] [.int s0] := by
    intro s0 u h H locs ls hP hS hl
    unfold fX6_token_73 at h
    exact x_iret S hr hlk hK hP hS h dX6_token_73
  intro H locs ls hP hS hl
  have hl : lv_has ls 3 [(0, .ref (ad 0)), (1, .int x1), (2, .int x2)] := hl
  unfold fX6_token at h
  refine lv_iload_n S.1 S.2.1 dX6_token_0 rfl (lv_at hl 1 rfl) ?_
  refine lv_iconst (v := (0 : Int32)) S.1 S.2.1 dX6_token_1 (by decide) ?_
  refine lv_iconst (v := (1 : Int32)) S.1 S.2.1 dX6_token_2 (by decide) ?_
  obtain ⟨r2, u3, q1, h⟩ := bd_some h
  refine x_si (Wf := WM ad cI) (As := [.int x1, .int (0 : Int32), .int (1 : Int32)]) (rest := []) S hK hP hS (k_X6_in hap q1) wl_X6_47 wt_X6_in wz_X6 wc_X6_in hy_X6_in ⟨Nat.le_of_ble_eq_true rfl, Nat.le_of_ble_eq_true rfl⟩ hl.1 rfl (Nat.le_of_ble_eq_true rfl) dX6_token_3 (fun H locs hP hS => ?_)
  refine lv_if_eq (tgt := 17) S.1 S.2.1 dX6_token_6 (by decide) (fun c4 => ?_) (fun c4 => ?_)
  · rw [if_pos c4] at h
    exact B_17 u3 h _ _ _ hP hS (lv_sub hl [] rfl)
  · rw [if_neg c4] at h
    refine lv_aload_n S.1 S.2.1 dX6_token_9 rfl (lv_at hl 0 rfl) ?_
    refine lv_iload_n S.1 S.2.1 dX6_token_10 rfl (lv_at hl 2 rfl) ?_
    obtain ⟨r6, u7, q5, h⟩ := bd_some h
    refine x_vi (Wf := WM ad cI) (q0 := 0) (ci := 6) (As := [.int x2]) (rest := []) S hK hP hS (k_X6_isKeeper hap q5) rfl rfl wl_X6_113 wi_X6_isKeeper ws_X6_isKeeper wz_X6 wc_X6_isKeeper hy_X6_isKeeper ⟨Nat.le_of_ble_eq_true rfl, Nat.le_of_ble_eq_true rfl⟩ hl.1 rfl (Nat.le_of_ble_eq_true rfl) dX6_token_11 (fun H locs hP hS => ?_)
    refine lv_if_ne (tgt := 19) S.1 S.2.1 dX6_token_14 (by decide) (fun c8 => ?_) (fun c8 => ?_)
    · rw [if_neg c8] at h
      refine lv_aload_n S.1 S.2.1 dX6_token_19 rfl (lv_at hl 0 rfl) ?_
      refine gM_0_way S hK hP wf_X6_66 dX6_token_20 ?_
      refine lv_iconst (v := (1 : Int32)) S.1 S.2.1 dX6_token_23 (by decide) ?_
      refine lv_icmp_eq (tgt := 30) S.1 S.2.1 dX6_token_24 (by decide) (fun c9 => ?_) (fun c9 => ?_)
      · rw [if_pos c9] at h
        refine lv_iload_n S.1 S.2.1 dX6_token_30 rfl (lv_at hl 1 rfl) ?_
        refine lv_if_ne (tgt := 46) S.1 S.2.1 dX6_token_31 (by decide) (fun c10 => ?_) (fun c10 => ?_)
        · rw [if_neg c10] at h
          refine lv_iload_n S.1 S.2.1 dX6_token_46 rfl (lv_at hl 2 rfl) ?_
          refine lv_aload_n S.1 S.2.1 dX6_token_47 rfl (lv_at hl 0 rfl) ?_
          refine gM_0_st S hK hP wf_X6_17 dX6_token_48 ?_
          refine lv_sipush (v := (133 : Int32)) S.1 S.2.1 dX6_token_51 (by decide) ?_
          obtain ⟨q11, h⟩ := gi_some h
          refine lM_2 S hK hP q11 dX6_token_54 ?_
          refine lv_icmp_ge (tgt := 71) S.1 S.2.1 dX6_token_55 (by decide) (fun c12 => ?_) (fun c12 => ?_)
          · rw [if_pos c12] at h
            refine lv_bipush (v := (-4 : Int32)) S.1 S.2.1 dX6_token_71 (by decide) ?_
            exact B_73 _ u7 h _ _ _ hP hS (lv_sub hl [] rfl)
          · rw [if_neg c12] at h
            refine lv_aload_n S.1 S.2.1 dX6_token_58 rfl (lv_at hl 0 rfl) ?_
            refine gM_0_st S hK hP wf_X6_17 dX6_token_59 ?_
            refine lv_sipush (v := (134 : Int32)) S.1 S.2.1 dX6_token_62 (by decide) ?_
            refine lv_iload_n S.1 S.2.1 dX6_token_65 rfl (lv_at hl 2 rfl) ?_
            refine lv_iadd S.1 S.2.1 dX6_token_66 ?_
            obtain ⟨q13, h⟩ := gi_some h
            refine lM_2 S hK hP q13 dX6_token_67 ?_
            refine lv_goto (tgt := 73) S.1 S.2.1 dX6_token_68 (by decide) ?_
            exact B_73 _ u7 h _ _ _ hP hS (lv_sub hl [] rfl)
        · rw [if_pos c10] at h
          refine lv_aload_n S.1 S.2.1 dX6_token_34 rfl (lv_at hl 0 rfl) ?_
          refine gM_0_st S hK hP wf_X6_17 dX6_token_35 ?_
          refine lv_bipush (v := (127 : Int32)) S.1 S.2.1 dX6_token_38 (by decide) ?_
          refine lv_iload_n S.1 S.2.1 dX6_token_40 rfl (lv_at hl 2 rfl) ?_
          refine lv_iadd S.1 S.2.1 dX6_token_41 ?_
          obtain ⟨q14, h⟩ := gi_some h
          refine lM_2 S hK hP q14 dX6_token_42 ?_
          refine lv_goto (tgt := 73) S.1 S.2.1 dX6_token_43 (by decide) ?_
          exact B_73 _ u7 h _ _ _ hP hS (lv_sub hl [] rfl)
      · rw [if_neg c9] at h
        refine lv_bipush (v := (-2 : Int32)) S.1 S.2.1 dX6_token_27 (by decide) ?_
        exact x_iret S hr hlk hK hP hS h dX6_token_29
    · rw [if_pos c8] at h
      exact B_17 u7 h _ _ _ hP hS (lv_sub hl [] rfl)
theorem hy_X6_letter : yX6_letter.cls ≠ "java/lang/invoke/MethodHandle" ∧ yX6_letter.cls ≠ "java/lang/invoke/VarHandle" ∧ (parseMethodDescriptor yX6_letter.desc).map (fun d => d.parameters.length) = some 4 := by decide +kernel
set_option maxHeartbeats 4000000 in
set_option maxRecDepth 100000 in
theorem k_X6_letter {l : Launch} {dC : Nat → ClassId} {dI : Nat → Nat → Nat} {ad : Nat → Nat} {cI : ClassId} (hap : AP ad 9) {x1 x2 x3 x4 : Int32} {u uf : Wo} {rf : Int32} (h : fX6_letter x1 x2 x3 x4 u = some (rf, uf)) : CI l dC dI cI (WM ad cI) (AF ad 9) yX6_letter cX6_letter 6 (some .int) 2 43 [.ref (ad 0), .int x1, .int x2, .int x3, .int x4] u rf uf := by
  refine ci_begin (by decide) (Nat.le_of_ble_eq_true rfl) ?_
  intro p e s m args below meth c S hr hlk hK
  have B_36 : ∀ (u : Wo), fX6_letter_36 u = some (rf, uf) → J p l e (rmk 2 43) s m args below meth c dC dI (WM ad cI) (AF ad 9) (MQ below (QI dC dI cI (WM ad cI) (AF ad 9) rf uf) args s 0 0 (AF ad 9)) u 36 6 [] [] := by
    intro u h H locs ls hP hS hl
    unfold fX6_letter_36 at h
    refine lv_iconst (v := (-1 : Int32)) S.1 S.2.1 dX6_letter_36 (by decide) ?_
    exact x_iret S hr hlk hK hP hS h dX6_letter_37
  have B_92 : ∀ (s0 : Int32) (u : Wo), fX6_letter_92 s0 u = some (rf, uf) → J p l e (rmk 2 43) s m args below meth c dC dI (WM ad cI) (AF ad 9) (MQ below (QI dC dI cI (WM ad cI) (AF ad 9) rf uf) args s 0 0 (AF ad 9)) u 92 6 [] [.int s0] := by
    intro s0 u h H locs ls hP hS hl
    unfold fX6_letter_92 at h
    exact x_iret S hr hlk hK hP hS h dX6_letter_92
  intro H locs ls hP hS hl
  have hl : lv_has ls 6 [(0, .ref (ad 0)), (1, .int x1), (2, .int x2), (3, .int x3), (4, .int x4)] := hl
  unfold fX6_letter at h
  refine lv_aload_n S.1 S.2.1 dX6_letter_0 rfl (lv_at hl 0 rfl) ?_
  refine lv_iload_n S.1 S.2.1 dX6_letter_1 rfl (lv_at hl 1 rfl) ?_
  obtain ⟨r2, u3, q1, h⟩ := bd_some h
  refine x_vi (Wf := WM ad cI) (q0 := 0) (ci := 6) (As := [.int x1]) (rest := []) S hK hP hS (k_X6_isKeeper hap q1) rfl rfl wl_X6_113 wi_X6_isKeeper ws_X6_isKeeper wz_X6 wc_X6_isKeeper hy_X6_isKeeper ⟨Nat.le_of_ble_eq_true rfl, Nat.le_of_ble_eq_true rfl⟩ hl.1 rfl (Nat.le_of_ble_eq_true rfl) dX6_letter_2 (fun H locs hP hS => ?_)
  refine lv_if_eq (tgt := 36) S.1 S.2.1 dX6_letter_5 (by decide) (fun c4 => ?_) (fun c4 => ?_)
  · rw [if_pos c4] at h
    exact B_36 u3 h _ _ _ hP hS (lv_sub hl [] rfl)
  · rw [if_neg c4] at h
    refine lv_aload_n S.1 S.2.1 dX6_letter_8 rfl (lv_at hl 0 rfl) ?_
    refine lv_iload_n S.1 S.2.1 dX6_letter_9 rfl (lv_at hl 2 rfl) ?_
    obtain ⟨r6, u7, q5, h⟩ := bd_some h
    refine x_vi (Wf := WM ad cI) (q0 := 0) (ci := 6) (As := [.int x2]) (rest := []) S hK hP hS (k_X6_isKeeper hap q5) rfl rfl wl_X6_113 wi_X6_isKeeper ws_X6_isKeeper wz_X6 wc_X6_isKeeper hy_X6_isKeeper ⟨Nat.le_of_ble_eq_true rfl, Nat.le_of_ble_eq_true rfl⟩ hl.1 rfl (Nat.le_of_ble_eq_true rfl) dX6_letter_10 (fun H locs hP hS => ?_)
    refine lv_if_eq (tgt := 36) S.1 S.2.1 dX6_letter_13 (by decide) (fun c8 => ?_) (fun c8 => ?_)
    · rw [if_pos c8] at h
      exact B_36 u7 h _ _ _ hP hS (lv_sub hl [] rfl)
    · rw [if_neg c8] at h
      refine lv_iload_n S.1 S.2.1 dX6_letter_16 rfl (lv_at hl 1 rfl) ?_
      refine lv_iload_n S.1 S.2.1 dX6_letter_17 rfl (lv_at hl 2 rfl) ?_
      refine lv_icmp_eq (tgt := 36) S.1 S.2.1 dX6_letter_18 (by decide) (fun c9 => ?_) (fun c9 => ?_)
      · rw [if_pos c9] at h
        exact B_36 u7 h _ _ _ hP hS (lv_sub hl [] rfl)
      · rw [if_neg c9] at h
        refine lv_iload_n S.1 S.2.1 dX6_letter_21 rfl (lv_at hl 3 rfl) ?_
        refine lv_iconst (v := (-1 : Int32)) S.1 S.2.1 dX6_letter_22 (by decide) ?_
        refine lv_icmp_lt (tgt := 36) S.1 S.2.1 dX6_letter_23 (by decide) (fun c10 => ?_) (fun c10 => ?_)
        · rw [if_pos c10] at h
          exact B_36 u7 h _ _ _ hP hS (lv_sub hl [] rfl)
        · rw [if_neg c10] at h
          refine lv_iload S.1 S.2.1 dX6_letter_26 (lv_at hl 4 rfl) ?_
          refine lv_iconst (v := (0 : Int32)) S.1 S.2.1 dX6_letter_28 (by decide) ?_
          refine lv_iconst (v := (1 : Int32)) S.1 S.2.1 dX6_letter_29 (by decide) ?_
          obtain ⟨r12, u13, q11, h⟩ := bd_some h
          refine x_si (Wf := WM ad cI) (As := [.int x4, .int (0 : Int32), .int (1 : Int32)]) (rest := []) S hK hP hS (k_X6_in hap q11) wl_X6_47 wt_X6_in wz_X6 wc_X6_in hy_X6_in ⟨Nat.le_of_ble_eq_true rfl, Nat.le_of_ble_eq_true rfl⟩ hl.1 rfl (Nat.le_of_ble_eq_true rfl) dX6_letter_30 (fun H locs hP hS => ?_)
          refine lv_if_ne (tgt := 38) S.1 S.2.1 dX6_letter_33 (by decide) (fun c14 => ?_) (fun c14 => ?_)
          · rw [if_neg c14] at h
            refine lv_aload_n S.1 S.2.1 dX6_letter_38 rfl (lv_at hl 0 rfl) ?_
            refine lv_iload_n S.1 S.2.1 dX6_letter_39 rfl (lv_at hl 1 rfl) ?_
            refine lv_iload_n S.1 S.2.1 dX6_letter_40 rfl (lv_at hl 2 rfl) ?_
            obtain ⟨r16, u17, q15, h⟩ := bd_some h
            refine x_vi (Wf := WM ad cI) (q0 := 0) (ci := 6) (As := [.int x1, .int x2]) (rest := []) S hK hP hS (k_X6_pairAt hap q15) rfl rfl wl_X6_69 wi_X6_pairAt ws_X6_pairAt wz_X6 wc_X6_pairAt hy_X6_pairAt ⟨Nat.le_of_ble_eq_true rfl, Nat.le_of_ble_eq_true rfl⟩ hl.1 rfl (Nat.le_of_ble_eq_true rfl) dX6_letter_41 (fun H locs hP hS => ?_)
            refine lv_istore (lv' := [(5, .int r16), (0, .ref (ad 0)), (1, .int x1), (2, .int x2), (3, .int x3), (4, .int x4)]) S.1 S.2.1 dX6_letter_44 hl (by decide) rfl (fun ls hl => ?_)
            refine lv_iload_n S.1 S.2.1 dX6_letter_46 rfl (lv_at hl 4 rfl) ?_
            refine lv_if_ge (tgt := 60) S.1 S.2.1 dX6_letter_47 (by decide) (fun c18 => ?_) (fun c18 => ?_)
            · rw [if_pos c18] at h
              refine lv_iload_n S.1 S.2.1 dX6_letter_60 rfl (lv_at hl 4 rfl) ?_
              refine lv_aload_n S.1 S.2.1 dX6_letter_61 rfl (lv_at hl 1 rfl) ?_
              refine gM_0_st S hK hP wf_X6_17 dX6_letter_62 ?_
              refine lv_iload S.1 S.2.1 dX6_letter_65 (lv_at hl 0 rfl) ?_
              obtain ⟨q19, h⟩ := gi_some h
              refine lM_2 S hK hP q19 dX6_letter_67 ?_
              refine lv_icmp_ge (tgt := 90) S.1 S.2.1 dX6_letter_68 (by decide) (fun c20 => ?_) (fun c20 => ?_)
              · rw [if_pos c20] at h
                refine lv_bipush (v := (-4 : Int32)) S.1 S.2.1 dX6_letter_90 (by decide) ?_
                exact B_92 _ u17 h _ _ _ hP hS (lv_sub hl [] rfl)
              · rw [if_neg c20] at h
                refine lv_aload_n S.1 S.2.1 dX6_letter_71 rfl (lv_at hl 1 rfl) ?_
                refine gM_0_st S hK hP wf_X6_17 dX6_letter_72 ?_
                refine lv_iload S.1 S.2.1 dX6_letter_75 (lv_at hl 0 rfl) ?_
                refine lv_iconst (v := (1 : Int32)) S.1 S.2.1 dX6_letter_77 (by decide) ?_
                refine lv_iadd S.1 S.2.1 dX6_letter_78 ?_
                refine lv_iconst (v := (2 : Int32)) S.1 S.2.1 dX6_letter_79 (by decide) ?_
                refine lv_iload_n S.1 S.2.1 dX6_letter_80 rfl (lv_at hl 4 rfl) ?_
                refine lv_imul S.1 S.2.1 dX6_letter_81 ?_
                refine lv_iadd S.1 S.2.1 dX6_letter_82 ?_
                refine lv_iload S.1 S.2.1 dX6_letter_83 (lv_at hl 5 rfl) ?_
                refine lv_iadd S.1 S.2.1 dX6_letter_85 ?_
                obtain ⟨q21, h⟩ := gi_some h
                refine lM_2 S hK hP q21 dX6_letter_86 ?_
                refine lv_goto (tgt := 92) S.1 S.2.1 dX6_letter_87 (by decide) ?_
                exact B_92 _ u17 h _ _ _ hP hS (lv_sub hl [] rfl)
            · rw [if_neg c18] at h
              refine lv_aload_n S.1 S.2.1 dX6_letter_50 rfl (lv_at hl 1 rfl) ?_
              refine gM_0_st S hK hP wf_X6_17 dX6_letter_51 ?_
              refine lv_iload S.1 S.2.1 dX6_letter_54 (lv_at hl 0 rfl) ?_
              obtain ⟨q22, h⟩ := gi_some h
              refine lM_2 S hK hP q22 dX6_letter_56 ?_
              refine lv_goto (tgt := 92) S.1 S.2.1 dX6_letter_57 (by decide) ?_
              exact B_92 _ u17 h _ _ _ hP hS (lv_sub hl [] rfl)
          · rw [if_pos c14] at h
            exact B_36 u13 h _ _ _ hP hS (lv_sub hl [] rfl)
theorem hy_X6_entry : yX6_entry.cls ≠ "java/lang/invoke/MethodHandle" ∧ yX6_entry.cls ≠ "java/lang/invoke/VarHandle" ∧ (parseMethodDescriptor yX6_entry.desc).map (fun d => d.parameters.length) = some 2 := by decide +kernel
set_option maxHeartbeats 4000000 in
set_option maxRecDepth 100000 in
theorem k_X6_entry {l : Launch} {dC : Nat → ClassId} {dI : Nat → Nat → Nat} {ad : Nat → Nat} {cI : ClassId} (hap : AP ad 9) {x1 x2 : Int32} {u uf : Wo} {rf : Int32} (h : fX6_entry x1 x2 u = some (rf, uf)) : CI l dC dI cI (WM ad cI) (AF ad 9) yX6_entry cX6_entry 3 (some .int) 1 22 [.ref (ad 0), .int x1, .int x2] u rf uf := by
  refine ci_begin (by decide) (Nat.le_of_ble_eq_true rfl) ?_
  intro p e s m args below meth c S hr hlk hK
  have B_13 : ∀ (u : Wo), fX6_entry_13 u = some (rf, uf) → J p l e (rmk 1 22) s m args below meth c dC dI (WM ad cI) (AF ad 9) (MQ below (QI dC dI cI (WM ad cI) (AF ad 9) rf uf) args s 0 0 (AF ad 9)) u 13 3 [] [] := by
    intro u h H locs ls hP hS hl
    unfold fX6_entry_13 at h
    refine lv_iconst (v := (-1 : Int32)) S.1 S.2.1 dX6_entry_13 (by decide) ?_
    exact x_iret S hr hlk hK hP hS h dX6_entry_14
  have B_49 : ∀ (s0 : Int32) (u : Wo), fX6_entry_49 s0 u = some (rf, uf) → J p l e (rmk 1 22) s m args below meth c dC dI (WM ad cI) (AF ad 9) (MQ below (QI dC dI cI (WM ad cI) (AF ad 9) rf uf) args s 0 0 (AF ad 9)) u 49 3 [] [.int s0] := by
    intro s0 u h H locs ls hP hS hl
    unfold fX6_entry_49 at h
    exact x_iret S hr hlk hK hP hS h dX6_entry_49
  have B_47 : ∀ (u : Wo), fX6_entry_47 u = some (rf, uf) → J p l e (rmk 1 22) s m args below meth c dC dI (WM ad cI) (AF ad 9) (MQ below (QI dC dI cI (WM ad cI) (AF ad 9) rf uf) args s 0 0 (AF ad 9)) u 47 3 [] [] := by
    intro u h H locs ls hP hS hl
    unfold fX6_entry_47 at h
    refine lv_bipush (v := (-4 : Int32)) S.1 S.2.1 dX6_entry_47 (by decide) ?_
    exact B_49 _ u h _ _ _ hP hS (lv_sub hl [] rfl)
  intro H locs ls hP hS hl
  have hl : lv_has ls 3 [(0, .ref (ad 0)), (1, .int x1), (2, .int x2)] := hl
  unfold fX6_entry at h
  refine lv_iload_n S.1 S.2.1 dX6_entry_0 rfl (lv_at hl 1 rfl) ?_
  refine lv_if_lt (tgt := 13) S.1 S.2.1 dX6_entry_1 (by decide) (fun c1 => ?_) (fun c1 => ?_)
  · rw [if_pos c1] at h
    exact B_13 u h _ _ _ hP hS (lv_sub hl [] rfl)
  · rw [if_neg c1] at h
    refine lv_iload_n S.1 S.2.1 dX6_entry_4 rfl (lv_at hl 2 rfl) ?_
    refine lv_iconst (v := (0 : Int32)) S.1 S.2.1 dX6_entry_5 (by decide) ?_
    refine lv_iconst (v := (2 : Int32)) S.1 S.2.1 dX6_entry_6 (by decide) ?_
    obtain ⟨r3, u4, q2, h⟩ := bd_some h
    refine x_si (Wf := WM ad cI) (As := [.int x2, .int (0 : Int32), .int (2 : Int32)]) (rest := []) S hK hP hS (k_X6_in hap q2) wl_X6_47 wt_X6_in wz_X6 wc_X6_in hy_X6_in ⟨Nat.le_of_ble_eq_true rfl, Nat.le_of_ble_eq_true rfl⟩ hl.1 rfl (Nat.le_of_ble_eq_true rfl) dX6_entry_7 (fun H locs hP hS => ?_)
    refine lv_if_ne (tgt := 15) S.1 S.2.1 dX6_entry_10 (by decide) (fun c5 => ?_) (fun c5 => ?_)
    · rw [if_neg c5] at h
      refine lv_iload_n S.1 S.2.1 dX6_entry_15 rfl (lv_at hl 1 rfl) ?_
      refine lv_bipush (v := (60 : Int32)) S.1 S.2.1 dX6_entry_16 (by decide) ?_
      refine lv_icmp_ge (tgt := 47) S.1 S.2.1 dX6_entry_18 (by decide) (fun c6 => ?_) (fun c6 => ?_)
      · rw [if_pos c6] at h
        exact B_47 u4 h _ _ _ hP hS (lv_sub hl [] rfl)
      · rw [if_neg c6] at h
        refine lv_iload_n S.1 S.2.1 dX6_entry_21 rfl (lv_at hl 1 rfl) ?_
        refine lv_aload_n S.1 S.2.1 dX6_entry_22 rfl (lv_at hl 0 rfl) ?_
        refine gM_0_ex S hK hP wf_X6_20 dX6_entry_23 ?_
        refine lv_iconst (v := (0 : Int32)) S.1 S.2.1 dX6_entry_26 (by decide) ?_
        obtain ⟨q7, h⟩ := gi_some h
        refine lM_3 S hK hP q7 dX6_entry_27 ?_
        refine lv_icmp_ge (tgt := 47) S.1 S.2.1 dX6_entry_28 (by decide) (fun c8 => ?_) (fun c8 => ?_)
        · rw [if_pos c8] at h
          exact B_47 u4 h _ _ _ hP hS (lv_sub hl [] rfl)
        · rw [if_neg c8] at h
          refine lv_aload_n S.1 S.2.1 dX6_entry_31 rfl (lv_at hl 0 rfl) ?_
          refine gM_0_ex S hK hP wf_X6_20 dX6_entry_32 ?_
          refine lv_bipush (v := (10 : Int32)) S.1 S.2.1 dX6_entry_35 (by decide) ?_
          refine lv_iconst (v := (3 : Int32)) S.1 S.2.1 dX6_entry_37 (by decide) ?_
          refine lv_iload_n S.1 S.2.1 dX6_entry_38 rfl (lv_at hl 1 rfl) ?_
          refine lv_imul S.1 S.2.1 dX6_entry_39 ?_
          refine lv_iadd S.1 S.2.1 dX6_entry_40 ?_
          refine lv_iload_n S.1 S.2.1 dX6_entry_41 rfl (lv_at hl 2 rfl) ?_
          refine lv_iadd S.1 S.2.1 dX6_entry_42 ?_
          obtain ⟨q9, h⟩ := gi_some h
          refine lM_3 S hK hP q9 dX6_entry_43 ?_
          refine lv_goto (tgt := 49) S.1 S.2.1 dX6_entry_44 (by decide) ?_
          exact B_49 _ u4 h _ _ _ hP hS (lv_sub hl [] rfl)
    · rw [if_pos c5] at h
      exact B_13 u4 h _ _ _ hP hS (lv_sub hl [] rfl)
theorem hy_X6_undo : yX6_undo.cls ≠ "java/lang/invoke/MethodHandle" ∧ yX6_undo.cls ≠ "java/lang/invoke/VarHandle" ∧ (parseMethodDescriptor yX6_undo.desc).map (fun d => d.parameters.length) = some 0 := by decide +kernel
set_option maxHeartbeats 4000000 in
set_option maxRecDepth 100000 in
theorem k_X6_undo {l : Launch} {dC : Nat → ClassId} {dI : Nat → Nat → Nat} {ad : Nat → Nat} {cI : ClassId} (hap : AP ad 9) {u uf : Wo} {rf : Int32} (h : fX6_undo u = some (rf, uf)) : CI l dC dI cI (WM ad cI) (AF ad 9) yX6_undo cX6_undo 2 (some .int) 0 0 [.ref (ad 0)] u rf uf := by
  refine ci_begin (by decide) (Nat.le_of_ble_eq_true rfl) ?_
  intro p e s m args below meth c S hr hlk hK
  have B_22 : ∀ (k56 : Wo → Re) (hk56 : ∀ (u : Wo), k56  u = some (rf, uf) → J p l e (rmk 0 0) s m args below meth c dC dI (WM ad cI) (AF ad 9) (MQ below (QI dC dI cI (WM ad cI) (AF ad 9) rf uf) args s 0 0 (AF ad 9)) u 56 2 [(0, .ref (ad 0))] []) (n : Nat) (x1 : Int32) (u : Wo), fX6_undo_22 k56 n x1 u = some (rf, uf) → J p l e (rmk 0 0) s m args below meth c dC dI (WM ad cI) (AF ad 9) (MQ below (QI dC dI cI (WM ad cI) (AF ad 9) rf uf) args s 0 0 (AF ad 9)) u 22 2 [(0, .ref (ad 0)), (1, .int x1)] [] := by
    intro k56 hk56
    intro n
    induction n with
    | zero => intro x1 u h; cases h
    | succ n ih =>
      intro x1 u h H locs ls hP hS hl
      rw [fX6_undo_22.eq_2] at h
      refine lv_iload_n S.1 S.2.1 dX6_undo_22 rfl (lv_at hl 1 rfl) ?_
      refine lv_sipush (v := (1040 : Int32)) S.1 S.2.1 dX6_undo_23 (by decide) ?_
      refine lv_icmp_ge (tgt := 56) S.1 S.2.1 dX6_undo_26 (by decide) (fun c3 => ?_) (fun c3 => ?_)
      · rw [if_pos c3] at h
        exact hk56 u h _ _ _ hP hS (lv_sub hl [0] rfl)
      · rw [if_neg c3] at h
        refine lv_aload_n S.1 S.2.1 dX6_undo_29 rfl (lv_at hl 0 rfl) ?_
        refine gM_0_st S hK hP wf_X6_17 dX6_undo_30 ?_
        refine lv_iload_n S.1 S.2.1 dX6_undo_33 rfl (lv_at hl 1 rfl) ?_
        refine lv_aload_n S.1 S.2.1 dX6_undo_34 rfl (lv_at hl 0 rfl) ?_
        refine gM_0_was S hK hP wf_X6_28 dX6_undo_35 ?_
        refine lv_sipush (v := (1230 : Int32)) S.1 S.2.1 dX6_undo_38 (by decide) ?_
        refine lv_aload_n S.1 S.2.1 dX6_undo_41 rfl (lv_at hl 0 rfl) ?_
        refine gM_0_kept S hK hP wf_X6_54 dX6_undo_42 ?_
        refine lv_imul S.1 S.2.1 dX6_undo_45 ?_
        refine lv_iload_n S.1 S.2.1 dX6_undo_46 rfl (lv_at hl 1 rfl) ?_
        refine lv_iadd S.1 S.2.1 dX6_undo_47 ?_
        obtain ⟨q4, h⟩ := gi_some h
        refine lM_4 S hK hP q4 dX6_undo_48 ?_
        obtain ⟨q5, h⟩ := gi_some h
        obtain ⟨u6, hu6, h⟩ := bw_some h
        refine tM_2 S hK hap hP hS q5 dX6_undo_49 hu6 (fun H locs hP hS => ?_)
        refine lv_iinc (v := (x1 + (1 : Int32))) (lv' := [(1, .int (x1 + (1 : Int32))), (0, .ref (ad 0))]) S.1 S.2.1 dX6_undo_50 hl (k := 1) rfl rfl (by decide) rfl (fun ls hl => ?_)
        refine lv_goto (tgt := 22) S.1 S.2.1 dX6_undo_53 (by decide) ?_
        exact ih _ u6 h _ _ _ hP hS (lv_sub hl [1, 0] rfl)
  have B_58 : ∀ (k96 : Wo → Re) (hk96 : ∀ (u : Wo), k96  u = some (rf, uf) → J p l e (rmk 0 0) s m args below meth c dC dI (WM ad cI) (AF ad 9) (MQ below (QI dC dI cI (WM ad cI) (AF ad 9) rf uf) args s 0 0 (AF ad 9)) u 96 2 [] []) (n : Nat) (x1 : Int32) (u : Wo), fX6_undo_58 k96 n x1 u = some (rf, uf) → J p l e (rmk 0 0) s m args below meth c dC dI (WM ad cI) (AF ad 9) (MQ below (QI dC dI cI (WM ad cI) (AF ad 9) rf uf) args s 0 0 (AF ad 9)) u 58 2 [(0, .ref (ad 0)), (1, .int x1)] [] := by
    intro k96 hk96
    intro n
    induction n with
    | zero => intro x1 u h; cases h
    | succ n ih =>
      intro x1 u h H locs ls hP hS hl
      rw [fX6_undo_58.eq_2] at h
      refine lv_iload_n S.1 S.2.1 dX6_undo_58 rfl (lv_at hl 1 rfl) ?_
      refine lv_sipush (v := (190 : Int32)) S.1 S.2.1 dX6_undo_59 (by decide) ?_
      refine lv_icmp_ge (tgt := 96) S.1 S.2.1 dX6_undo_62 (by decide) (fun c7 => ?_) (fun c7 => ?_)
      · rw [if_pos c7] at h
        exact hk96 u h _ _ _ hP hS (lv_sub hl [] rfl)
      · rw [if_neg c7] at h
        refine lv_aload_n S.1 S.2.1 dX6_undo_65 rfl (lv_at hl 0 rfl) ?_
        refine gM_0_ex S hK hP wf_X6_20 dX6_undo_66 ?_
        refine lv_iload_n S.1 S.2.1 dX6_undo_69 rfl (lv_at hl 1 rfl) ?_
        refine lv_aload_n S.1 S.2.1 dX6_undo_70 rfl (lv_at hl 0 rfl) ?_
        refine gM_0_was S hK hP wf_X6_28 dX6_undo_71 ?_
        refine lv_sipush (v := (1230 : Int32)) S.1 S.2.1 dX6_undo_74 (by decide) ?_
        refine lv_aload_n S.1 S.2.1 dX6_undo_77 rfl (lv_at hl 0 rfl) ?_
        refine gM_0_kept S hK hP wf_X6_54 dX6_undo_78 ?_
        refine lv_imul S.1 S.2.1 dX6_undo_81 ?_
        refine lv_sipush (v := (1040 : Int32)) S.1 S.2.1 dX6_undo_82 (by decide) ?_
        refine lv_iadd S.1 S.2.1 dX6_undo_85 ?_
        refine lv_iload_n S.1 S.2.1 dX6_undo_86 rfl (lv_at hl 1 rfl) ?_
        refine lv_iadd S.1 S.2.1 dX6_undo_87 ?_
        obtain ⟨q8, h⟩ := gi_some h
        refine lM_4 S hK hP q8 dX6_undo_88 ?_
        obtain ⟨q9, h⟩ := gi_some h
        obtain ⟨u10, hu10, h⟩ := bw_some h
        refine tM_3 S hK hap hP hS q9 dX6_undo_89 hu10 (fun H locs hP hS => ?_)
        refine lv_iinc (v := (x1 + (1 : Int32))) (lv' := [(1, .int (x1 + (1 : Int32))), (0, .ref (ad 0))]) S.1 S.2.1 dX6_undo_90 hl (k := 1) rfl rfl (by decide) rfl (fun ls hl => ?_)
        refine lv_goto (tgt := 58) S.1 S.2.1 dX6_undo_93 (by decide) ?_
        exact ih _ u10 h _ _ _ hP hS (lv_sub hl [1, 0] rfl)
  have B_96 : ∀ (u : Wo), fX6_undo_96 u = some (rf, uf) → J p l e (rmk 0 0) s m args below meth c dC dI (WM ad cI) (AF ad 9) (MQ below (QI dC dI cI (WM ad cI) (AF ad 9) rf uf) args s 0 0 (AF ad 9)) u 96 2 [] [] := by
    intro u h H locs ls hP hS hl
    unfold fX6_undo_96 at h
    refine lv_iconst (v := (1 : Int32)) S.1 S.2.1 dX6_undo_96 (by decide) ?_
    exact x_iret S hr hlk hK hP hS h dX6_undo_97
  have B_56 : ∀ (u : Wo), fX6_undo_56 u = some (rf, uf) → J p l e (rmk 0 0) s m args below meth c dC dI (WM ad cI) (AF ad 9) (MQ below (QI dC dI cI (WM ad cI) (AF ad 9) rf uf) args s 0 0 (AF ad 9)) u 56 2 [(0, .ref (ad 0))] [] := by
    intro u h H locs ls hP hS hl
    unfold fX6_undo_56 at h
    refine lv_iconst (v := (0 : Int32)) S.1 S.2.1 dX6_undo_56 (by decide) ?_
    refine lv_istore_n (lv' := [(1, .int (0 : Int32)), (0, .ref (ad 0))]) S.1 S.2.1 dX6_undo_57 rfl hl (by decide) rfl (fun ls hl => ?_)
    exact B_58 _ B_96 FU _ u h _ _ _ hP hS (lv_sub hl [1, 0] rfl)
  intro H locs ls hP hS hl
  have hl : lv_has ls 2 [(0, .ref (ad 0))] := hl
  unfold fX6_undo at h
  refine lv_aload_n S.1 S.2.1 dX6_undo_0 rfl (lv_at hl 0 rfl) ?_
  refine gM_0_kept S hK hP wf_X6_54 dX6_undo_1 ?_
  refine lv_if_ne (tgt := 10) S.1 S.2.1 dX6_undo_4 (by decide) (fun c1 => ?_) (fun c1 => ?_)
  · rw [if_neg c1] at h
    refine lv_aload_n S.1 S.2.1 dX6_undo_10 rfl (lv_at hl 0 rfl) ?_
    refine lv_dup S.1 S.2.1 dX6_undo_11 rfl ?_
    refine gM_0_kept S hK hP wf_X6_54 dX6_undo_12 ?_
    refine lv_iconst (v := (1 : Int32)) S.1 S.2.1 dX6_undo_15 (by decide) ?_
    refine lv_isub S.1 S.2.1 dX6_undo_16 ?_
    obtain ⟨u2, hu2, h⟩ := bw_some h
    refine pM_0_kept S hK hap hP hS wf_X6_54 dX6_undo_17 hu2 (fun H locs hP hS => ?_)
    refine lv_iconst (v := (0 : Int32)) S.1 S.2.1 dX6_undo_20 (by decide) ?_
    refine lv_istore_n (lv' := [(1, .int (0 : Int32)), (0, .ref (ad 0))]) S.1 S.2.1 dX6_undo_21 rfl hl (by decide) rfl (fun ls hl => ?_)
    exact B_22 _ B_56 FU _ u2 h _ _ _ hP hS (lv_sub hl [1, 0] rfl)
  · rw [if_pos c1] at h
    refine lv_bipush (v := (-2 : Int32)) S.1 S.2.1 dX6_undo_7 (by decide) ?_
    exact x_iret S hr hlk hK hP hS h dX6_undo_9
theorem hy_X6_isState : yX6_isState.cls ≠ "java/lang/invoke/MethodHandle" ∧ yX6_isState.cls ≠ "java/lang/invoke/VarHandle" ∧ (parseMethodDescriptor yX6_isState.desc).map (fun d => d.parameters.length) = some 1 := by decide +kernel
set_option maxHeartbeats 4000000 in
set_option maxRecDepth 100000 in
theorem k_X6_isState {l : Launch} {dC : Nat → ClassId} {dI : Nat → Nat → Nat} {ad : Nat → Nat} {cI : ClassId} (hap : AP ad 9) {x1 : Int32} {u uf : Wo} {rf : Int32} (h : fX6_isState x1 u = some (rf, uf)) : CI l dC dI cI (WM ad cI) (AF ad 9) yX6_isState cX6_isState 4 (some .boolean) 0 0 [.ref (ad 0), .int x1] u rf uf := by
  refine ci_begin (by decide) (Nat.le_of_ble_eq_true rfl) ?_
  intro p e s m args below meth c S hr hlk hK
  have B_41 : ∀ (k4 : Int32 → Int32 → Int32 → Wo → Re) (hk4 : ∀ (x1 : Int32) (x2 : Int32) (x3 : Int32) (u : Wo), k4 x1 x2 x3 u = some (rf, uf) → J p l e (rmk 0 0) s m args below meth c dC dI (WM ad cI) (AF ad 9) (MQ below (QI dC dI cI (WM ad cI) (AF ad 9) rf uf) args s 0 0 (AF ad 9)) u 4 4 [(0, .ref (ad 0)), (1, .int x1), (2, .int x2), (3, .int x3)] []) (x1 : Int32) (x3 : Int32) (s0 : Int32) (u : Wo), fX6_isState_41 k4 x1 x3 s0 u = some (rf, uf) → J p l e (rmk 0 0) s m args below meth c dC dI (WM ad cI) (AF ad 9) (MQ below (QI dC dI cI (WM ad cI) (AF ad 9) rf uf) args s 0 0 (AF ad 9)) u 41 4 [(0, .ref (ad 0)), (1, .int x1), (3, .int x3)] [.int s0] := by
    intro k4 hk4 x1 x3 s0 u h H locs ls hP hS hl
    unfold fX6_isState_41 at h
    refine lv_istore_n (lv' := [(2, .int s0), (0, .ref (ad 0)), (1, .int x1), (3, .int x3)]) S.1 S.2.1 dX6_isState_41 rfl hl (by decide) rfl (fun ls hl => ?_)
    refine lv_iinc (v := (x3 + (1 : Int32))) (lv' := [(3, .int (x3 + (1 : Int32))), (2, .int s0), (0, .ref (ad 0)), (1, .int x1)]) S.1 S.2.1 dX6_isState_42 hl (k := 3) rfl rfl (by decide) rfl (fun ls hl => ?_)
    refine lv_goto (tgt := 4) S.1 S.2.1 dX6_isState_45 (by decide) ?_
    exact hk4 _ _ _ u h _ _ _ hP hS (lv_sub hl [2, 3, 1, 0] rfl)
  have B_4 : ∀ (k48 : Int32 → Wo → Re) (hk48 : ∀ (x2 : Int32) (u : Wo), k48 x2 u = some (rf, uf) → J p l e (rmk 0 0) s m args below meth c dC dI (WM ad cI) (AF ad 9) (MQ below (QI dC dI cI (WM ad cI) (AF ad 9) rf uf) args s 0 0 (AF ad 9)) u 48 4 [(2, .int x2)] []) (n : Nat) (x1 : Int32) (x2 : Int32) (x3 : Int32) (u : Wo), fX6_isState_4 k48 n x1 x2 x3 u = some (rf, uf) → J p l e (rmk 0 0) s m args below meth c dC dI (WM ad cI) (AF ad 9) (MQ below (QI dC dI cI (WM ad cI) (AF ad 9) rf uf) args s 0 0 (AF ad 9)) u 4 4 [(0, .ref (ad 0)), (1, .int x1), (2, .int x2), (3, .int x3)] [] := by
    intro k48 hk48
    intro n
    induction n with
    | zero => intro x1 x2 x3 u h; cases h
    | succ n ih =>
      intro x1 x2 x3 u h H locs ls hP hS hl
      rw [fX6_isState_4.eq_2] at h
      refine lv_iload_n S.1 S.2.1 dX6_isState_4 rfl (lv_at hl 3 rfl) ?_
      refine lv_sipush (v := (1040 : Int32)) S.1 S.2.1 dX6_isState_5 (by decide) ?_
      refine lv_icmp_ge (tgt := 48) S.1 S.2.1 dX6_isState_8 (by decide) (fun c1 => ?_) (fun c1 => ?_)
      · rw [if_pos c1] at h
        exact hk48 _ u h _ _ _ hP hS (lv_sub hl [2] rfl)
      · rw [if_neg c1] at h
        refine lv_iload_n S.1 S.2.1 dX6_isState_11 rfl (lv_at hl 2 rfl) ?_
        refine lv_if_eq (tgt := 48) S.1 S.2.1 dX6_isState_12 (by decide) (fun c2 => ?_) (fun c2 => ?_)
        · rw [if_pos c2] at h
          exact hk48 _ u h _ _ _ hP hS (lv_sub hl [2] rfl)
        · rw [if_neg c2] at h
          refine lv_aload_n S.1 S.2.1 dX6_isState_15 rfl (lv_at hl 0 rfl) ?_
          refine gM_0_all S hK hP wf_X6_35 dX6_isState_16 ?_
          refine lv_sipush (v := (1040 : Int32)) S.1 S.2.1 dX6_isState_19 (by decide) ?_
          refine lv_iload_n S.1 S.2.1 dX6_isState_22 rfl (lv_at hl 1 rfl) ?_
          refine lv_imul S.1 S.2.1 dX6_isState_23 ?_
          refine lv_iload_n S.1 S.2.1 dX6_isState_24 rfl (lv_at hl 3 rfl) ?_
          refine lv_iadd S.1 S.2.1 dX6_isState_25 ?_
          obtain ⟨q3, h⟩ := gi_some h
          refine lM_6 S hK hP q3 dX6_isState_26 ?_
          refine lv_aload_n S.1 S.2.1 dX6_isState_27 rfl (lv_at hl 0 rfl) ?_
          refine gM_0_st S hK hP wf_X6_17 dX6_isState_28 ?_
          refine lv_iload_n S.1 S.2.1 dX6_isState_31 rfl (lv_at hl 3 rfl) ?_
          obtain ⟨q4, h⟩ := gi_some h
          refine lM_2 S hK hP q4 dX6_isState_32 ?_
          refine lv_icmp_ne (tgt := 40) S.1 S.2.1 dX6_isState_33 (by decide) (fun c5 => ?_) (fun c5 => ?_)
          · rw [if_neg c5] at h
            refine lv_iconst (v := (0 : Int32)) S.1 S.2.1 dX6_isState_40 (by decide) ?_
            exact B_41 _ ih _ _ _ u h _ _ _ hP hS (lv_sub hl [0, 1, 3] rfl)
          · rw [if_pos c5] at h
            refine lv_iconst (v := (1 : Int32)) S.1 S.2.1 dX6_isState_36 (by decide) ?_
            refine lv_goto (tgt := 41) S.1 S.2.1 dX6_isState_37 (by decide) ?_
            exact B_41 _ ih _ _ _ u h _ _ _ hP hS (lv_sub hl [0, 1, 3] rfl)
  have B_48 : ∀ (x2 : Int32) (u : Wo), fX6_isState_48 x2 u = some (rf, uf) → J p l e (rmk 0 0) s m args below meth c dC dI (WM ad cI) (AF ad 9) (MQ below (QI dC dI cI (WM ad cI) (AF ad 9) rf uf) args s 0 0 (AF ad 9)) u 48 4 [(2, .int x2)] [] := by
    intro x2 u h H locs ls hP hS hl
    unfold fX6_isState_48 at h
    refine lv_iload_n S.1 S.2.1 dX6_isState_48 rfl (lv_at hl 0 rfl) ?_
    obtain ⟨q6, h⟩ := gi_some h
    exact x_zret S hr hlk hK hP hS q6 h dX6_isState_49
  intro H locs ls hP hS hl
  have hl : lv_has ls 4 [(0, .ref (ad 0)), (1, .int x1)] := hl
  unfold fX6_isState at h
  refine lv_iconst (v := (1 : Int32)) S.1 S.2.1 dX6_isState_0 (by decide) ?_
  refine lv_istore_n (lv' := [(2, .int (1 : Int32)), (0, .ref (ad 0)), (1, .int x1)]) S.1 S.2.1 dX6_isState_1 rfl hl (by decide) rfl (fun ls hl => ?_)
  refine lv_iconst (v := (0 : Int32)) S.1 S.2.1 dX6_isState_2 (by decide) ?_
  refine lv_istore_n (lv' := [(3, .int (0 : Int32)), (2, .int (1 : Int32)), (0, .ref (ad 0)), (1, .int x1)]) S.1 S.2.1 dX6_isState_3 rfl hl (by decide) rfl (fun ls hl => ?_)
  exact B_4 _ B_48 FU _ _ _ u h _ _ _ hP hS (lv_sub hl [2, 3, 1, 0] rfl)
theorem hy_X6_slotOf : yX6_slotOf.cls ≠ "java/lang/invoke/MethodHandle" ∧ yX6_slotOf.cls ≠ "java/lang/invoke/VarHandle" ∧ (parseMethodDescriptor yX6_slotOf.desc).map (fun d => d.parameters.length) = some 0 := by decide +kernel
set_option maxHeartbeats 4000000 in
set_option maxRecDepth 100000 in
theorem k_X6_slotOf {l : Launch} {dC : Nat → ClassId} {dI : Nat → Nat → Nat} {ad : Nat → Nat} {cI : ClassId} (hap : AP ad 9) {u uf : Wo} {rf : Int32} (h : fX6_slotOf u = some (rf, uf)) : CI l dC dI cI (WM ad cI) (AF ad 9) yX6_slotOf cX6_slotOf 3 (some .int) 1 23 [.ref (ad 0)] u rf uf := by
  refine ci_begin (by decide) (Nat.le_of_ble_eq_true rfl) ?_
  intro p e s m args below meth c S hr hlk hK
  have B_5 : ∀ (k30 : Int32 → Wo → Re) (hk30 : ∀ (x1 : Int32) (u : Wo), k30 x1 u = some (rf, uf) → J p l e (rmk 1 23) s m args below meth c dC dI (WM ad cI) (AF ad 9) (MQ below (QI dC dI cI (WM ad cI) (AF ad 9) rf uf) args s 0 0 (AF ad 9)) u 30 3 [(0, .ref (ad 0)), (1, .int x1)] []) (n : Nat) (x1 : Int32) (x2 : Int32) (u : Wo), fX6_slotOf_5 k30 n x1 x2 u = some (rf, uf) → J p l e (rmk 1 23) s m args below meth c dC dI (WM ad cI) (AF ad 9) (MQ below (QI dC dI cI (WM ad cI) (AF ad 9) rf uf) args s 0 0 (AF ad 9)) u 5 3 [(0, .ref (ad 0)), (1, .int x1), (2, .int x2)] [] := by
    intro k30 hk30
    intro n
    induction n with
    | zero => intro x1 x2 u h; cases h
    | succ n ih =>
      intro x1 x2 u h H locs ls hP hS hl
      rw [fX6_slotOf_5.eq_2] at h
      refine lv_iload_n S.1 S.2.1 dX6_slotOf_5 rfl (lv_at hl 2 rfl) ?_
      refine lv_sipush (v := (1040 : Int32)) S.1 S.2.1 dX6_slotOf_6 (by decide) ?_
      refine lv_icmp_ge (tgt := 30) S.1 S.2.1 dX6_slotOf_9 (by decide) (fun c1 => ?_) (fun c1 => ?_)
      · rw [if_pos c1] at h
        exact hk30 _ u h _ _ _ hP hS (lv_sub hl [0, 1] rfl)
      · rw [if_neg c1] at h
        refine lv_bipush (v := (31 : Int32)) S.1 S.2.1 dX6_slotOf_12 (by decide) ?_
        refine lv_iload_n S.1 S.2.1 dX6_slotOf_14 rfl (lv_at hl 1 rfl) ?_
        refine lv_imul S.1 S.2.1 dX6_slotOf_15 ?_
        refine lv_aload_n S.1 S.2.1 dX6_slotOf_16 rfl (lv_at hl 0 rfl) ?_
        refine gM_0_st S hK hP wf_X6_17 dX6_slotOf_17 ?_
        refine lv_iload_n S.1 S.2.1 dX6_slotOf_20 rfl (lv_at hl 2 rfl) ?_
        obtain ⟨q2, h⟩ := gi_some h
        refine lM_2 S hK hP q2 dX6_slotOf_21 ?_
        refine lv_iadd S.1 S.2.1 dX6_slotOf_22 ?_
        refine lv_istore_n (lv' := [(1, .int (((31 : Int32) * x1) + (u 2 (x2).toNatClampNeg))), (0, .ref (ad 0)), (2, .int x2)]) S.1 S.2.1 dX6_slotOf_23 rfl hl (by decide) rfl (fun ls hl => ?_)
        refine lv_iinc (v := (x2 + (1 : Int32))) (lv' := [(2, .int (x2 + (1 : Int32))), (1, .int (((31 : Int32) * x1) + (u 2 (x2).toNatClampNeg))), (0, .ref (ad 0))]) S.1 S.2.1 dX6_slotOf_24 hl (k := 2) rfl rfl (by decide) rfl (fun ls hl => ?_)
        refine lv_goto (tgt := 5) S.1 S.2.1 dX6_slotOf_27 (by decide) ?_
        exact ih _ _ u h _ _ _ hP hS (lv_sub hl [2, 1, 0] rfl)
  have B_41 : ∀ (k76 : Int32 → Wo → Re) (hk76 : ∀ (x2 : Int32) (u : Wo), k76 x2 u = some (rf, uf) → J p l e (rmk 1 23) s m args below meth c dC dI (WM ad cI) (AF ad 9) (MQ below (QI dC dI cI (WM ad cI) (AF ad 9) rf uf) args s 0 0 (AF ad 9)) u 76 3 [(2, .int x2)] []) (n : Nat) (x2 : Int32) (u : Wo), fX6_slotOf_41 k76 n x2 u = some (rf, uf) → J p l e (rmk 1 23) s m args below meth c dC dI (WM ad cI) (AF ad 9) (MQ below (QI dC dI cI (WM ad cI) (AF ad 9) rf uf) args s 0 0 (AF ad 9)) u 41 3 [(0, .ref (ad 0)), (2, .int x2)] [] := by
    intro k76 hk76
    intro n
    induction n with
    | zero => intro x2 u h; cases h
    | succ n ih =>
      intro x2 u h H locs ls hP hS hl
      rw [fX6_slotOf_41.eq_2] at h
      refine lv_aload_n S.1 S.2.1 dX6_slotOf_41 rfl (lv_at hl 0 rfl) ?_
      refine gM_0_slots S hK hP wf_X6_38 dX6_slotOf_42 ?_
      refine lv_iload_n S.1 S.2.1 dX6_slotOf_45 rfl (lv_at hl 1 rfl) ?_
      obtain ⟨q4, h⟩ := gi_some h
      refine lM_7 S hK hP q4 dX6_slotOf_46 ?_
      refine lv_if_le (tgt := 76) S.1 S.2.1 dX6_slotOf_47 (by decide) (fun c5 => ?_) (fun c5 => ?_)
      · rw [if_pos c5] at h
        exact hk76 _ u h _ _ _ hP hS (lv_sub hl [1] rfl)
      · rw [if_neg c5] at h
        refine lv_aload_n S.1 S.2.1 dX6_slotOf_50 rfl (lv_at hl 0 rfl) ?_
        refine lv_aload_n S.1 S.2.1 dX6_slotOf_51 rfl (lv_at hl 0 rfl) ?_
        refine gM_0_slots S hK hP wf_X6_38 dX6_slotOf_52 ?_
        refine lv_iload_n S.1 S.2.1 dX6_slotOf_55 rfl (lv_at hl 1 rfl) ?_
        obtain ⟨q6, h⟩ := gi_some h
        refine lM_7 S hK hP q6 dX6_slotOf_56 ?_
        refine lv_iconst (v := (1 : Int32)) S.1 S.2.1 dX6_slotOf_57 (by decide) ?_
        refine lv_isub S.1 S.2.1 dX6_slotOf_58 ?_
        obtain ⟨r8, u9, q7, h⟩ := bd_some h
        refine x_vi (Wf := WM ad cI) (q0 := 0) (ci := 6) (As := [.int ((u 7 (x2).toNatClampNeg) - (1 : Int32))]) (rest := []) S hK hP hS (k_X6_isState hap q7) rfl rfl wl_X6_150 wi_X6_isState ws_X6_isState wz_X6 wc_X6_isState hy_X6_isState ⟨Nat.le_of_ble_eq_true rfl, Nat.le_of_ble_eq_true rfl⟩ hl.1 rfl (Nat.le_of_ble_eq_true rfl) dX6_slotOf_59 (fun H locs hP hS => ?_)
        refine lv_if_ne (tgt := 76) S.1 S.2.1 dX6_slotOf_62 (by decide) (fun c10 => ?_) (fun c10 => ?_)
        · rw [if_neg c10] at h
          exact hk76 _ u9 h _ _ _ hP hS (lv_sub hl [1] rfl)
        · rw [if_pos c10] at h
          refine lv_iload_n S.1 S.2.1 dX6_slotOf_65 rfl (lv_at hl 1 rfl) ?_
          refine lv_iconst (v := (1 : Int32)) S.1 S.2.1 dX6_slotOf_66 (by decide) ?_
          refine lv_iadd S.1 S.2.1 dX6_slotOf_67 ?_
          refine lv_sipush (v := (1023 : Int32)) S.1 S.2.1 dX6_slotOf_68 (by decide) ?_
          refine lv_iand S.1 S.2.1 dX6_slotOf_71 ?_
          refine lv_istore_n (lv' := [(2, .int ((x2 + (1 : Int32)) &&& (1023 : Int32))), (0, .ref (ad 0))]) S.1 S.2.1 dX6_slotOf_72 rfl hl (by decide) rfl (fun ls hl => ?_)
          refine lv_goto (tgt := 41) S.1 S.2.1 dX6_slotOf_73 (by decide) ?_
          exact ih _ u9 h _ _ _ hP hS (lv_sub hl [1, 0] rfl)
  have B_76 : ∀ (x2 : Int32) (u : Wo), fX6_slotOf_76 x2 u = some (rf, uf) → J p l e (rmk 1 23) s m args below meth c dC dI (WM ad cI) (AF ad 9) (MQ below (QI dC dI cI (WM ad cI) (AF ad 9) rf uf) args s 0 0 (AF ad 9)) u 76 3 [(2, .int x2)] [] := by
    intro x2 u h H locs ls hP hS hl
    unfold fX6_slotOf_76 at h
    refine lv_iload_n S.1 S.2.1 dX6_slotOf_76 rfl (lv_at hl 0 rfl) ?_
    exact x_iret S hr hlk hK hP hS h dX6_slotOf_77
  have B_30 : ∀ (x1 : Int32) (u : Wo), fX6_slotOf_30 x1 u = some (rf, uf) → J p l e (rmk 1 23) s m args below meth c dC dI (WM ad cI) (AF ad 9) (MQ below (QI dC dI cI (WM ad cI) (AF ad 9) rf uf) args s 0 0 (AF ad 9)) u 30 3 [(0, .ref (ad 0)), (1, .int x1)] [] := by
    intro x1 u h H locs ls hP hS hl
    unfold fX6_slotOf_30 at h
    refine lv_iload_n S.1 S.2.1 dX6_slotOf_30 rfl (lv_at hl 1 rfl) ?_
    refine lv_iload_n S.1 S.2.1 dX6_slotOf_31 rfl (lv_at hl 1 rfl) ?_
    refine lv_bipush (v := (13 : Int32)) S.1 S.2.1 dX6_slotOf_32 (by decide) ?_
    refine lv_iushr (v := ((x1).toUInt32 >>> (((13 : Int32)).toUInt32 &&& Int32.toUInt32 31)).toInt32) S.1 S.2.1 dX6_slotOf_34 rfl ?_
    refine lv_ixor S.1 S.2.1 dX6_slotOf_35 ?_
    refine lv_sipush (v := (1023 : Int32)) S.1 S.2.1 dX6_slotOf_36 (by decide) ?_
    refine lv_iand S.1 S.2.1 dX6_slotOf_39 ?_
    obtain ⟨y3, hy3, h⟩ := bn_some h
    rw [hy3]
    refine lv_istore_n (lv' := [(2, .int y3), (0, .ref (ad 0)), (1, .int x1)]) S.1 S.2.1 dX6_slotOf_40 rfl hl (by decide) rfl (fun ls hl => ?_)
    exact B_41 _ B_76 FU _ u h _ _ _ hP hS (lv_sub hl [1, 0] rfl)
  intro H locs ls hP hS hl
  have hl : lv_has ls 3 [(0, .ref (ad 0))] := hl
  unfold fX6_slotOf at h
  refine lv_bipush (v := (7 : Int32)) S.1 S.2.1 dX6_slotOf_0 (by decide) ?_
  refine lv_istore_n (lv' := [(1, .int (7 : Int32)), (0, .ref (ad 0))]) S.1 S.2.1 dX6_slotOf_2 rfl hl (by decide) rfl (fun ls hl => ?_)
  refine lv_iconst (v := (0 : Int32)) S.1 S.2.1 dX6_slotOf_3 (by decide) ?_
  refine lv_istore_n (lv' := [(2, .int (0 : Int32)), (1, .int (7 : Int32)), (0, .ref (ad 0))]) S.1 S.2.1 dX6_slotOf_4 rfl hl (by decide) rfl (fun ls hl => ?_)
  exact B_5 _ B_30 FU _ _ u h _ _ _ hP hS (lv_sub hl [2, 1, 0] rfl)
theorem hy_X6_meets : yX6_meets.cls ≠ "java/lang/invoke/MethodHandle" ∧ yX6_meets.cls ≠ "java/lang/invoke/VarHandle" ∧ (parseMethodDescriptor yX6_meets.desc).map (fun d => d.parameters.length) = some 0 := by decide +kernel
set_option maxHeartbeats 4000000 in
set_option maxRecDepth 100000 in
theorem k_X6_meets {l : Launch} {dC : Nat → ClassId} {dI : Nat → Nat → Nat} {ad : Nat → Nat} {cI : ClassId} (hap : AP ad 9) {u uf : Wo} {rf : Int32} (h : fX6_meets u = some (rf, uf)) : CV l dC dI cI (WM ad cI) (AF ad 9) yX6_meets cX6_meets 3 none 2 45 [.ref (ad 0)] u uf := by
  refine cv_begin (by decide) (Nat.le_of_ble_eq_true rfl) ?_
  intro p e s m args below meth c S hr hlk hK
  have B_45 : ∀ (k79 : Wo → Re) (hk79 : ∀ (u : Wo), k79  u = some (rf, uf) → J p l e (rmk 2 45) s m args below meth c dC dI (WM ad cI) (AF ad 9) (MQ below (QV dC dI cI (WM ad cI) (AF ad 9) uf) args s 0 0 (AF ad 9)) u 79 3 [(0, .ref (ad 0))] []) (n : Nat) (x2 : Int32) (u : Wo), fX6_meets_45 k79 n x2 u = some (rf, uf) → J p l e (rmk 2 45) s m args below meth c dC dI (WM ad cI) (AF ad 9) (MQ below (QV dC dI cI (WM ad cI) (AF ad 9) uf) args s 0 0 (AF ad 9)) u 45 3 [(0, .ref (ad 0)), (2, .int x2)] [] := by
    intro k79 hk79
    intro n
    induction n with
    | zero => intro x2 u h; cases h
    | succ n ih =>
      intro x2 u h H locs ls hP hS hl
      rw [fX6_meets_45.eq_2] at h
      refine lv_iload_n S.1 S.2.1 dX6_meets_45 rfl (lv_at hl 1 rfl) ?_
      refine lv_sipush (v := (1040 : Int32)) S.1 S.2.1 dX6_meets_46 (by decide) ?_
      refine lv_icmp_ge (tgt := 79) S.1 S.2.1 dX6_meets_49 (by decide) (fun c9 => ?_) (fun c9 => ?_)
      · rw [if_pos c9] at h
        exact hk79 u h _ _ _ hP hS (lv_sub hl [0] rfl)
      · rw [if_neg c9] at h
        refine lv_aload_n S.1 S.2.1 dX6_meets_52 rfl (lv_at hl 0 rfl) ?_
        refine gM_0_all S hK hP wf_X6_35 dX6_meets_53 ?_
        refine lv_sipush (v := (1040 : Int32)) S.1 S.2.1 dX6_meets_56 (by decide) ?_
        refine lv_aload_n S.1 S.2.1 dX6_meets_59 rfl (lv_at hl 0 rfl) ?_
        refine gM_0_states S hK hP wf_X6_156 dX6_meets_60 ?_
        refine lv_imul S.1 S.2.1 dX6_meets_63 ?_
        refine lv_iload_n S.1 S.2.1 dX6_meets_64 rfl (lv_at hl 1 rfl) ?_
        refine lv_iadd S.1 S.2.1 dX6_meets_65 ?_
        refine lv_aload_n S.1 S.2.1 dX6_meets_66 rfl (lv_at hl 0 rfl) ?_
        refine gM_0_st S hK hP wf_X6_17 dX6_meets_67 ?_
        refine lv_iload_n S.1 S.2.1 dX6_meets_70 rfl (lv_at hl 1 rfl) ?_
        obtain ⟨q10, h⟩ := gi_some h
        refine lM_2 S hK hP q10 dX6_meets_71 ?_
        obtain ⟨q11, h⟩ := gi_some h
        obtain ⟨u12, hu12, h⟩ := bw_some h
        refine tM_6 S hK hap hP hS q11 dX6_meets_72 hu12 (fun H locs hP hS => ?_)
        refine lv_iinc (v := (x2 + (1 : Int32))) (lv' := [(2, .int (x2 + (1 : Int32))), (0, .ref (ad 0))]) S.1 S.2.1 dX6_meets_73 hl (k := 1) rfl rfl (by decide) rfl (fun ls hl => ?_)
        refine lv_goto (tgt := 45) S.1 S.2.1 dX6_meets_76 (by decide) ?_
        exact ih _ u12 h _ _ _ hP hS (lv_sub hl [1, 0] rfl)
  have B_79 : ∀ (u : Wo), fX6_meets_79 u = some (rf, uf) → J p l e (rmk 2 45) s m args below meth c dC dI (WM ad cI) (AF ad 9) (MQ below (QV dC dI cI (WM ad cI) (AF ad 9) uf) args s 0 0 (AF ad 9)) u 79 3 [(0, .ref (ad 0))] [] := by
    intro u h H locs ls hP hS hl
    unfold fX6_meets_79 at h
    refine lv_aload_n S.1 S.2.1 dX6_meets_79 rfl (lv_at hl 0 rfl) ?_
    refine lv_dup S.1 S.2.1 dX6_meets_80 rfl ?_
    refine gM_0_states S hK hP wf_X6_156 dX6_meets_81 ?_
    refine lv_iconst (v := (1 : Int32)) S.1 S.2.1 dX6_meets_84 (by decide) ?_
    refine lv_iadd S.1 S.2.1 dX6_meets_85 ?_
    obtain ⟨u13, hu13, h⟩ := bw_some h
    refine pM_0_states S hK hap hP hS wf_X6_156 dX6_meets_86 hu13 (fun H locs hP hS => ?_)
    exact x_vret S hr hlk hK hP hS h dX6_meets_89
  intro H locs ls hP hS hl
  have hl : lv_has ls 3 [(0, .ref (ad 0))] := hl
  unfold fX6_meets at h
  refine lv_aload_n S.1 S.2.1 dX6_meets_0 rfl (lv_at hl 0 rfl) ?_
  obtain ⟨r2, u3, q1, h⟩ := bd_some h
  refine x_vi (Wf := WM ad cI) (q0 := 0) (ci := 6) (As := []) (rest := []) S hK hP hS (k_X6_slotOf hap q1) rfl rfl wl_X6_153 wi_X6_slotOf ws_X6_slotOf wz_X6 wc_X6_slotOf hy_X6_slotOf ⟨Nat.le_of_ble_eq_true rfl, Nat.le_of_ble_eq_true rfl⟩ hl.1 rfl (Nat.le_of_ble_eq_true rfl) dX6_meets_1 (fun H locs hP hS => ?_)
  refine lv_istore_n (lv' := [(1, .int r2), (0, .ref (ad 0))]) S.1 S.2.1 dX6_meets_4 rfl hl (by decide) rfl (fun ls hl => ?_)
  refine lv_aload_n S.1 S.2.1 dX6_meets_5 rfl (lv_at hl 1 rfl) ?_
  refine gM_0_slots S hK hP wf_X6_38 dX6_meets_6 ?_
  refine lv_iload_n S.1 S.2.1 dX6_meets_9 rfl (lv_at hl 0 rfl) ?_
  obtain ⟨q4, h⟩ := gi_some h
  refine lM_7 S hK hP q4 dX6_meets_10 ?_
  refine lv_if_le (tgt := 15) S.1 S.2.1 dX6_meets_11 (by decide) (fun c5 => ?_) (fun c5 => ?_)
  · rw [if_pos c5] at h
    refine lv_aload_n S.1 S.2.1 dX6_meets_15 rfl (lv_at hl 1 rfl) ?_
    refine gM_0_states S hK hP wf_X6_156 dX6_meets_16 ?_
    refine lv_sipush (v := (300 : Int32)) S.1 S.2.1 dX6_meets_19 (by decide) ?_
    refine lv_icmp_ne (tgt := 31) S.1 S.2.1 dX6_meets_22 (by decide) (fun c6 => ?_) (fun c6 => ?_)
    · rw [if_neg c6] at h
      refine lv_aload_n S.1 S.2.1 dX6_meets_31 rfl (lv_at hl 1 rfl) ?_
      refine gM_0_slots S hK hP wf_X6_38 dX6_meets_32 ?_
      refine lv_iload_n S.1 S.2.1 dX6_meets_35 rfl (lv_at hl 0 rfl) ?_
      refine lv_aload_n S.1 S.2.1 dX6_meets_36 rfl (lv_at hl 1 rfl) ?_
      refine gM_0_states S hK hP wf_X6_156 dX6_meets_37 ?_
      refine lv_iconst (v := (1 : Int32)) S.1 S.2.1 dX6_meets_40 (by decide) ?_
      refine lv_iadd S.1 S.2.1 dX6_meets_41 ?_
      obtain ⟨q7, h⟩ := gi_some h
      obtain ⟨u8, hu8, h⟩ := bw_some h
      refine tM_7 S hK hap hP hS q7 dX6_meets_42 hu8 (fun H locs hP hS => ?_)
      refine lv_iconst (v := (0 : Int32)) S.1 S.2.1 dX6_meets_43 (by decide) ?_
      refine lv_istore_n (lv' := [(2, .int (0 : Int32)), (1, .int r2), (0, .ref (ad 0))]) S.1 S.2.1 dX6_meets_44 rfl hl (by decide) rfl (fun ls hl => ?_)
      exact B_45 _ B_79 FU _ u8 h _ _ _ hP hS (lv_sub hl [2, 0] rfl)
    · rw [if_pos c6] at h
      refine lv_aload_n S.1 S.2.1 dX6_meets_25 rfl (lv_at hl 1 rfl) ?_
      refine lv_iconst (v := (1 : Int32)) S.1 S.2.1 dX6_meets_26 (by decide) ?_
      obtain ⟨u14, hu14, h⟩ := bw_some h
      refine pM_0_isSpent S hK hap hP hS wf_X6_159 dX6_meets_27 (by decide) hu14 (fun H locs hP hS => ?_)
      exact x_vret S hr hlk hK hP hS h dX6_meets_30
  · rw [if_neg c5] at h
    exact x_vret S hr hlk hK hP hS h dX6_meets_14
theorem hy_X6_load : yX6_load.cls ≠ "java/lang/invoke/MethodHandle" ∧ yX6_load.cls ≠ "java/lang/invoke/VarHandle" ∧ (parseMethodDescriptor yX6_load.desc).map (fun d => d.parameters.length) = some 1 := by decide +kernel
set_option maxHeartbeats 4000000 in
set_option maxRecDepth 100000 in
theorem k_X6_load {l : Launch} {dC : Nat → ClassId} {dI : Nat → Nat → Nat} {ad : Nat → Nat} {cI : ClassId} (hap : AP ad 9) {x1 : Int32} {u uf : Wo} {rf : Int32} (h : fX6_load x1 u = some (rf, uf)) : CV l dC dI cI (WM ad cI) (AF ad 9) yX6_load cX6_load 3 none 0 0 [.ref (ad 0), .int x1] u uf := by
  refine cv_begin (by decide) (Nat.le_of_ble_eq_true rfl) ?_
  intro p e s m args below meth c S hr hlk hK
  have B_2 : ∀ (k33 : Wo → Re) (hk33 : ∀ (u : Wo), k33  u = some (rf, uf) → J p l e (rmk 0 0) s m args below meth c dC dI (WM ad cI) (AF ad 9) (MQ below (QV dC dI cI (WM ad cI) (AF ad 9) uf) args s 0 0 (AF ad 9)) u 33 3 [(0, .ref (ad 0))] []) (n : Nat) (x1 : Int32) (x2 : Int32) (u : Wo), fX6_load_2 k33 n x1 x2 u = some (rf, uf) → J p l e (rmk 0 0) s m args below meth c dC dI (WM ad cI) (AF ad 9) (MQ below (QV dC dI cI (WM ad cI) (AF ad 9) uf) args s 0 0 (AF ad 9)) u 2 3 [(0, .ref (ad 0)), (1, .int x1), (2, .int x2)] [] := by
    intro k33 hk33
    intro n
    induction n with
    | zero => intro x1 x2 u h; cases h
    | succ n ih =>
      intro x1 x2 u h H locs ls hP hS hl
      rw [fX6_load_2.eq_2] at h
      refine lv_iload_n S.1 S.2.1 dX6_load_2 rfl (lv_at hl 2 rfl) ?_
      refine lv_sipush (v := (1040 : Int32)) S.1 S.2.1 dX6_load_3 (by decide) ?_
      refine lv_icmp_ge (tgt := 33) S.1 S.2.1 dX6_load_6 (by decide) (fun c1 => ?_) (fun c1 => ?_)
      · rw [if_pos c1] at h
        exact hk33 u h _ _ _ hP hS (lv_sub hl [0] rfl)
      · rw [if_neg c1] at h
        refine lv_aload_n S.1 S.2.1 dX6_load_9 rfl (lv_at hl 0 rfl) ?_
        refine gM_0_st S hK hP wf_X6_17 dX6_load_10 ?_
        refine lv_iload_n S.1 S.2.1 dX6_load_13 rfl (lv_at hl 2 rfl) ?_
        refine lv_aload_n S.1 S.2.1 dX6_load_14 rfl (lv_at hl 0 rfl) ?_
        refine gM_0_all S hK hP wf_X6_35 dX6_load_15 ?_
        refine lv_sipush (v := (1040 : Int32)) S.1 S.2.1 dX6_load_18 (by decide) ?_
        refine lv_iload_n S.1 S.2.1 dX6_load_21 rfl (lv_at hl 1 rfl) ?_
        refine lv_imul S.1 S.2.1 dX6_load_22 ?_
        refine lv_iload_n S.1 S.2.1 dX6_load_23 rfl (lv_at hl 2 rfl) ?_
        refine lv_iadd S.1 S.2.1 dX6_load_24 ?_
        obtain ⟨q2, h⟩ := gi_some h
        refine lM_6 S hK hP q2 dX6_load_25 ?_
        obtain ⟨q3, h⟩ := gi_some h
        obtain ⟨u4, hu4, h⟩ := bw_some h
        refine tM_2 S hK hap hP hS q3 dX6_load_26 hu4 (fun H locs hP hS => ?_)
        refine lv_iinc (v := (x2 + (1 : Int32))) (lv' := [(2, .int (x2 + (1 : Int32))), (0, .ref (ad 0)), (1, .int x1)]) S.1 S.2.1 dX6_load_27 hl (k := 2) rfl rfl (by decide) rfl (fun ls hl => ?_)
        refine lv_goto (tgt := 2) S.1 S.2.1 dX6_load_30 (by decide) ?_
        exact ih _ _ u4 h _ _ _ hP hS (lv_sub hl [1, 2, 0] rfl)
  have B_33 : ∀ (u : Wo), fX6_load_33 u = some (rf, uf) → J p l e (rmk 0 0) s m args below meth c dC dI (WM ad cI) (AF ad 9) (MQ below (QV dC dI cI (WM ad cI) (AF ad 9) uf) args s 0 0 (AF ad 9)) u 33 3 [(0, .ref (ad 0))] [] := by
    intro u h H locs ls hP hS hl
    unfold fX6_load_33 at h
    refine lv_aload_n S.1 S.2.1 dX6_load_33 rfl (lv_at hl 0 rfl) ?_
    refine lv_iconst (v := (0 : Int32)) S.1 S.2.1 dX6_load_34 (by decide) ?_
    obtain ⟨u5, hu5, h⟩ := bw_some h
    refine pM_0_isOver S hK hap hP hS wf_X6_73 dX6_load_35 (by decide) hu5 (fun H locs hP hS => ?_)
    exact x_vret S hr hlk hK hP hS h dX6_load_38
  intro H locs ls hP hS hl
  have hl : lv_has ls 3 [(0, .ref (ad 0)), (1, .int x1)] := hl
  unfold fX6_load at h
  refine lv_iconst (v := (0 : Int32)) S.1 S.2.1 dX6_load_0 (by decide) ?_
  refine lv_istore_n (lv' := [(2, .int (0 : Int32)), (0, .ref (ad 0)), (1, .int x1)]) S.1 S.2.1 dX6_load_1 rfl hl (by decide) rfl (fun ls hl => ?_)
  exact B_2 _ B_33 FU _ _ u h _ _ _ hP hS (lv_sub hl [1, 2, 0] rfl)
