-- the reference's methods do the acts: leaves and comings
section MW
variable {V u : Wo} {w n : Nat} {x : XS}
theorem M_gvo (h : RM V 0 n x u) (hn : n ≤ 6) {i m : Nat} (hi : i < 6) (hm : m < 64) (hV : V 0 6 = 0 ∨ V 0 6 = 1) : Gd (fX6_leaves_42 fX6_leaves_76 FU (nI i) (nI m) (nI 0) u) (fun _ u1 => RM V 0 n (gvo m x i n) u1) := by
  refine lp_gd (σ := Int32 × Wo) (fun q s => fX6_leaves_42 fX6_leaves_76 q (nI i) (nI m) s.1 s.2) (fun d s => ∃ j, j + d = n ∧ s.1 = nI j ∧ RM V 0 n (gvo m x i j) s.2) _ ?_ ?_ (d := n) (s := (nI 0, u)) (by have := FU_ge; omega) ⟨0, by omega, rfl, h⟩
  · rintro q ⟨sj, su⟩ ⟨j, hj, rfl, R⟩
    dsimp only at R ⊢
    obtain rfl : j = n := by omega
    rw [fX6_leaves_42.eq_2, M_n R, if_pos (nI_le (Nat.le_refl _) (by omega))]
    exact gd_ret R
  · rintro q d ⟨sj, su⟩ ⟨j, hj, rfl, R⟩
    dsimp only at R ⊢
    refine Or.inr ?_
    have hb := m_bit ⟨m, hm⟩ ⟨j, by omega⟩
    dsimp only at hb
    rw [fX6_leaves_42.eq_2, M_n R, if_neg (nI_ge (by omega) (by omega)), hb]
    have h2 : m / 2 ^ j % 2 < 2 := Nat.mod_lt _ (by decide)
    by_cases e : m / 2 ^ j % 2 = 1
    · rw [e, if_pos (show nI 1 = (1 : Int32) from rfl)]
      obtain ⟨r, u1, e1, R1⟩ := M_snd R hi (show j < 6 by omega) (kd := 1) (nm := 0) (by decide) hV
      rw [bd_eq (show fX6_send (nI i) (nI j) (1 : Int32) (0 : Int32) su = some (r, u1) from e1)]
      exact ⟨(nI (j + 1), u1), by unfold fX6_leaves_70; rw [n1, nI_add], j + 1, by omega, rfl, by show RM V 0 n (if _ then _ else _) u1; rw [if_pos e]; exact R1⟩
    · rw [show m / 2 ^ j % 2 = 0 from by omega, if_neg (show ¬ nI 0 = (1 : Int32) from by decide)]
      exact ⟨(nI (j + 1), su), by unfold fX6_leaves_70; rw [n1, nI_add], j + 1, by omega, rfl, by show RM V 0 n (if _ then _ else _) su; rw [if_neg e]; exact R⟩
theorem M_sh209 (u : Wo) (a b : Int32) (Q : Int32 → Wo → Prop) (k : ∀ v : Wo, (∀ c, c ≠ 2 → v c = u c) → (∀ q, v 2 q = if 134 ≤ q ∧ q < 139 then u 2 (q + 1) else u 2 q) → Gd (fX6_leaves_245 a b v) Q) : Gd (fX6_leaves_209 fX6_leaves_245 FU a b (nI 0) u) Q := by
  refine lp_gd (σ := Int32 × Wo) (fun m s => fX6_leaves_209 fX6_leaves_245 m a b s.1 s.2) (fun d s => ∃ z, z + d = 5 ∧ s.1 = nI z ∧ (∀ c, c ≠ 2 → s.2 c = u c) ∧ ∀ q, s.2 2 q = if 134 ≤ q ∧ q < 134 + z then u 2 (q + 1) else u 2 q) _ ?_ ?_ (d := 5) (s := (nI 0, u)) (by have := FU_ge; omega) ⟨0, by omega, rfl, fun _ _ => rfl, fun q => by rw [if_neg (by omega)]⟩
  · rintro m ⟨s1, su⟩ ⟨z, hz, hs, hF, hq⟩
    dsimp only at hs hF hq ⊢
    obtain rfl : z = 5 := by omega
    rw [fX6_leaves_209.eq_2, hs, if_pos (show (5 : Int32) ≤ nI 5 from by decide)]
    exact k su hF hq
  · rintro m d ⟨s1, su⟩ ⟨z, hz, hs, hF, hq⟩
    dsimp only at hs hF hq ⊢
    refine Or.inr ⟨(nI (z + 1), wr su 2 (134 + z) (su 2 (134 + z + 1))), ?_, z + 1, by omega, rfl, fun c hc => by dsimp only; rw [wr_ne _ _ _ hc]; exact hF c hc, fun q => ?_⟩
    · rw [fX6_leaves_209.eq_2, hs, if_neg (show ¬ (5 : Int32) ≤ nI z from nI_ge (b := 5) (by omega) (by decide))]
      simp (disch := omega) only [n0, n1, n2, n3, n4, n5, n6, n7, n8, n9, n10, n11, n12, n13, n14, n18, n21, n23, n24, n25, n36, n59, n60, n126, n127, n133, n134, n139, n140, n190, n1023, n1024, n1040, n1230, n35670, nI_mul, nI_add, nI_sub, inb_nI, gi_t, nI_clamp, Nat.add_zero, Nat.zero_add]
      rfl
    · dsimp only
      rw [wr_same]
      by_cases eq : q = 134 + z
      · rw [eq, upd_same, hq, if_neg (by omega), if_pos (by omega)]
      · rw [upd_ne _ _ eq, hq]
        by_cases e1 : 134 ≤ q ∧ q < 134 + z
        · rw [if_pos e1, if_pos (by omega)]
        · rw [if_neg e1, if_neg (by omega)]
theorem M_186 (h : RM V w n x u) (hw : WF x) {i : Nat} (hi : i < 6) (hV : V 0 6 = 0 ∨ V 0 6 = 1) : Gd (fX6_leaves_186 (nI i) u) (fun _ u1 => RM V w n (pafi x i) u1) := by
  have hr := h.2.2.2.2.2.1.2.2.2.2.1
  have hz := hr.2.1
  unfold fX6_leaves_186 pafi
  simp (disch := omega) only [n0, n1, n2, n3, n4, n5, n6, n7, n8, n9, n10, n11, n12, n13, n14, n18, n21, n23, n24, n25, n36, n59, n60, n126, n127, n133, n134, n139, n140, n190, n1023, n1024, n1040, n1230, n35670, nI_mul, nI_add, nI_sub, inb_nI, gi_t, nI_clamp, Nat.add_zero, Nat.zero_add]
  rw [hr.1]
  cases hl : qu x 6 with
  | nil =>
    refine gd_ip (show nI ([] : List Nat).length ≤ nI 0 from by decide) ?_
    exact gd_ret h
  | cons f t =>
    rw [hl] at hr hz
    rw [List.length_cons] at hz
    have hf : f < 6 := hw.2.2.2.1 6 f (by rw [hl]; exact List.mem_cons_self)
    refine gd_in (nI_ge (by simp) (by rw [List.length_cons]; omega)) ?_
    have e8 : u 2 134 = nI f := hr.2.2 0 (by decide)
    rw [e8]
    refine M_sh209 u _ _ _ (fun v hF hv => ?_)
    have R1 : RM V w n (qs x 6 t) (wr (wr v 2 139 (nI 0)) 2 133 (nI t.length)) := by
      refine RM_row h (fun c hc => by rw [wr_ne _ _ _ hc, wr_ne _ _ _ hc]; exact hF c hc) (MC_row h.2.2.2.2.2.1 (fun k hk => ?_) ⟨?_, ?_, fun k hk => ?_⟩) rfl rfl
      · rw [wr_same, wr_same, upd_ne _ _ (by omega), upd_ne _ _ (by omega), hv, if_neg (by omega)]
      · rw [wr_same, upd_same]
      · omega
      · rw [wr_same, wr_same, upd_ne _ _ (by omega)]
        by_cases e : k = 5
        · subst e
          rw [show 133 + 1 + 5 = 139 from rfl, upd_same, gD_zero (by omega)]
        · rw [upd_ne _ _ (by omega), hv, if_pos (by omega), show 133 + 1 + k + 1 = 133 + 1 + (k + 1) from by omega, hr.2.2 (k + 1) (by omega)]
          rfl
    unfold fX6_leaves_245
    simp (disch := omega) only [n0, n1, n2, n3, n4, n5, n6, n7, n8, n9, n10, n11, n12, n13, n14, n18, n21, n23, n24, n25, n36, n59, n60, n126, n127, n133, n134, n139, n140, n190, n1023, n1024, n1040, n1230, n35670, nI_mul, nI_add, nI_sub, inb_nI, gi_t, nI_clamp, Nat.add_zero, Nat.zero_add]
    have e7 : (wr v 2 139 (nI 0)) 2 133 = nI (t.length + 1) := by
      rw [wr_same, upd_ne _ _ (by omega), hv, if_neg (by omega), hr.1]
      rfl
    refine gd_bw (gd_bw ?_)
    rw [e7, nI_sub (by omega), Nat.add_sub_cancel]
    exact gd_bd (M_pas R1 hi hf hV) (fun r u2 R2 => gd_ret R2)
theorem M_rap (h : RM V w n x u) {j : Nat} (hl : (qu x 6).length < 6) : RM V w n (qs x 6 (qu x 6 ++ [j])) (wr (wr u 2 (134 + (qu x 6).length) (nI j)) 2 133 (nI ((qu x 6).length + 1))) := by
  have hr := h.2.2.2.2.2.1.2.2.2.2.1
  refine RM_row h (fun c hc => by rw [wr_ne _ _ _ hc, wr_ne _ _ _ hc]) (MC_row h.2.2.2.2.2.1 (fun k hk => ?_) ⟨?_, ?_, fun k hk => ?_⟩) rfl rfl
  · rw [wr_same, wr_same, upd_ne _ _ (by omega), upd_ne _ _ (by omega)]
  · rw [wr_same, upd_same, List.length_append]; rfl
  · rw [List.length_append]; exact hl
  · rw [wr_same, wr_same, upd_ne _ _ (by omega), gD_app]
    by_cases e : k = (qu x 6).length
    · rw [if_pos e, e, show 133 + 1 + (qu x 6).length = 134 + (qu x 6).length from by omega, upd_same]
    · rw [if_neg e, upd_ne _ _ (by omega)]; exact hr.2.2 k hk
theorem M_rwo (h : RM V 1 n x u) (hn : n ≤ 6) {i : Nat} (hi : i < 6) (hV : V 0 6 = 0 ∨ V 0 6 = 1) (hF : ∀ j, j < n → WF (rwo x i j)) (hW : WF (rwo x i n)) (hR : ∀ j, j < n → ¬ j ∈ qu (rwo x i j) 6 → (qu (rwo x i j) 6).length < 6) : Gd (fX6_leaves_109 fX6_leaves_186 FU (nI i) (nI (21 * i)) (nI 0) u) (fun _ u1 => RM V 1 n (pafi (rwo x i n) i) u1) := by
  refine lp_gd (σ := Int32 × Wo) (fun q s => fX6_leaves_109 fX6_leaves_186 q (nI i) (nI (21 * i)) s.1 s.2) (fun d s => ∃ j, j + d = n ∧ s.1 = nI j ∧ RM V 1 n (rwo x i j) s.2) _ ?_ ?_ (d := n) (s := (nI 0, u)) (by have := FU_ge; omega) ⟨0, by omega, rfl, h⟩
  · rintro q ⟨sj, su⟩ ⟨j, hj, rfl, R⟩
    dsimp only at R ⊢
    obtain rfl : j = n := by omega
    rw [fX6_leaves_109.eq_2, M_n R, if_pos (nI_le (Nat.le_refl _) (by omega))]
    exact M_186 R hW hi hV
  · rintro q d ⟨sj, su⟩ ⟨j, hj, rfl, R⟩
    dsimp only at R ⊢
    have hjn : j < n := by omega
    have hj6 : j < 6 := by omega
    refine Or.inr ?_
    have hr := R.2.2.2.2.2.1.2.2.2.2.1
    rw [fX6_leaves_109.eq_2, M_n R, if_neg (nI_ge (by omega) (by omega)), bd_eq (M_rowed R ((hF j hjn).2.2.2.1 6) hj6)]
    by_cases em : j ∈ qu (rwo x i j) 6
    · rw [if_pos em, if_neg (by decide)]
      exact ⟨(nI (j + 1), su), by unfold fX6_leaves_180; rw [n1, nI_add], j + 1, by omega, rfl, by show RM V 1 n (if _ then _ else _) su; rw [if_neg (fun q => q.1 em)]; exact R⟩
    · rw [if_neg em, if_pos rfl]
      have k1 := (hF j hjn).1 (20 + i) j
      have k2 := (hF j hjn).1 9 j
      simp (disch := omega) only [n0, n1, n2, n3, n4, n5, n6, n7, n8, n9, n10, n11, n12, n13, n14, n18, n21, n23, n24, n25, n36, n59, n60, n126, n127, n133, n134, n139, n140, n190, n1023, n1024, n1040, n1230, n35670, nI_mul, nI_add, nI_sub, inb_nI, gi_t, nI_clamp, Nat.add_zero, Nat.zero_add]
      rw [M_rk R hi hj6, M_r9 R hj6, nI_add]
      by_cases ed : fd (rwo x i j) (20 + i) j = fd (rwo x i j) 9 j + 1
      · have hlen := hR j hjn em
        rw [if_pos (show nI (fd (rwo x i j) (20 + i) j) = nI (fd (rwo x i j) 9 j + 1) from by rw [ed]), hr.1]
        simp (disch := omega) only [n0, n1, n2, n3, n4, n5, n6, n7, n8, n9, n10, n11, n12, n13, n14, n18, n21, n23, n24, n25, n36, n59, n60, n126, n127, n133, n134, n139, n140, n190, n1023, n1024, n1040, n1230, n35670, nI_mul, nI_add, nI_sub, inb_nI, gi_t, nI_clamp, Nat.add_zero, Nat.zero_add]
        rw [bw_eq, bw_eq]
        have e1 : (wr su 2 (134 + (qu (rwo x i j) 6).length) (nI j)) 2 133 = nI (qu (rwo x i j) 6).length := by rw [wr_same, upd_ne _ _ (by omega), hr.1]
        rw [e1, nI_add]
        exact ⟨(nI (j + 1), _), by unfold fX6_leaves_180; rw [n1, nI_add], j + 1, by omega, rfl, by show RM V 1 n (if _ then _ else _) _; rw [if_pos ⟨em, ed⟩]; exact M_rap R hlen⟩
      · rw [if_neg (nI_ne (by omega) (by omega) ed)]
        exact ⟨(nI (j + 1), su), by unfold fX6_leaves_180; rw [n1, nI_add], j + 1, by omega, rfl, by show RM V 1 n (if _ then _ else _) su; rw [if_neg (fun q => ed q.2)]; exact R⟩
theorem M_lef (h : RM V w n x u) (hw : WF x) (h3 : w < 3) (hn : n ≤ 6) {i : Nat} (hi : i < 6) (hV : V 0 6 = 0 ∨ V 0 6 = 1)
    (hT : w = 1 → ∀ y, y = rwo (fs (fs x 0 i 0) 9 i (fd x (20 + i) i)) i → WF (y n) ∧ ∀ j, j < n → WF (y j) ∧ (¬ j ∈ qu (y j) 6 → (qu (y j) 6).length < 6)) : Gd (fX6_leaves (nI i) u) (fun _ u1 => RM V w n (lef w n x i) u1) := by
  unfold fX6_leaves
  simp (disch := omega) only [n0, n1, n2, n3, n4, n5, n6, n7, n8, n9, n10, n11, n12, n13, n14, n18, n21, n23, n24, n25, n36, n59, n60, n126, n127, n133, n134, n139, n140, n190, n1023, n1024, n1040, n1230, n35670, nI_mul, nI_add, nI_sub, inb_nI, gi_t, nI_clamp, Nat.add_zero, Nat.zero_add]
  refine gd_bw ?_
  have R1 := M_s0 h 0 hi
  generalize wr u 2 (21 * i) (nI 0) = u1 at R1 ⊢
  have W1 : WF (fs x 0 i 0) := WF_fs hw (by decide) (fun q => by omega) (fun q => by omega)
  rw [M_way R1]
  unfold lef
  rcases (show w = 0 ∨ w = 1 ∨ w = 2 by omega) with rfl | rfl | rfl
  · refine gd_ip rfl ?_
    rw [if_pos rfl, M_r4 R1 hi]
    have e4 : fd (fs x 0 i 0) 4 i = fd x 4 i := by rw [fd_fs, if_neg (fun q => by omega)]
    rw [e4]
    refine gd_bn (gd_bw ?_)
    exact M_gvo (M_s4 R1 0 hi) hn hi (hw.2.2.1 i hi).1 hV
  · refine gd_in (show ¬ nI 1 = nI 0 from by decide) (gd_ip rfl ?_)
    have ek : fd (fs x 0 i 0) (20 + i) i = fd x (20 + i) i := by rw [fd_fs, if_neg (fun q => by omega)]
    rw [if_neg (show ¬ (1 : Nat) = 0 from by decide), if_pos rfl, M_rk R1 hi hi, ek]
    refine gd_bw ?_
    have H := hT rfl _ rfl
    exact M_rwo (M_s9 R1 (fd x (20 + i) i) hi) hn hi hV (fun j hj => (H.2 j hj).1) H.1 (fun j hj => (H.2 j hj).2)
  · refine gd_in (show ¬ nI 2 = nI 0 from by decide) (gd_in (show ¬ nI 2 = nI 1 from by decide) ?_)
    rw [if_neg (show ¬ (2 : Nat) = 0 from by decide), if_neg (show ¬ (2 : Nat) = 1 from by decide)]
    exact gd_bd (M_rul R1 W1 hi hV) (fun r u2 R2 => gd_ret R2)
theorem M_drop (h : RM V w n x u) {q : Nat} {a : Nat × Nat} {t : List (Nat × Nat)} (hq : q < 36) (hl : lt x q = a :: t) : Gd (fX6_dropEldest (nI (140 + 25 * q)) u) (fun _ u1 => RM V w n (ls x q t) u1) := by
  have hL := h.2.2.2.2.2.1.2.2.2.2.2.2 q hq
  rw [hl] at hL
  have hz := hL.2.1
  rw [List.length_cons] at hz
  unfold fX6_dropEldest
  refine lp_gd (σ := Int32 × Wo) (fun m s => fX6_dropEldest_2 fX6_dropEldest_32 m (nI (140 + 25 * q)) s.1 s.2) (fun d s => ∃ z, z + d = 23 ∧ 1 ≤ z ∧ s.1 = nI z ∧ (∀ c, c ≠ 2 → s.2 c = u c) ∧ ∀ p, s.2 2 p = if 140 + 25 * q + 1 ≤ p ∧ p < 140 + 25 * q + z then u 2 (p + 2) else u 2 p) _ ?_ ?_ (d := 22) (s := (1, u)) (by have := FU_ge; omega) ⟨1, by omega, by omega, rfl, fun _ _ => rfl, fun p => by rw [if_neg (by omega)]⟩
  · rintro m ⟨s1, su⟩ ⟨z, hz1, hz2, hs, hF, hp⟩
    dsimp only at hs hF hp ⊢
    obtain rfl : z = 23 := by omega
    rw [fX6_dropEldest_2.eq_2, hs, if_pos (show (23 : Int32) ≤ nI 23 from by decide)]
    unfold fX6_dropEldest_32
    simp (disch := omega) only [n0, n1, n2, n3, n4, n5, n6, n7, n8, n9, n10, n11, n12, n13, n14, n18, n21, n23, n24, n25, n36, n59, n60, n126, n127, n133, n134, n139, n140, n190, n1023, n1024, n1040, n1230, n35670, nI_mul, nI_add, nI_sub, inb_nI, gi_t, nI_clamp, Nat.add_zero, Nat.zero_add]
    refine gd_bw (gd_bw ?_)
    have e7 : (wr (wr su 2 (140 + 25 * q + 23) (nI 0)) 2 (140 + 25 * q + 24) (nI 0)) 2 (140 + 25 * q) = nI (t.length + 1) := by
      rw [wr_same, wr_same, upd_ne _ _ (by omega), upd_ne _ _ (by omega), hp, if_neg (by omega), hL.1]
      rfl
    rw [e7, nI_sub (by omega), Nat.add_sub_cancel]
    refine gd_bw (gd_ret ?_)
    refine RM_row h (fun c hc => by rw [wr_ne _ _ _ hc, wr_ne _ _ _ hc, wr_ne _ _ _ hc]; exact hF c hc) (MC_let h.2.2.2.2.2.1 hq (fun k hk => ?_) ⟨?_, by omega, fun k hk => ?_⟩) rfl rfl
    · rw [wr_same, wr_same, wr_same, upd_ne _ _ (by omega), upd_ne _ _ (by omega), upd_ne _ _ (by omega), hp, if_neg (by omega)]
    · rw [wr_same, upd_same]
    · rw [wr_same, wr_same, wr_same]
      by_cases e : k = 11
      · subst e
        rw [gP_zero (by omega)]
        exact ⟨by rw [upd_ne _ _ (by omega), upd_ne _ _ (by omega), show 140 + 25 * q + 1 + 2 * 11 = 140 + 25 * q + 23 from by omega, upd_same], by rw [upd_ne _ _ (by omega), show 140 + 25 * q + 2 + 2 * 11 = 140 + 25 * q + 24 from by omega, upd_same]⟩
      · have H := hL.2.2 (k + 1) (by omega)
        rw [show (a :: t).getD (k + 1) (0, 0) = t.getD k (0, 0) from rfl] at H
        refine ⟨?_, ?_⟩
        · rw [upd_ne _ _ (by omega), upd_ne _ _ (by omega), upd_ne _ _ (by omega), hp, if_pos (by omega), show 140 + 25 * q + 1 + 2 * k + 2 = 140 + 25 * q + 1 + 2 * (k + 1) from by omega]
          exact H.1
        · rw [upd_ne _ _ (by omega), upd_ne _ _ (by omega), upd_ne _ _ (by omega), hp, if_pos (by omega), show 140 + 25 * q + 2 + 2 * k + 2 = 140 + 25 * q + 2 + 2 * (k + 1) from by omega]
          exact H.2
  · rintro m d ⟨s1, su⟩ ⟨z, hz1, hz2, hs, hF, hp⟩
    dsimp only at hs hF hp ⊢
    refine Or.inr ⟨(nI (z + 1), wr su 2 (140 + 25 * q + z) (su 2 (140 + 25 * q + z + 2))), ?_, z + 1, by omega, by omega, rfl, fun c hc => by dsimp only; rw [wr_ne _ _ _ hc]; exact hF c hc, fun p => ?_⟩
    · rw [fX6_dropEldest_2.eq_2, hs, if_neg (show ¬ (23 : Int32) ≤ nI z from nI_ge (b := 23) (by omega) (by decide))]
      simp (disch := omega) only [n0, n1, n2, n3, n4, n5, n6, n7, n8, n9, n10, n11, n12, n13, n14, n18, n21, n23, n24, n25, n36, n59, n60, n126, n127, n133, n134, n139, n140, n190, n1023, n1024, n1040, n1230, n35670, nI_mul, nI_add, nI_sub, inb_nI, gi_t, nI_clamp, Nat.add_zero, Nat.zero_add]
      rfl
    · dsimp only
      rw [wr_same]
      by_cases eq : p = 140 + 25 * q + z
      · rw [eq, upd_same, hp, if_neg (by omega), if_pos (by omega)]
      · rw [upd_ne _ _ eq, hp]
        by_cases e1 : 140 + 25 * q + 1 ≤ p ∧ p < 140 + 25 * q + z
        · rw [if_pos e1, if_pos (by omega)]
        · rw [if_neg e1, if_neg (by omega)]
end MW
