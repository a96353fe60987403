-- the reference's methods do the acts
theorem nI_m1 (a : Nat) : nI (a + 1) + (-1) = nI a := by
  rw [nI_succ, Int32.add_assoc, show (1 : Int32) + -1 = 0 from by decide, Int32.add_zero]
section MT
variable {V u : Wo} {w n : Nat} {x : XS}
theorem M_shift (u : Wo) (i : Int32) (Q : Int32 → Wo → Prop) (k : ∀ v : Wo, (∀ c, c ≠ 3 → v c = u c) → (∀ q, v 3 q = if 13 ≤ q ∧ q < 190 then u 3 (q - 3) else u 3 q) → Gd (fX6_comesIn_74 i v) Q) : Gd (fX6_comesIn_23 fX6_comesIn_74 FU i (nI 59) u) Q := by
  refine lp_gd (σ := Int32 × Wo) (fun m s => fX6_comesIn_23 fX6_comesIn_74 m i s.1 s.2) (fun d s => d ≤ 59 ∧ s.1 = nI d ∧ (∀ c, c ≠ 3 → s.2 c = u c) ∧ ∀ q, s.2 3 q = if 13 + 3 * d ≤ q ∧ q < 190 then u 3 (q - 3) else u 3 q) _ ?_ ?_ (d := 59) (s := (nI 59, u)) (by have := FU_ge; omega) ⟨by omega, rfl, fun _ _ => rfl, fun q => by rw [if_neg (by omega)]⟩
  · rintro m ⟨s1, su⟩ ⟨-, hs, hF, hq⟩
    dsimp only at hs hF hq ⊢
    rw [fX6_comesIn_23.eq_2, hs, if_pos (show nI 0 ≤ (0 : Int32) from by decide)]
    exact k su hF (fun q => by rw [hq])
  · rintro m d ⟨s1, su⟩ ⟨hd, hs, hF, hq⟩
    dsimp only at hs hF hq ⊢
    refine Or.inr ?_
    rw [fX6_comesIn_23.eq_2, hs, if_neg (nI_nle (by omega) (by omega))]
    refine lp_post (σ := Int32 × Wo) (fun p s => fX6_comesIn_29 (fX6_comesIn_68 (fX6_comesIn_23 fX6_comesIn_74 m)) p i (nI (d + 1)) s.1 s.2) (fun e s => ∃ z, z + e = 3 ∧ s.1 = nI z ∧ (∀ c, c ≠ 3 → s.2 c = u c) ∧ ∀ q, s.2 3 q = if (13 + 3 * d ≤ q ∧ q < 13 + 3 * d + z) ∨ (16 + 3 * d ≤ q ∧ q < 190) then u 3 (q - 3) else u 3 q) (fun y => ∃ t : Int32 × Wo, y = fX6_comesIn_23 fX6_comesIn_74 m i t.1 t.2 ∧ d ≤ 59 ∧ t.1 = nI d ∧ (∀ c, c ≠ 3 → t.2 c = u c) ∧ ∀ q, t.2 3 q = if 13 + 3 * d ≤ q ∧ q < 190 then u 3 (q - 3) else u 3 q) ?_ ?_ 3 FU (0, su) (by have := FU_ge; omega) ⟨0, by omega, rfl, hF, fun q => ?_⟩
    · rintro p ⟨z1, zu⟩ ⟨z, hz, hz1, hF2, hq2⟩
      dsimp only at hz1 hF2 hq2 ⊢
      obtain rfl : z = 3 := by omega
      rw [fX6_comesIn_29.eq_2, hz1, if_pos (show (3 : Int32) ≤ nI 3 from by decide)]
      unfold fX6_comesIn_68
      rw [nI_m1]
      refine ⟨(nI d, zu), rfl, by omega, rfl, hF2, fun q => ?_⟩
      dsimp only
      rw [hq2]
      by_cases e : 13 + 3 * d ≤ q ∧ q < 190
      · rw [if_pos e, if_pos (by omega)]
      · rw [if_neg e, if_neg (by omega)]
    · rintro p e ⟨z1, zu⟩ ⟨z, hz, hz1, hF2, hq2⟩
      dsimp only at hz1 hF2 hq2 ⊢
      refine Or.inr ⟨(nI (z + 1), wr zu 3 (10 + 3 * (d + 1) + z) (zu 3 (10 + 3 * (d + 1) - 3 + z))), ?_, z + 1, by omega, rfl, fun c hc => by dsimp only; rw [wr_ne _ _ _ hc]; exact hF2 c hc, fun q => ?_⟩
      · rw [fX6_comesIn_29.eq_2, hz1, if_neg (show ¬ (3 : Int32) ≤ nI z from nI_ge (b := 3) (by omega) (by decide))]
        simp (disch := omega) only [n0, n1, n2, n3, n4, n5, n6, n7, n8, n9, n10, n11, n12, n13, n14, n18, n21, n23, n24, n25, n36, n59, n60, n126, n127, n133, n134, n139, n140, n190, n1023, n1024, n1040, n1230, n35670, nI_mul, nI_add, nI_sub, inb_nI, gi_t, nI_clamp, Nat.add_zero, Nat.zero_add]
        rfl
      · dsimp only
        rw [wr_same]
        by_cases eq : q = 10 + 3 * (d + 1) + z
        · rw [eq, upd_same, hq2, if_neg (by omega), if_pos (by omega)]
          congr 1
          omega
        · rw [upd_ne _ _ eq, hq2]
          by_cases e1 : (13 + 3 * d ≤ q ∧ q < 13 + 3 * d + z) ∨ (16 + 3 * d ≤ q ∧ q < 190)
          · rw [if_pos e1, if_pos (by omega)]
          · rw [if_neg e1, if_neg (by omega)]
    · dsimp only
      rw [hq]
      by_cases e1 : 13 + 3 * (d + 1) ≤ q ∧ q < 190
      · rw [if_pos e1, if_pos (by omega)]
      · rw [if_neg e1, if_neg (by omega)]
theorem M_ent (h : RM V w n x u) {i : Nat} (hi : i < 6) (hV : V 0 6 = 0 ∨ V 0 6 = 1) : Gd (fX6_comesIn (nI i) u) (fun _ u1 => RM V w n (ent x i) u1) := by
  unfold fX6_comesIn
  simp (disch := omega) only [n0, n1, n2, n3, n4, n5, n6, n7, n8, n9, n10, n11, n12, n13, n14, n18, n21, n23, n24, n25, n36, n59, n60, n126, n127, n133, n134, n139, n140, n190, n1023, n1024, n1040, n1230, n35670, nI_mul, nI_add, nI_sub, inb_nI, gi_t, nI_clamp, Nat.add_zero, Nat.zero_add]
  refine gd_bw ?_
  have R := M_s0 h 2 hi
  generalize wr u 2 (21 * i) (nI 2) = u1 at R ⊢
  rw [M_rec R]
  rcases hV with hV | hV
  · rw [hV]
    refine gd_ip (show (0 : Int32) = nI 0 from rfl) ?_
    obtain ⟨h1, h2, h3, h4, h5, h6, h7, h8⟩ := R
    exact gd_ret ⟨h1, h2, h3, h4, h5, h6, fun q => (ne01 hV q).elim, h8⟩
  · rw [hV]
    refine gd_in (show ¬ (1 : Int32) = nI 0 from by decide) ?_
    refine M_shift u1 (nI i) _ (fun v hF hq => ?_)
    obtain ⟨h1, h2, h3, h4, h5, h6, h7, h8⟩ := R
    unfold fX6_comesIn_74 fX6_sent
    simp (disch := omega) only [n0, n1, n2, n3, n4, n5, n6, n7, n8, n9, n10, n11, n12, n13, n14, n18, n21, n23, n24, n25, n36, n59, n60, n126, n127, n133, n134, n139, n140, n190, n1023, n1024, n1040, n1230, n35670, nI_mul, nI_add, nI_sub, inb_nI, gi_t, nI_clamp, Nat.add_zero, Nat.zero_add]
    refine gd_bw (gd_bw ?_)
    rw [bd_eq rfl]
    refine gd_bw (gd_bw (gd_ret ⟨fun c c1 c2 c3 => ?_, fun k hk => ?_, h3, h4, ?_, ?_, fun q1 q2 => ?_, fun q => (ne01 q hV).elim⟩))
    · rw [wr_ne _ _ _ c3, wr_ne _ _ _ c3, wr_ne _ _ _ c3, wr_ne _ _ _ c3, hF c c3]; exact h1 c c1 c2 c3
    · rw [wr_ne _ _ _ (by decide), wr_ne _ _ _ (by decide), wr_ne _ _ _ (by decide), wr_ne _ _ _ (by decide), hF 0 (by decide)]; exact h2 k hk
    · rw [wr_ne _ _ _ (by decide), wr_ne _ _ _ (by decide), wr_ne _ _ _ (by decide), wr_ne _ _ _ (by decide), hF 0 (by decide)]; exact h5
    · rw [wr_ne _ _ _ (by decide), wr_ne _ _ _ (by decide), wr_ne _ _ _ (by decide), wr_ne _ _ _ (by decide), hF 2 (by decide)]; exact h6
    · obtain ⟨b1, b2, b3⟩ := h7 q1 q2
      have low : ∀ q, q < 13 → v 3 q = u1 3 q := fun q hq2 => by rw [hq, if_neg (by omega)]
      have e0 : v 3 0 = nI (ev x) := (low 0 (by omega)).trans b1
      have ek : ∀ k, 1 ≤ k → k < 10 → v 3 k = bb x k := fun k k1 k2 => (low k (by omega)).trans (b2 k k1 k2)
      simp (disch := omega) only [wr_same, upd_same, upd_ne, e0, ek, nI_add]
      refine ⟨?_, fun k k1 k2 => ?_, fun k k1 k2 z hz => ?_⟩
      · rw [upd_same]; rfl
      · simp (disch := omega) only [upd_ne, ek]; rfl
      · have k2 : k < ev x + 1 := k2
        have hlg : lg (ent x i) (ev (ent x i) - 1 - k) z = if ev x - k = ev x then (if z = 0 then nI i else if z = 1 then nI (ev x) - bb x (1 + i) else bb x 7 + bb x 8 + bb x 9) else lg x (ev x - k) z := rfl
        rw [hlg]
        by_cases ez : k = 0
        · subst ez
          rw [if_pos (by omega)]
          rcases (show z = 0 ∨ z = 1 ∨ z = 2 by omega) with rfl | rfl | rfl
          · simp (disch := omega) only [upd_ne, upd_same]; rfl
          · simp (disch := omega) only [upd_ne, upd_same]; rfl
          · simp (disch := omega) only [upd_ne, upd_same]; rfl
        · rw [if_neg (by omega), upd_ne _ _ (by omega), upd_ne _ _ (by omega), upd_ne _ _ (by omega), upd_ne _ _ (by omega), hq, if_pos (by omega), show 10 + 3 * k + z - 3 = 10 + 3 * (k - 1) + z from by omega, b3 (k - 1) (by omega) (by show k - 1 < ev x; omega) z hz]
          show lg x (ev x - 1 - (k - 1)) z = _
          rw [show ev x - 1 - (k - 1) = ev x - k from by omega]
theorem M_queue (h : RM V w n x u) {i j : Nat} (hi : i < 6) (hl : (qu x i).length < 6) : Gd (fX6_queue (nI i) (nI j) u) (fun _ u1 => RM V w n (qs x i (qu x i ++ [j])) u1) := by
  have hq := h.2.2.2.2.2.1.2.2.2.2.2.1 i hi
  unfold fX6_queue
  simp (disch := omega) only [n0, n1, n2, n3, n4, n5, n6, n7, n8, n9, n10, n11, n12, n13, n14, n18, n21, n23, n24, n25, n36, n59, n60, n126, n127, n133, n134, n139, n140, n190, n1023, n1024, n1040, n1230, n35670, nI_mul, nI_add, nI_sub, inb_nI, gi_t, nI_clamp, Nat.add_zero, Nat.zero_add]
  rw [hq.1]
  simp (disch := omega) only [n0, n1, n2, n3, n4, n5, n6, n7, n8, n9, n10, n11, n12, n13, n14, n18, n21, n23, n24, n25, n36, n59, n60, n126, n127, n133, n134, n139, n140, n190, n1023, n1024, n1040, n1230, n35670, nI_mul, nI_add, nI_sub, inb_nI, gi_t, nI_clamp, Nat.add_zero, Nat.zero_add]
  refine gd_bw (gd_bw (gd_ret ?_))
  simp (disch := omega) only [wr_same, upd_ne, hq.1, nI_add]
  refine RM_row h (fun c hc => by rw [wr_ne _ _ _ hc, wr_ne _ _ _ hc]) (MC_qu h.2.2.2.2.2.1 hi (fun k hk => ?_) ⟨?_, ?_, fun k hk => ?_⟩) rfl rfl
  · rw [wr_same, wr_same, upd_ne _ _ (by omega), upd_ne _ _ (by omega)]
  · rw [wr_same, upd_same, List.length_append]; rfl
  · rw [List.length_append]; exact hl
  · rw [wr_same, wr_same, upd_ne _ _ (by omega), gD_app]
    by_cases e : k = (qu x i).length
    · rw [if_pos e, e, show 21 * i + 7 + 1 + (qu x i).length = 21 * i + 8 + (qu x i).length from by omega, upd_same]
    · rw [if_neg e, upd_ne _ _ (by omega)]; exact hq.2.2 k hk
theorem M_sno (h : RM V w n x u) (hn : n ≤ 6) {i nm : Nat} (hi : i < 6) (hV : V 0 6 = 0 ∨ V 0 6 = 1) : Gd (fX6_askAll (nI i) (nI nm) u) (fun _ u1 => RM V w n (sno x i 0 nm n) u1) := by
  unfold fX6_askAll
  refine lp_gd (σ := Int32 × Wo) (fun m s => fX6_askAll_2 fX6_askAll_29 m (nI i) (nI nm) s.1 s.2) (fun d s => ∃ j, j + d = n ∧ s.1 = nI j ∧ RM V w n (sno x i 0 nm j) s.2) _ ?_ ?_ (d := n) (s := (0, u)) (by have := FU_ge; omega) ⟨0, by omega, rfl, h⟩
  · rintro m ⟨sj, su⟩ ⟨j, hj, rfl, R⟩
    dsimp only at R ⊢
    obtain rfl : j = n := by omega
    rw [fX6_askAll_2.eq_2, M_n R, if_pos (nI_le (Nat.le_refl _) (by omega))]
    exact gd_ret R
  · rintro m d ⟨sj, su⟩ ⟨j, hj, rfl, R⟩
    dsimp only at R ⊢
    refine Or.inr ?_
    rw [fX6_askAll_2.eq_2, M_n R, if_neg (nI_ge (by omega) (by omega))]
    by_cases e : j = i
    · subst e
      rw [if_pos rfl]
      exact ⟨(nI (j + 1), su), by unfold fX6_askAll_23; rw [n1, nI_add], j + 1, by omega, rfl, by show RM V w n (if j = j then _ else _) su; rw [if_pos rfl]; exact R⟩
    · rw [if_neg (fun q => e (nI_inj (by omega) (by omega) q))]
      obtain ⟨r, u1, e1, R1⟩ := M_snd R hi (show j < 6 by omega) (kd := 0) (nm := nm) (by decide) hV
      rw [bd_eq (show fX6_send (nI i) (nI j) (0 : Int32) (nI nm) su = some (r, u1) from e1)]
      exact ⟨(nI (j + 1), u1), by unfold fX6_askAll_23; rw [n1, nI_add], j + 1, by omega, rfl, by show RM V w n (if j = i then _ else _) u1; rw [if_neg e]; exact R1⟩
theorem M_157 (h : RM V 2 n x u) {i : Nat} (hi : i < 6) (h5 : fd x 5 i < 6) (h6 : fd x 6 i < 268435456) (hV : V 0 6 = 0 ∨ V 0 6 = 1) : Gd (fX6_rules_157 (nI i) (nI (21 * i)) u) (fun _ u1 => RM V 2 n (ru2 x i) u1) := by
  have hq := h.2.2.2.2.2.1.2.2.2.2.2.1 i hi
  unfold fX6_rules_157 ru2
  simp (disch := omega) only [n0, n1, n2, n3, n4, n5, n6, n7, n8, n9, n10, n11, n12, n13, n14, n18, n21, n23, n24, n25, n36, n59, n60, n126, n127, n133, n134, n139, n140, n190, n1023, n1024, n1040, n1230, n35670, nI_mul, nI_add, nI_sub, inb_nI, gi_t, nI_clamp, Nat.add_zero, Nat.zero_add]
  rw [M_r5 h hi, hq.1, M_r6 h hi]
  by_cases e5 : fd x 5 i = i
  · rw [if_pos (by rw [e5]), if_neg (fun q => q.1 e5)]
    exact gd_ret h
  · rw [if_neg (nI_ne (by omega) (by omega) e5)]
    have hz := hq.2.1
    cases hl : qu x i with
    | nil =>
      rw [if_pos (show nI ([] : List Nat).length ≤ nI 0 from by decide), if_neg (fun q => q.2.1 rfl)]
      exact gd_ret h
    | cons f t =>
      rw [hl] at hz
      rw [if_neg (nI_ge (by simp) (by omega))]
      by_cases e6 : fd x 6 i = 0
      · rw [if_pos (by rw [e6]), if_pos ⟨e5, by simp, e6⟩]
        refine gd_bd (M_snd h (kd := 0) (nm := 0) hi h5 (by decide) hV) (fun r u1 R1 => ?_)
        exact gd_bw (gd_ret (M_s6 R1 1 hi))
      · rw [if_neg (nI_ne (by omega) (by omega) e6), if_neg (fun q => e6 q.2.2)]
        exact gd_ret h
end MT
