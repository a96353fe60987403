-- both sides together: the reference's clear, begin, parent
theorem M_lay (v : Wo) {n : Nat} (hv : v 0 1 = nI n) (hn : n ≤ 6) : ∃ v1, fX6_layHolders v = some (0, v1) ∧ (∀ c, c ≠ 2 → v1 c = v c) ∧ (∀ i, i < n → v1 2 (21 * i + 5) = if i = 0 then 0 else v 1 i) ∧ ∀ q, (∀ i, i < n → q ≠ 21 * i + 5) → v1 2 q = v 2 q := by
  refine lp_post (σ := Int32 × Wo) (fun m s => fX6_layHolders_2 fX6_layHolders_41 m s.1 s.2) (fun d s => ∃ i, i + d = n ∧ s.1 = nI i ∧ (∀ c, c ≠ 2 → s.2 c = v c) ∧ (∀ j, j < i → s.2 2 (21 * j + 5) = if j = 0 then 0 else v 1 j) ∧ ∀ q, (∀ j, j < i → q ≠ 21 * j + 5) → s.2 2 q = v 2 q) (fun y => ∃ v1, y = some (0, v1) ∧ (∀ c, c ≠ 2 → v1 c = v c) ∧ (∀ i, i < n → v1 2 (21 * i + 5) = if i = 0 then 0 else v 1 i) ∧ ∀ q, (∀ i, i < n → q ≠ 21 * i + 5) → v1 2 q = v 2 q) ?_ ?_ n FU (0, v) (by have := FU_ge; omega) ⟨0, by omega, rfl, fun _ _ => rfl, fun j hj => (by omega), fun _ _ => rfl⟩
  · rintro m ⟨s1, su⟩ ⟨i, hi, hs1, hF, h1, h2⟩
    dsimp only at hs1 hF h1 h2 ⊢
    obtain rfl : i = n := by omega
    rw [hs1, fX6_layHolders_2.eq_2, hF 0 (by decide), hv, if_pos (nI_le (by omega) (by omega))]
    exact ⟨su, rfl, hF, h1, h2⟩
  · rintro m d ⟨s1, su⟩ ⟨i, hi, hs1, hF, h1, h2⟩
    dsimp only at hs1 hF h1 h2 ⊢
    have go : ∀ z : Int32, z = (if i = 0 then 0 else v 1 i) → fX6_layHolders_34 (fX6_layHolders_2 fX6_layHolders_41 m) (nI i) ((21 : Int32) * nI i + (5 : Int32)) z su = fX6_layHolders_2 fX6_layHolders_41 m (nI (i + 1)) (wr su 2 (21 * i + 5) z) ∧ (∃ i', i' + d = n ∧ nI (i + 1) = nI i' ∧ (∀ c, c ≠ 2 → (wr su 2 (21 * i + 5) z) c = v c) ∧ (∀ j, j < i' → (wr su 2 (21 * i + 5) z) 2 (21 * j + 5) = if j = 0 then 0 else v 1 j) ∧ ∀ q, (∀ j, j < i' → q ≠ 21 * j + 5) → (wr su 2 (21 * i + 5) z) 2 q = v 2 q) := fun z hz => by
      refine ⟨?_, i + 1, by omega, rfl, fun c hc => by rw [wr_ne _ _ _ hc]; exact hF c hc, fun j hj => ?_, fun q hq => ?_⟩
      · unfold fX6_layHolders_34
        rw [n21, n5, nI_mul, nI_add, gi_eq (inb_nI (by omega) (by decide)), nI_clamp (by omega), bw_eq, nI_1]
      · rw [wr_same]
        by_cases e : j = i
        · subst e
          rw [upd_same, hz]
        · rw [upd_ne _ _ (by omega)]
          exact h1 j (by omega)
      · rw [wr_same, upd_ne _ _ (hq i (by omega))]
        exact h2 q (fun j hj => hq j (by omega))
    refine Or.inr ?_
    rw [hs1, fX6_layHolders_2.eq_2, hF 0 (by decide), hv, if_neg (nI_ge (by omega) (by omega))]
    by_cases e : i = 0
    · obtain ⟨g1, g2⟩ := go 0 (by rw [if_pos e])
      rw [if_pos (show nI i = (0 : Int32) from by rw [e]; rfl)]
      exact ⟨(nI (i + 1), wr su 2 (21 * i + 5) 0), g1, g2⟩
    · obtain ⟨g1, g2⟩ := go (v 1 i) (by rw [if_neg e])
      rw [if_neg (nI_ne0 (by omega) (by omega)), gi_eq (inb_nI (by omega) (by decide)), nI_clamp (by omega), hF 1 (by decide)]
      exact ⟨(nI (i + 1), wr su 2 (21 * i + 5) (v 1 i)), g1, g2⟩
theorem M_clear (v : Wo) {n : Nat} (hv : v 0 1 = nI n) (hn : n ≤ 6) : ∃ v1, fX6_clear v = some (0, v1) ∧ (∀ c, c ≠ 0 → c ≠ 1 → c ≠ 2 → c ≠ 3 → v1 c = v c) ∧ (∀ k, k ≠ 7 → k ≠ 9 → k ≠ 10 → v1 0 k = v 0 k) ∧ v1 0 7 = 0 ∧ v1 0 9 = 0 ∧ v1 0 10 = 0 ∧ v1 1 0 = -4 ∧ (∀ i, 0 < i → i < 6 → v1 1 i = nI ((i - 1) / 2)) ∧ (∀ q, q < 1040 → (∀ i, i < n → q ≠ 21 * i + 5) → v1 2 q = 0) ∧ (∀ i, i < n → v1 2 (21 * i + 5) = nI (hc n i)) ∧ ∀ q, q < 190 → v1 3 q = 0 := by
  obtain ⟨a1, e1, f1, q1⟩ := fl_loop (F := fX6_clear_2 fX6_clear_22) (k := fX6_clear_22) (N := 1040) (cd := 2) (val := fun _ => 0) (u0 := v) (by decide) (fun m z _ => by rw [fX6_clear_2.eq_2, if_pos (show (1040 : Int32) ≤ nI 1040 from by decide)]) (fun m i z hi _ => by
    rw [fX6_clear_2.eq_2, if_neg (show ¬ (1040 : Int32) ≤ nI i from nI_ge (b := 1040) hi (by decide)), gi_eq (inb_nI hi (by decide)), nI_clamp (by omega), bw_eq, nI_1])
  obtain ⟨a2, e2, f2, q2⟩ := fl_loop (F := fX6_clear_24 fX6_clear_44) (k := fX6_clear_44) (N := 190) (cd := 3) (val := fun _ => 0) (u0 := a1) (by decide) (fun m z _ => by rw [fX6_clear_24.eq_2, if_pos (show (190 : Int32) ≤ nI 190 from by decide)]) (fun m i z hi _ => by
    rw [fX6_clear_24.eq_2, if_neg (show ¬ (190 : Int32) ≤ nI i from nI_ge (b := 190) hi (by decide)), gi_eq (inb_nI hi (by decide)), nI_clamp (by omega), bw_eq, nI_1])
  obtain ⟨a3, e3, f3, q3⟩ := fl_loop (F := fX6_clear_46 fX6_clear_78) (k := fX6_clear_78) (N := 6) (cd := 1) (val := fun i => if i = 0 then -4 else nI ((i - 1) / 2)) (u0 := a2) (by decide) (fun m z _ => by rw [fX6_clear_46.eq_2, if_pos (show (6 : Int32) ≤ nI 6 from by decide)]) (fun m i z hi _ => by
    rw [fX6_clear_46.eq_2, if_neg (show ¬ (6 : Int32) ≤ nI i from nI_ge (b := 6) hi (by decide))]
    unfold fX6_clear_71
    by_cases e : i = 0
    · rw [if_pos (show nI i = (0 : Int32) from by rw [e]; rfl), if_pos e, gi_eq (inb_nI hi (by decide)), nI_clamp (by omega), bw_eq, nI_1]
    · rw [if_neg (nI_ne0 (by omega) (by omega)), if_neg e, gi_eq (inb_nI hi (by decide)), nI_clamp (by omega), bw_eq, nI_1, n1, nI_sub (by omega), n2, pk_div (by omega) (by decide) (by decide)])
  have hv3 : a3 0 1 = nI n := by rw [f3 0 (by decide), f2 0 (by decide), f1 0 (by decide)]; exact hv
  obtain ⟨a4, e4, f4, h4, k4⟩ := M_lay a3 hv3 hn
  obtain ⟨a5, h5⟩ : ∃ z, z = wr (wr (wr a4 0 10 0) 0 7 0) 0 9 0 := ⟨_, rfl⟩
  have o5 : ∀ c, c ≠ 0 → a5 c = a4 c := fun c q => by rw [h5, wr_ne _ _ _ q, wr_ne _ _ _ q, wr_ne _ _ _ q]
  have o50 : ∀ k, a5 0 k = if k = 9 then 0 else if k = 7 then 0 else if k = 10 then 0 else a4 0 k := fun k => by
    rw [h5, wr_same, wr_same, wr_same]; rfl
  refine ⟨a5, ?_, fun c c0 c1 c2 c3 => by rw [o5 c c0, f4 c c2, f3 c c1, f2 c c3, f1 c c2], fun k k7 k9 k10 => by rw [o50, if_neg k9, if_neg k7, if_neg k10, f4 0 (by decide), f3 0 (by decide), f2 0 (by decide), f1 0 (by decide)], by rw [o50, if_neg (by decide), if_pos rfl], by rw [o50, if_pos rfl], by rw [o50, if_neg (by decide), if_neg (by decide), if_pos rfl], by rw [o5 1 (by decide), f4 1 (by decide), q3, if_pos (by decide), if_pos rfl], fun i hi h6 => by rw [o5 1 (by decide), f4 1 (by decide), q3, if_pos h6, if_neg (by omega)], fun q hq hi => by rw [o5 2 (by decide), k4 q hi, f3 2 (by decide), f2 2 (by decide), q1, if_pos hq], fun i hi => ?_, fun q hq => by rw [o5 3 (by decide), f4 3 (by decide), f3 3 (by decide), q2, if_pos hq]⟩
  · unfold fX6_clear
    rw [e1]
    unfold fX6_clear_22
    rw [e2]
    unfold fX6_clear_44
    rw [e3]
    unfold fX6_clear_78
    rw [bd_eq e4, bw_eq, bw_eq, bw_eq, h5]
  · rw [o5 2 (by decide), h4 i hi, hc]
    by_cases e : i = 0
    · rw [if_pos e, if_neg (by omega)]; rfl
    · rw [if_neg e, if_pos (by omega), q3, if_pos (by omega), if_neg e]
theorem MC_x0 {w n : Nat} {r : Nat → Int32} (hw : w < 3) (hn : n ≤ 6) (h : ∀ q, q < 1040 → (∀ i, i < n → q ≠ 21 * i + 5) → r q = 0) (h5 : ∀ i, i < n → r (21 * i + 5) = nI (hc n i)) : MC w n (x0 w n) r := by
  have g5 : ∀ i, i < 6 → r (21 * i + 5) = nI (hc n i) := fun i hi => by
    by_cases e : i < n
    · exact h5 i e
    · rw [h _ (by omega) (fun j hj => by omega), hc, if_neg (by omega)]; rfl
  refine ⟨fun f i hf hi => ?_, fun _ i hi => g5 i hi, fun i hi => h _ (by omega) (fun j hj => by omega), ?_, ⟨h _ (by decide) (fun j hj => by omega), Nat.zero_le _, fun k hk => h _ (by omega) (fun j hj => by omega)⟩, fun i hi => ⟨h _ (by omega) (fun j hj => by omega), Nat.zero_le _, fun k hk => h _ (by omega) (fun j hj => by omega)⟩, fun q hq => ⟨h _ (by omega) (fun j hj => by omega), Nat.zero_le _, fun k hk => ⟨h _ (by omega) (fun j hj => by omega), h _ (by omega) (fun j hj => by omega)⟩⟩⟩
  · have hk := okM_c hf
    by_cases e5 : f = 5
    · subst e5
      have ew := hk.elim (fun q => q.2 rfl) (fun q => by omega)
      show r (21 * i + 5) = _
      rw [g5 i hi, fd_x0, hc]
      by_cases e : 0 < i ∧ i < n
      · rw [if_pos e, if_pos (by omega)]
      · rw [if_neg e, if_neg (by omega)]
    · have f0 : fd (x0 w n) f i = 0 := by rw [fd_x0, if_neg (by omega)]
      rw [f0]
      unfold lM
      split
      · exact h _ (by omega) (fun j hj => by omega)
      · split
        · exact h _ (by omega) (fun j hj => by omega)
        · exact h _ (by omega) (fun j hj => by omega)
  · rw [h _ (by decide) (fun j hj => by omega), fd_x0, if_neg (by omega)]; rfl
theorem MB_x0 {w n : Nat} {r : Nat → Int32} (h : ∀ q, q < 190 → r q = 0) : MB (x0 w n) r := ⟨h 0 (by decide), fun k _ hk => h k (by omega), fun k _ hk => by cases hk⟩
