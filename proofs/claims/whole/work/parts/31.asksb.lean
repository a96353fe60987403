-- both sides together: keeper, knows, token, letter, entry, passed, undo
theorem ix_ne {x : Int32} {n : Nat} (hn : n < 100) (h : x < 0 ∨ nI n ≤ x) : ∀ k, k < n → ¬ x = nI k := fun k hk q => by
  rw [q] at h
  rcases h with h | h
  · exact nI_pos (by omega) h
  · exact nI_ge hk (by omega) h
theorem op_keeper {B : Nat} {u v : Wo} (hB : B < 268435454) (h : GG B u v) (x1 x2 : Int32) : RS B (fX5_keeper x1 x2 u) (fX6_keeper x1 x2 v) := by
  have hG := h
  obtain ⟨w, n, H, kept, L, ac, ha, hc, hm, h5, hb, h6, hp, ht⟩ := h
  have g3 := ha.1
  have g2 := ha.2.1
  have g6 := ha.2.2.1
  have inv := ha.2.2.2.2.2.1 kept (Nat.le_refl _)
  have wf := INV_WF inv g6 (by omega)
  rcases isk ⟨by omega, g6⟩ x1 hc.2.1 hm.2.1 with ⟨i, hi, rfl, k1, k2⟩ | ⟨-, k1, k2⟩
  · rcases pk_ix x2 (n := 10) (by decide) with q | q | ⟨k, hk, rfl⟩
    · have ne := ix_ne (n := 10) (by decide) (Or.inl q)
      have e0 : ¬ x2 = (0 : Int32) := ne 0 (by decide)
      have e1 : ¬ x2 = (1 : Int32) := ne 1 (by decide)
      have e2 : ¬ x2 = (2 : Int32) := ne 2 (by decide)
      have e3 : ¬ x2 = (3 : Int32) := ne 3 (by decide)
      have e4 : ¬ x2 = (4 : Int32) := ne 4 (by decide)
      have e5 : ¬ x2 = (5 : Int32) := ne 5 (by decide)
      have e6 : ¬ x2 = (6 : Int32) := ne 6 (by decide)
      have e7 : ¬ x2 = (7 : Int32) := ne 7 (by decide)
      have e8 : ¬ x2 = (8 : Int32) := ne 8 (by decide)
      have e9 : ¬ x2 = (9 : Int32) := ne 9 (by decide)
      refine RS_stay hG (Nat.le_refl _) (r := -1) ?_ ?_
      · unfold fX5_keeper fX5_keeper_28 fX5_keeper_45
        rw [bd_eq k1, if_neg (by decide)]
        simp only [e0, e1, e2, e3, e4, e5, e6, e7, e8, e9, ↓reduceIte, ite_self]
      · unfold fX6_keeper fX6_in
        rw [bd_eq k2, if_neg (by decide), if_pos q]
        rfl
    · have ne := ix_ne (n := 10) (by decide) (Or.inr q)
      have e0 : ¬ x2 = (0 : Int32) := ne 0 (by decide)
      have e1 : ¬ x2 = (1 : Int32) := ne 1 (by decide)
      have e2 : ¬ x2 = (2 : Int32) := ne 2 (by decide)
      have e3 : ¬ x2 = (3 : Int32) := ne 3 (by decide)
      have e4 : ¬ x2 = (4 : Int32) := ne 4 (by decide)
      have e5 : ¬ x2 = (5 : Int32) := ne 5 (by decide)
      have e6 : ¬ x2 = (6 : Int32) := ne 6 (by decide)
      have e7 : ¬ x2 = (7 : Int32) := ne 7 (by decide)
      have e8 : ¬ x2 = (8 : Int32) := ne 8 (by decide)
      have e9 : ¬ x2 = (9 : Int32) := ne 9 (by decide)
      have q0 : ¬ x2 < 0 := fun z => Int32.not_le.mpr (Int32.lt_trans z (by decide : (0 : Int32) < nI 10)) q
      have q9 : (9 : Int32) < x2 := Int32.lt_of_lt_of_le (by decide : (9 : Int32) < nI 10) q
      refine RS_stay hG (Nat.le_refl _) (r := -1) ?_ ?_
      · unfold fX5_keeper fX5_keeper_28 fX5_keeper_45
        rw [bd_eq k1, if_neg (by decide)]
        simp only [e0, e1, e2, e3, e4, e5, e6, e7, e8, e9, ↓reduceIte, ite_self]
      · unfold fX6_keeper fX6_in
        rw [bd_eq k2, if_neg (by decide), if_neg q0, if_pos q9]
        rfl
    · have s5 : fd (H kept) 5 i < 6 := wf.2.1 i (by omega)
      have b0 := wf.1 0 i
      exact RS_stay hG (Nat.le_refl _) (C_keeper g3 hc.2.2.2.2.1 hc.1 hc.2.1 (by omega) hk k1 (by omega) (by omega) (wf.2.2.1 i (by omega)).2 (fun q z => (by subst q; exact ((inv.2.2.2.1 rfl).2.1 i hi z).1))) (M_keeper g3 hm.2.2.2.1 hm.1 inv.2.2.1 (by omega) hi hk k2 (by omega) (by omega) hm.2.2.2.2.2.2.2.2.1 hm.2.2.2.2.2.2.2.2.2)
  · refine RS_stay hG (Nat.le_refl _) (r := -1) ?_ ?_
    · unfold fX5_keeper
      rw [bd_eq k1, if_pos rfl]
    · unfold fX6_keeper
      rw [bd_eq k2, if_pos rfl]; rfl
theorem op_knows {B : Nat} {u v : Wo} (h : GG B u v) (x1 x2 : Int32) : RS B (fX5_knows x1 x2 u) (fX6_knows x1 x2 v) := by
  have hG := h
  obtain ⟨w, n, H, kept, L, ac, ha, hc, hm, h5, hb, h6, hp, ht⟩ := h
  have g3 := ha.1
  have g2 := ha.2.1
  have g6 := ha.2.2.1
  have hcc := hc.2.2.2.2.1
  have hmc := hm.2.2.2.1
  unfold fX5_knows fX6_knows
  rw [hc.1]
  rcases isk ⟨by omega, g6⟩ x1 hc.2.1 hm.2.1 with ⟨i, hi, rfl, k1, k2⟩ | ⟨-, k1, k2⟩
  · rw [bd_eq k1, bd_eq k2, if_neg (show ¬ (1 : Int32) = 0 from by decide), hm.1]
    rcases (show w = 0 ∨ w = 1 ∨ w = 2 by omega) with rfl | rfl | rfl
    · rw [if_pos (show nI 0 = (0 : Int32) from by decide)]
      refine RS_stay hG (Nat.le_refl _) (r := -4) rfl ?_
      rw [if_neg (show ¬ (1 : Int32) = 0 from by decide)]
      by_cases q : x2 < 0
      · rw [if_pos q]; rfl
      · rw [if_neg q, if_pos (show nI 0 = (0 : Int32) from by decide)]; rfl
    · simp (decide := true) only [↓reduceIte]
      rw [hc.1, if_pos (show nI 1 = (1 : Int32) from rfl)]
      rcases isk ⟨by omega, g6⟩ x2 hc.2.1 hm.2.1 with ⟨j, hj, rfl, k3, -⟩ | ⟨hne, k3, -⟩
      · refine RS_stay hG (Nat.le_refl _) (r := nI (fd (H kept) (20 + i) j)) ?_ ?_
        · have := hcc.1 (20 + i) j (by unfold okC; simp; omega) (by omega)
          rw [lC_kn] at this
          rw [bd_eq k3, if_neg (by decide), bd_eq (C_known u (by omega) (by omega)), this]
          rfl
        · have := hmc.1 (20 + i) j (by unfold okM; simp; omega) (by omega)
          rw [lM, if_pos (by omega), Nat.add_sub_cancel_left] at this
          rw [if_neg (nI_pos (by omega)), hm.2.1, if_neg (nI_ge hj (by omega)), show (21 : Int32) * nI i + (14 : Int32) + nI j = nI (21 * i + 14 + j) from by rw [n21, n14, nI_mul, nI_add, nI_add], gi_eq (inb_nI (by omega) (by decide)), nI_clamp (by omega), this]
          rfl
      · refine RS_stay hG (Nat.le_refl _) (r := -4) ?_ ?_
        · rw [bd_eq k3, if_pos rfl]; rfl
        · by_cases q : x2 < 0
          · rw [if_pos q]; rfl
          · obtain ⟨j, hj, rfl⟩ := nI_of q
            have : n ≤ j := by
              rcases Nat.lt_or_ge j n with z | z
              · exact (hne j z rfl).elim
              · exact z
            rw [if_neg q, hm.2.1, if_pos (nI_le this hj)]; rfl
    · simp (decide := true) only [↓reduceIte]
      rw [hc.1, if_neg (by decide), bd_eq (C_queueOf u i)]
      by_cases q : x2 < 0
      · exact RS_stay hG (Nat.le_refl _) (r := -4) (by rw [if_pos q]; rfl) (by rw [if_pos q]; rfl)
      · obtain ⟨j, hj, rfl⟩ := nI_of q
        obtain ⟨c1, c2, c3⟩ := hcc.2.2.2.1 i (by omega)
        obtain ⟨m1, m2, m3⟩ := hmc.2.2.2.2.2.1 i (by omega)
        rw [if_neg q, if_neg q, bd_eq (C_get u (k := 98 + i * 7) (by omega)), c1, show (21 : Int32) * nI i + (7 : Int32) = nI (21 * i + 7) from by rw [n21, n7, nI_mul, nI_add], gi_eq (inb_nI (by omega) (by decide)), nI_clamp (by omega), m1]
        by_cases e : (qu (H kept) i).length ≤ j
        · rw [if_pos (nI_le e hj), if_pos (nI_le e hj)]
          exact RS_stay hG (Nat.le_refl _) (r := -4) rfl rfl
        · rw [if_neg (nI_ge (by omega) (by omega)), if_neg (nI_ge (by omega) (by omega)), show nI (98 + i * 7) + (1 : Int32) + nI j = nI (98 + i * 7 + 1 + j) from by rw [n1, nI_add, nI_add], bd_eq (C_get u (by omega)), c3 j (by omega), show (21 : Int32) * nI i + (8 : Int32) + nI j = nI (21 * i + 7 + 1 + j) from by rw [n21, n8, nI_mul, nI_add, nI_add], gi_eq (inb_nI (by omega) (by decide)), nI_clamp (by omega), m3 j (by omega)]
          exact RS_stay hG (Nat.le_refl _) rfl rfl
  · rw [bd_eq k1, bd_eq k2, if_pos (show (0 : Int32) = 0 from rfl)]
    refine RS_stay hG (Nat.le_refl _) (r := -4) ?_ ?_
    · by_cases q : nI w = 0
      · rw [if_pos q]; rfl
      · rw [if_neg q]; rfl
    · rw [if_pos (show (0 : Int32) = 0 from rfl)]; rfl
theorem op_token {B : Nat} {u v : Wo} (h : GG B u v) (x1 x2 : Int32) : RS B (fX5_token x1 x2 u) (fX6_token x1 x2 v) := by
  have hG := h
  obtain ⟨w, n, H, kept, L, ac, ha, hc, hm, h5, hb, h6, hp, ht⟩ := h
  have g3 := ha.1
  have g2 := ha.2.1
  have g6 := ha.2.2.1
  have hcc := hc.2.2.2.2.1
  have hmc := hm.2.2.2.1
  unfold fX5_token fX6_token fX6_in
  by_cases q1 : x1 < 0
  · rw [if_pos q1, if_pos q1]
    exact RS_stay hG (Nat.le_refl _) (r := -1) rfl rfl
  · rw [if_neg q1, if_neg q1]
    by_cases q2 : (1 : Int32) < x1
    · rw [if_pos q2, if_pos q2]
      exact RS_stay hG (Nat.le_refl _) (r := -1) rfl rfl
    · rw [if_neg q2, if_neg q2, bd_eq (show fX6_in_15 1 v = some (1, v) from rfl), if_neg (show ¬ (1 : Int32) = 0 from by decide)]
      rcases isk ⟨by omega, g6⟩ x2 hc.2.1 hm.2.1 with ⟨i, hi, rfl, k1, k2⟩ | ⟨-, k1, k2⟩
      · rw [bd_eq k1, bd_eq k2, if_neg (show ¬ (1 : Int32) = 0 from by decide), if_neg (show ¬ (1 : Int32) = 0 from by decide), hc.1, hm.1]
        by_cases ew : w = 1
        · subst ew
          rw [if_pos (show nI 1 = (1 : Int32) from rfl), if_pos (show nI 1 = (1 : Int32) from rfl)]
          by_cases e0 : x1 = 0
          · rw [if_pos e0, if_pos e0, show (31 : Int32) + nI i = nI (31 + i) from by rw [n31, nI_add], bd_eq (C_get u (by omega)), show u 6 (31 + i) = nI (fd (H kept) 9 i) from hcc.1 9 i rfl (by omega), show (127 : Int32) + nI i = nI (127 + i) from by rw [n127, nI_add], gi_eq (inb_nI (by omega) (by decide)), nI_clamp (by omega), show v 2 (127 + i) = nI (fd (H kept) 9 i) from hmc.1 9 i rfl (by omega)]
            exact RS_stay hG (Nat.le_refl _) rfl rfl
          · obtain ⟨c1, c2, c3⟩ := hcc.2.2.1
            obtain ⟨m1, m2, m3⟩ := hmc.2.2.2.2.1
            rw [if_neg e0, if_neg e0, bd_eq (show fX3_get (37 : Int32) u = some (u 6 37, u) from C_get (k := 37) u (by omega)), c1, gi_eq (show inb (133 : Int32) 1040 = true from by decide), show ((133 : Int32)).toNatClampNeg = 133 from rfl, m1]
            by_cases e : (qu (H kept) 6).length ≤ i
            · rw [if_pos (nI_le e (by omega)), if_pos (nI_le e (by omega))]
              exact RS_stay hG (Nat.le_refl _) (r := -4) rfl rfl
            · rw [if_neg (nI_ge (by omega) (by omega)), if_neg (nI_ge (by omega) (by omega)), show (38 : Int32) + nI i = nI (37 + 1 + i) from by rw [n38, nI_add], bd_eq (C_get u (by omega)), c3 i (by omega), show (134 : Int32) + nI i = nI (133 + 1 + i) from by rw [n134, nI_add], gi_eq (inb_nI (by omega) (by decide)), nI_clamp (by omega), m3 i (by omega)]
              exact RS_stay hG (Nat.le_refl _) rfl rfl
        · have ne : ¬ nI w = (1 : Int32) := nI_ne (b := 1) (by omega) (by decide) ew
          rw [if_neg ne, if_neg ne]
          exact RS_stay hG (Nat.le_refl _) (r := -2) rfl rfl
      · rw [bd_eq k1, bd_eq k2, if_pos (show (0 : Int32) = 0 from rfl), if_pos (show (0 : Int32) = 0 from rfl)]
        exact RS_stay hG (Nat.le_refl _) (r := -1) rfl rfl
