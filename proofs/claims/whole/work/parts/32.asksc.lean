-- both sides together: letter, entry, passed, undo
theorem gD_map : ∀ (l : List (Nat × Nat)) (k : Nat), k < l.length → (l.map pk).getD k 0 = pk (l.getD k (0, 0))
  | [], k, h => by cases h
  | a :: l, 0, _ => rfl
  | a :: l, k + 1, h => gD_map l k (by rw [List.length_cons] at h; omega)
theorem gD_memP : ∀ (l : List (Nat × Nat)) (k : Nat), k < l.length → l.getD k (0, 0) ∈ l
  | [], k, h => by cases h
  | a :: l, 0, _ => List.mem_cons_self
  | a :: l, k + 1, h => List.mem_cons_of_mem _ (gD_memP l k (by rw [List.length_cons] at h; omega))
theorem op_letter {B : Nat} {u v : Wo} (hB : B < 268435454) (h : GG B u v) (x1 x2 x3 x4 : Int32) : RS B (fX5_letter x1 x2 x3 x4 u) (fX6_letter x1 x2 x3 x4 v) := by
  have hG := h
  obtain ⟨w, n, H, kept, L, ac, ha, hc, hm, h5, hb, h6, hp, ht⟩ := h
  have g3 := ha.1
  have g2 := ha.2.1
  have g6 := ha.2.2.1
  have inv := ha.2.2.2.2.2.1 kept (Nat.le_refl _)
  have wf := INV_WF inv g6 (by omega)
  have hcc := hc.2.2.2.2.1
  have hmc := hm.2.2.2.1
  have nt : ¬ (1 : Int32) = 0 := by decide
  unfold fX5_letter fX6_letter fX3_isPair
  rcases isk ⟨by omega, g6⟩ x1 hc.2.1 hm.2.1 with ⟨i, hi, rfl, k1, k2⟩ | ⟨-, k1, k2⟩
  · rcases isk ⟨by omega, g6⟩ x2 hc.2.1 hm.2.1 with ⟨j, hj, rfl, k3, k4⟩ | ⟨-, k3, k4⟩
    · rw [bd_eq k1, if_neg nt, bd_eq k3, if_neg nt, bd_eq k2, if_neg nt, bd_eq k4, if_neg nt]
      by_cases eij : nI i = nI j
      · rw [if_pos eij, if_pos eij, bd_eq (show fX3_isPair_25 u = some (0, u) from rfl), if_pos rfl]
        exact RS_stay hG (Nat.le_refl _) (r := -1) rfl rfl
      · rw [if_neg eij, if_neg eij, bd_eq (show fX3_isPair_26 1 u = some (1, u) from rfl), if_neg nt]
        by_cases e3 : x3 < (-1 : Int32)
        · rw [if_pos e3, if_pos e3]
          exact RS_stay hG (Nat.le_refl _) (r := -1) rfl rfl
        · rw [if_neg e3, if_neg e3]
          unfold fX6_in
          by_cases e4 : x4 < 0
          · rw [if_pos e4, if_pos e4]
            exact RS_stay hG (Nat.le_refl _) (r := -1) rfl rfl
          · rw [if_neg e4, if_neg e4]
            by_cases e5 : x4 ≤ 1
            · rw [if_pos e5, if_neg (Int32.not_lt.mpr e5), bd_eq (show fX6_in_15 1 v = some (1, v) from rfl), if_neg nt, bd_eq (C_underWay u (by omega) (by omega)), bd_eq (M_pairAt v i j)]
              obtain ⟨c1, c2, c3⟩ := hcc.2.2.2.2 (i * 6 + j) (by omega)
              obtain ⟨m1, m2, m3⟩ := hmc.2.2.2.2.2.2 (i * 6 + j) (by omega)
              rw [List.length_map] at c1
              rw [c1]
              by_cases e6 : (0 : Int32) ≤ x3
              · obtain ⟨k, hk, rfl⟩ := nI_of (show ¬ x3 < 0 from Int32.not_lt.mpr e6)
                have nm : ¬ nI k = -1 := nI_nm1 hk
                rw [if_neg nm, if_pos e6, gi_eq (inb_nI (by omega) (by decide)), nI_clamp (by omega), m1]
                by_cases e7 : k < (lt (H kept) (i * 6 + j)).length
                · obtain ⟨y4, hy4, rfl⟩ := nI_of e4
                  have hy : y4 ≤ 1 := by
                    rcases Nat.lt_or_ge 1 y4 with q | q
                    · exact (nI_ge (a := 1) (b := y4) q hy4 e5).elim
                    · exact q
                  rw [if_pos (nI_lt e7 (by omega)), if_neg (nI_ge e7 (by omega)), bd_eq (C_letterAt u (by omega) (by omega) (by omega)), c3 k (by omega)]
                  obtain ⟨p, hp1⟩ : ∃ p, p = (lt (H kept) (i * 6 + j)).getD k (0, 0) := ⟨_, rfl⟩
                  have hgp : ((lt (H kept) (i * 6 + j)).map pk).getD k 0 = pk p := by
                    rw [hp1]
                    exact gD_map _ _ e7
                  have hpm : p ∈ lt (H kept) (i * 6 + j) := by rw [hp1]; exact gD_memP _ _ e7
                  have hw := wf.2.2.2.2.1 _ p hpm
                  have hm3 := m3 k (by omega)
                  rw [← hp1] at hm3
                  rw [hgp]
                  rcases (show y4 = 0 ∨ y4 = 1 by omega) with rfl | rfl
                  · rw [if_pos (show nI 0 = (0 : Int32) from rfl), bd_eq (show fX3_kindOf (nI (pk p)) u = some (nI p.1, u) from C_kindOf u (kd := p.1) (nm := p.2) hw.1), show nI (140 + 25 * (i * 6 + j)) + (1 : Int32) + (2 : Int32) * nI k + nI 0 = nI (140 + 25 * (i * 6 + j) + 1 + 2 * k) from by rw [n1, n2, nI_mul, nI_add, nI_add, nI_add, Nat.add_zero], gi_eq (inb_nI (by omega) (by decide)), nI_clamp (by omega), hm3.1]
                    exact RS_stay hG (Nat.le_refl _) rfl rfl
                  · rw [if_neg (show ¬ nI 1 = (0 : Int32) from by decide), bd_eq (show fX3_numberOf (nI (pk p)) u = some (nI p.2, u) from C_numberOf u (kd := p.1) (nm := p.2) hw.1 hw.2), show nI (140 + 25 * (i * 6 + j)) + (1 : Int32) + (2 : Int32) * nI k + nI 1 = nI (140 + 25 * (i * 6 + j) + 2 + 2 * k) from by rw [n1, n2, nI_mul, nI_add, nI_add, nI_add, show 140 + 25 * (i * 6 + j) + 1 + 2 * k + 1 = 140 + 25 * (i * 6 + j) + 2 + 2 * k by omega], gi_eq (inb_nI (by omega) (by decide)), nI_clamp (by omega), hm3.2]
                    exact RS_stay hG (Nat.le_refl _) rfl rfl
                · rw [if_neg (nI_nlt (by omega) hk), if_pos (nI_le (by omega) hk)]
                  exact RS_stay hG (Nat.le_refl _) (r := -4) rfl rfl
              · have em : x3 = -1 := by
                  rw [Int32.lt_iff_toInt_lt] at e3
                  rw [Int32.le_iff_toInt_le] at e6
                  have t0 : (0 : Int32).toInt = 0 := by decide
                  have t1 : (-1 : Int32).toInt = -1 := by decide
                  exact Int32.toInt_inj.mp (by omega)
                rw [if_pos em, if_neg e6, gi_eq (inb_nI (by omega) (by decide)), nI_clamp (by omega), m1]
                exact RS_stay hG (Nat.le_refl _) rfl rfl
            · rw [if_neg e5, if_pos (Int32.not_le.mp e5)]
              exact RS_stay hG (Nat.le_refl _) (r := -1) rfl rfl
    · rw [bd_eq k1, if_neg nt, bd_eq k3, if_pos (show (0 : Int32) = 0 from rfl), bd_eq (show fX3_isPair_25 u = some (0, u) from rfl), if_pos (show (0 : Int32) = 0 from rfl), bd_eq k2, if_neg nt, bd_eq k4, if_pos (show (0 : Int32) = 0 from rfl)]
      exact RS_stay hG (Nat.le_refl _) (r := -1) rfl rfl
  · rw [bd_eq k1, if_pos (show (0 : Int32) = 0 from rfl), bd_eq (show fX3_isPair_25 u = some (0, u) from rfl), if_pos (show (0 : Int32) = 0 from rfl), bd_eq k2, if_pos (show (0 : Int32) = 0 from rfl)]
    exact RS_stay hG (Nat.le_refl _) (r := -1) rfl rfl
theorem op_passed {B : Nat} {u v : Wo} (h : GG B u v) (x1 : Int32) : RS B (fX5_passed x1 u) (fX6_passed x1 v) := by
  have hG := h
  obtain ⟨w, n, H, kept, L, ac, ha, hc, hm, h5, hb, h6, hp, ht⟩ := h
  unfold fX5_passed fX6_passed fX6_in
  by_cases e1 : x1 < 0
  · rw [if_pos e1, if_pos e1]
    exact RS_stay hG (Nat.le_refl _) (r := -1) rfl rfl
  · obtain ⟨k, hk, rfl⟩ := nI_of e1
    rw [if_neg e1, if_neg e1]
    by_cases e2 : k < 7
    · rw [if_pos (show nI k < (7 : Int32) from nI_lt (b := 7) e2 (by decide)), if_neg (show ¬ (6 : Int32) < nI k from nI_nlt (b := k) (a := 6) (by omega) (by decide)), bd_eq (show fX6_in_15 1 v = some (1, v) from rfl), if_neg (show ¬ (1 : Int32) = 0 from by decide), gi_eq (inb_nI e2 (by decide)), gi_eq (inb_nI e2 (by decide)), nI_clamp hk, ht k e2]
      exact RS_stay hG (Nat.le_refl _) rfl rfl
    · rw [if_neg (show ¬ nI k < (7 : Int32) from nI_nlt (a := k) (b := 7) (by omega) hk), if_pos (show (6 : Int32) < nI k from nI_lt (a := 6) (by omega) hk)]
      exact RS_stay hG (Nat.le_refl _) (r := -1) rfl rfl
theorem op_entry {B : Nat} {u v : Wo} (hB : B < 268435454) (h : GG B u v) (x1 x2 : Int32) : RS B (fX5_entry x1 x2 u) (fX6_entry x1 x2 v) := by
  have hG := h
  obtain ⟨w, n, H, kept, L, ac, ha, hc, hm, h5, hb, h6, hp, ht⟩ := h
  have inv := ha.2.2.2.2.2.1 kept (Nat.le_refl _)
  have hev : ev (H kept) ≤ B := inv.1.2.2
  have hch := ev_chain ha.2.2.2.2.2.2.1 kept 0 (by omega)
  rw [Nat.zero_add] at hch
  unfold fX5_entry fX6_entry fX6_in
  by_cases e1 : x1 < 0
  · rw [if_pos e1, if_pos e1]
    exact RS_stay hG (Nat.le_refl _) (r := -1) rfl rfl
  · obtain ⟨k, hk, rfl⟩ := nI_of e1
    rw [if_neg e1, if_neg e1]
    by_cases e2 : x2 < 0
    · rw [if_pos e2, if_pos e2]
      exact RS_stay hG (Nat.le_refl _) (r := -1) rfl rfl
    · obtain ⟨y, hy, rfl⟩ := nI_of e2
      rw [if_neg e2, if_neg e2]
      by_cases e3 : y < 3
      · rw [if_pos (show nI y < (3 : Int32) from nI_lt (b := 3) e3 (by decide)), if_neg (show ¬ (2 : Int32) < nI y from nI_nlt (a := 2) (b := y) (by omega) (by decide)), bd_eq (show fX6_in_15 1 v = some (1, v) from rfl), if_neg (show ¬ (1 : Int32) = 0 from by decide), bd_eq (show fX3_get (611 : Int32) u = some (u 6 611, u) from C_get (k := 611) u (by omega)), hc.2.2.2.2.2.1.2.1]
        by_cases e4 : ev (H kept) ≤ k
        · rw [if_pos (nI_le e4 hk)]
          refine RS_stay hG (Nat.le_refl _) (r := -4) rfl ?_
          by_cases e5 : 60 ≤ k
          · rw [if_pos (show (60 : Int32) ≤ nI k from nI_le (a := 60) e5 hk)]; rfl
          · rw [if_neg (show ¬ (60 : Int32) ≤ nI k from nI_ge (b := 60) (by omega) (by decide)), gi_eq (by decide), show ((0 : Int32)).toNatClampNeg = 0 from rfl, hm.2.2.2.2.1.1, if_pos (nI_le e4 hk)]; rfl
        · rw [if_neg (nI_ge (by omega) (by omega))]
          by_cases e5 : k < 60
          · rw [if_pos (show nI k < (60 : Int32) from nI_lt (b := 60) e5 (by decide)), if_neg (show ¬ (60 : Int32) ≤ nI k from nI_ge (b := 60) (by omega) (by decide)), gi_eq (show inb (0 : Int32) 190 = true from by decide), show ((0 : Int32)).toNatClampNeg = 0 from rfl, hm.2.2.2.2.1.1, if_neg (nI_ge (by omega) (by omega))]
            have hbk := hc.2.2.2.2.2.2.1 (ev (H kept) - 1 - k) (by omega) (by omega) y e3
            have hmb := hm.2.2.2.2.1.2.2 k e5 (by omega) y e3
            have hlg := ha.2.2.2.2.2.2.2.1 kept (Nat.le_refl _) (ev (H kept) - 1 - k) (by omega)
            rw [hlg] at hmb
            refine RS_stay hG (Nat.le_refl _) (r := L (ev (H kept) - 1 - k) y) ?_ ?_
            · unfold fX0_read
              rw [n1, nI_sub (by omega), nI_sub (by omega), n90, pk_rem (by omega) (by decide) (by decide), n3, nI_mul, nI_add, bn_eq, if_neg (nI_pos (by omega)), n270, if_neg (nI_ge (by omega) (by decide)), gi_eq (inb_nI (by omega) (by decide)), nI_clamp (by omega), hbk]
              rfl
            · rw [show (10 : Int32) + (3 : Int32) * nI k + nI y = nI (10 + 3 * k + y) from by rw [n10, n3, nI_mul, nI_add, nI_add], gi_eq (inb_nI (by omega) (by decide)), nI_clamp (by omega), hmb]
              rfl
          · rw [if_neg (show ¬ nI k < (60 : Int32) from nI_nlt (a := k) (b := 60) (by omega) hk), if_pos (show (60 : Int32) ≤ nI k from nI_le (a := 60) (by omega) hk)]
            exact RS_stay hG (Nat.le_refl _) (r := -4) rfl rfl
      · rw [if_neg (show ¬ nI y < (3 : Int32) from nI_nlt (a := y) (b := 3) (by omega) hy), if_pos (show (2 : Int32) < nI y from nI_lt (a := 2) (by omega) hy)]
        exact RS_stay hG (Nat.le_refl _) (r := -1) rfl rfl
