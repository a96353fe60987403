-- both sides together: begin, parent
theorem op_begin {B : Nat} {u v : Wo} (h : GG B u v) (x1 x2 : Int32) : RS B (fX5_begin x1 x2 u) (fX6_begin x1 x2 v) := by
  have hG := h
  obtain ⟨w0, n00, H, kept, L, ac, ha, hc, hm, h5, ⟨b, hb, hb1⟩, h6, hp, ht⟩ := h
  have hB := ha.2.2.2.1
  have nt : ¬ (1 : Int32) = 0 := by decide
  unfold fX5_begin fX6_begin fX6_in
  by_cases e1 : x1 < 0
  · rw [if_pos e1, if_pos e1]
    exact RS_stay hG (Nat.le_refl _) (r := -1) rfl rfl
  · obtain ⟨w, hw, rfl⟩ := nI_of e1
    rw [if_neg e1, if_neg e1]
    by_cases e2 : (2 : Int32) < nI w
    · rw [if_pos e2, if_pos e2]
      exact RS_stay hG (Nat.le_refl _) (r := -1) rfl rfl
    · rw [if_neg e2, if_neg e2, bd_eq (show fX6_in_15 1 v = some (1, v) from rfl), if_neg nt]
      have hw3 : w < 3 := by
        rcases Nat.lt_or_ge w 3 with q | q
        · exact q
        · exact (e2 (nI_lt (a := 2) (by omega) hw)).elim
      by_cases e3 : x2 < (2 : Int32)
      · rw [if_pos e3, if_pos e3]
        exact RS_stay hG (Nat.le_refl _) (r := -1) rfl rfl
      · have e30 : ¬ x2 < 0 := fun q => e3 (Int32.lt_trans q (by decide))
        obtain ⟨n, hn, rfl⟩ := nI_of e30
        have g2 : 2 ≤ n := by
          rcases Nat.lt_or_ge n 2 with q | q
          · exact (e3 (nI_lt (b := 2) q (by decide))).elim
          · exact q
        rw [if_neg e3, if_neg e3]
        by_cases e4 : n ≤ 6
        · rw [if_pos (show nI n ≤ (6 : Int32) from nI_le (b := 6) e4 (by decide)), if_neg (show ¬ (6 : Int32) < nI n from nI_nlt (b := n) (a := 6) e4 (by decide)), bd_eq (show fX6_in_15 1 v = some (1, v) from rfl), if_neg nt, ← h5, hb1]
          by_cases e5 : b = 10
          · subst e5
            rw [if_neg (show ¬ nI 10 < (10 : Int32) from by decide), if_pos (show nI 10 = (10 : Int32) from rfl)]
            exact RS_stay hG (Nat.le_refl _) (r := -3) rfl rfl
          · rw [if_pos (show nI b < (10 : Int32) from nI_lt (b := 10) (by omega) (by decide)), if_neg (show ¬ nI b = (10 : Int32) from nI_ne (b := 10) (by omega) (by decide) e5), bw_eq, bw_eq, bw_eq, bw_eq, bw_eq, bw_eq, nI_1]
            unfold fX1_forget
            rw [bw_eq, bd_s]
            obtain ⟨u1, hu1⟩ : ∃ z, z = wr (wr (wr (wr u 0 5 (nI (b + 1))) 0 6 0) 0 7 0) 4 3 0 := ⟨_, rfl⟩
            obtain ⟨v1, hv1⟩ : ∃ z, z = wr (wr (wr v 0 8 (nI (b + 1))) 0 0 (nI w)) 0 1 (nI n) := ⟨_, rfl⟩
            have U0 : ∀ k, u1 0 k = if k = 7 then 0 else if k = 6 then 0 else if k = 5 then nI (b + 1) else u 0 k := fun k => by
              rw [hu1, wr_ne _ _ _ (by decide), wr_same, wr_same, wr_same]; rfl
            have U4 : ∀ k, u1 4 k = if k = 3 then 0 else u 4 k := fun k => by
              rw [hu1, wr_same, wr_ne _ _ _ (by decide), wr_ne _ _ _ (by decide), wr_ne _ _ _ (by decide)]; rfl
            have UO : ∀ c, c ≠ 0 → c ≠ 4 → u1 c = u c := fun c q0 q4 => by rw [hu1, wr_ne _ _ _ q4, wr_ne _ _ _ q0, wr_ne _ _ _ q0, wr_ne _ _ _ q0]
            have V0 : ∀ k, v1 0 k = if k = 1 then nI n else if k = 0 then nI w else if k = 8 then nI (b + 1) else v 0 k := fun k => by
              rw [hv1, wr_same, wr_same, wr_same]; rfl
            have VO : ∀ c, c ≠ 0 → v1 c = v c := fun c q => by rw [hv1, wr_ne _ _ _ q, wr_ne _ _ _ q, wr_ne _ _ _ q]
            obtain ⟨u2, a1, a2, a3, a4, a5, a6, a7⟩ := C_anew u1 hw3 e4 (by omega : 1 ≤ n)
            obtain ⟨v2, b1, b2, b3, b4, b5, b6, b7, b8, b9, b10, b11⟩ := M_clear v1 (n := n) (by rw [V0, if_pos rfl]) e4
            rw [← hu1, ← hv1, bd_eq a1, bd_eq b1]
            refine ⟨nI n, u2, v2, rfl, by rw [b3 1 (by decide) (by decide) (by decide), V0, if_pos rfl], w, n, fun _ => x0 w n, 0, fun _ _ => 0, 0, ?_, ?_, ?_, ?_, ?_, ?_, ?_, ?_⟩
            · refine ⟨hw3, g2, e4, hB, by decide, fun t _ => INV_x0 g2 e4 hB, fun t q => (by omega), fun t _ m q => (by cases q), fun t _ i _ => rfl, Or.inl rfl, fun _ => ⟨rfl, fun j hj => ?_, fun q => ⟨?_, fun i q1 q2 => ?_⟩⟩⟩
              · rw [fd_x0, if_neg (by omega)]
              · rw [fd_x0, if_neg (by omega)]
              · rw [fd_x0, fd_x0, if_pos (by omega), if_pos (by omega)]
            · obtain ⟨o, z1, z2⟩ := hc.2.2.1
              obtain ⟨p, y1, y2, y3⟩ := hc.2.2.2.2.2.2.2.2.2
              refine ⟨a3, a4, ⟨o, z1, by rw [a5, UO 1 (by decide) (by decide)]; exact z2⟩, by rw [a2 3 (by decide) (by decide), UO 3 (by decide) (by decide)]; exact hc.2.2.2.1, a6, ⟨fun k hk => a7 _ (by omega) (by omega), a7 _ (by decide) (by decide), fun i hi => a7 _ (by omega) (by omega)⟩, fun m _ q => (by cases q), by rw [a2 0 (by decide) (by decide), U0, if_pos rfl], by rw [a2 4 (by decide) (by decide), U4, if_pos rfl]; rfl, p, y1, by rw [a2 4 (by decide) (by decide), U4, if_neg (by decide)]; exact y2, fun t q => (by omega)⟩
            · refine ⟨by rw [b3 0 (by decide) (by decide) (by decide), V0, if_neg (by decide), if_pos rfl], by rw [b3 1 (by decide) (by decide) (by decide), V0, if_pos rfl], by rw [b3 6 (by decide) (by decide) (by decide), V0, if_neg (by decide), if_neg (by decide), if_neg (by decide)]; exact hm.2.2.1, MC_x0 hw3 e4 b9 b10, MB_x0 b11, b4, by rw [b6]; rfl, fun t q => (by omega), b7, fun q i q1 q2 => ?_⟩
              rw [b8 i q1 (by omega), fd_x0, if_pos (by omega)]
            · rw [a2 0 (by decide) (by decide), U0, if_neg (by decide), if_neg (by decide), if_pos rfl, b3 8 (by decide) (by decide) (by decide), V0, if_neg (by decide), if_neg (by decide), if_pos rfl]
            · exact ⟨b + 1, by omega, by rw [a2 0 (by decide) (by decide), U0, if_neg (by decide), if_neg (by decide), if_pos rfl]⟩
            · rw [a2 0 (by decide) (by decide), U0, if_neg (by decide), if_pos rfl, b5]
            · exact ⟨0, by decide, by rw [a2 0 (by decide) (by decide), U0, if_neg (by decide), if_pos rfl]; rfl⟩
            · intro k hk
              rw [a2 13 (by decide) (by decide), UO 13 (by decide) (by decide), b2 8 (by decide) (by decide) (by decide) (by decide), VO 8 (by decide)]
              exact ht k hk
        · rw [if_neg (show ¬ nI n ≤ (6 : Int32) from nI_ge (a := 6) (by omega) hn), if_pos (show (6 : Int32) < nI n from nI_lt (a := 6) (by omega) hn)]
          exact RS_stay hG (Nat.le_refl _) (r := -1) rfl rfl
theorem NB_f14 {B : Nat} {x : XS} (h : NB B x) {i p : Nat} (hp : p ≤ B) : NB B (fs (fs x 14 i p) 5 i p) := NB_fs (NB_fs h hp) hp
theorem INV_par {n B : Nat} {x : XS} (h : INV 2 n B x) {i p : Nat} (hi : i < n) (hn : n ≤ 6) (hB : 64 ≤ B) (hp : p < n) (z6 : ∀ j, j < 6 → fd x 6 j = 0) : INV 2 n B (fs (fs x 14 i p) 5 i p) := by
  obtain ⟨nb, st, zr, ia, it, ir, o⟩ := h
  have F0 : ∀ j, fd (fs (fs x 14 i p) 5 i p) 0 j = fd x 0 j := fun j => by rw [fd_fs, if_neg (by omega), fd_fs, if_neg (by omega)]
  have F6 : ∀ j, fd (fs (fs x 14 i p) 5 i p) 6 j = fd x 6 j := fun j => by rw [fd_fs, if_neg (by omega), fd_fs, if_neg (by omega)]
  refine ⟨NB_f14 nb (by omega), ST_fs (ST_fs st (fun q => by omega) (fun q => by omega)) (fun _ => by rw [if_pos (by omega)]; exact hp) (fun q => by omega), ZR2_fs (ZR_fs zr (fun _ _ => by omega) (fun _ => by omega) (fun q => (q rfl).elim)) (Or.inr (Or.inr (Or.inr ⟨rfl, by omega⟩))), fun q => by omega, fun q => by omega, fun _ => ?_, by rw [fd_fs, if_neg (by omega), fd_fs, if_neg (by omega)]; exact o⟩
  obtain ⟨t1, t2, t3⟩ := ir rfl
  refine ⟨fun a ha b hb hab => ?_, fun j hj => by rw [F6]; exact t2 j hj, fun a ha => by rw [F0]; exact t3 a ha⟩
  have := t1 a ha b hb hab
  rw [z6 b (by omega), if_neg (by omega)] at this
  rw [F6, z6 b (by omega), if_neg (by omega)]
  exact this
theorem op_parent {B : Nat} {u v : Wo} (hBB : B < 268435454) (h : GG B u v) (x1 x2 : Int32) : RS B (fX5_parent x1 x2 u) (fX6_parent x1 x2 v) := by
  have hG := h
  obtain ⟨w, n, H, kept, L, ac, ha, hc, hm, h5, hb, h6, hp, ht⟩ := h
  have ha' := ha
  obtain ⟨g3, g2, g6, hB, hk, hI, g7, g8, g9, g10, g11⟩ := ha
  have inv := hI kept (Nat.le_refl _)
  have nt : ¬ (1 : Int32) = 0 := by decide
  unfold fX5_parent fX6_parent fX6_in
  by_cases e1 : x1 < (1 : Int32)
  · rw [if_pos e1, if_pos e1]
    exact RS_stay hG (Nat.le_refl _) (r := -1) rfl rfl
  · have e10 : ¬ x1 < 0 := fun q => e1 (Int32.lt_trans q (by decide))
    obtain ⟨i, hi, rfl⟩ := nI_of e10
    have i1 : 1 ≤ i := by
      rcases Nat.eq_zero_or_pos i with q | q
      · subst q; exact (e1 (by decide)).elim
      · exact q
    rw [if_neg e1, if_neg e1, hc.2.1, hm.2.1, n1, nI_sub (by omega), nI_sub i1]
    by_cases e2 : n ≤ i
    · rw [if_pos (nI_le e2 hi), if_pos (nI_lt (by omega) hi)]
      exact RS_stay hG (Nat.le_refl _) (r := -1) rfl rfl
    · rw [if_neg (nI_ge (by omega) (by omega)), if_neg (nI_nlt (by omega) (by omega)), bd_eq (show fX6_in_15 (nI 1) v = some (1, v) from rfl), if_neg nt]
      by_cases e3 : x2 < 0
      · rw [if_pos e3, if_pos e3]
        exact RS_stay hG (Nat.le_refl _) (r := -1) rfl rfl
      · obtain ⟨p, hp1, rfl⟩ := nI_of e3
        rw [if_neg e3, if_neg e3]
        by_cases e4 : p < i
        · rw [if_pos (nI_lt e4 hi), if_neg (nI_nlt (by omega) (by omega)), bd_eq (show fX6_in_15 (nI 1) v = some (1, v) from rfl), if_neg nt, hc.1, hm.1]
          by_cases ew : w = 2
          · subst ew
            rw [if_pos (show nI 2 = (2 : Int32) from rfl), if_pos (show nI 2 = (2 : Int32) from rfl), hc.2.2.2.2.2.2.2.1, hm.2.2.2.2.2.1]
            by_cases eac : ac = 0
            · rw [if_pos eac, if_pos eac]
              obtain ⟨k0, z6, z5⟩ := g11 eac
              obtain ⟨z50, z5⟩ := z5 rfl
              subst k0
              have hcc := hc.2.2.2.2.1
              have hmc := hm.2.2.2.1
              have hpi := hm.2.2.2.2.2.2.2.2.2 rfl i (by omega) (by omega)
              rw [bd_eq (show fX3_of (nI i) (80 : Int32) u = some (nI (fd (H 0) 14 i), u) from CG_rd hc (f := 14) rfl (by omega)), n80, bd_eq (C_set u _ (by omega)), n86, bd_eq (C_set _ _ (by omega)), gi_eq (inb_nI (by omega) (by decide)), gi_eq (inb_nI (by omega) (by decide)), nI_clamp (by omega), bw_eq]
              obtain ⟨v2, b1, b2, b3, b4⟩ := M_lay (wr v 1 i (nI p)) (n := n) (by rw [wr_ne _ _ _ (by decide)]; exact hm.2.1) g6
              rw [bd_eq b1, hpi]
              obtain ⟨y, hy⟩ : ∃ y, y = fs (fs (H 0) 14 i p) 5 i p := ⟨_, rfl⟩
              obtain ⟨u2, hu2⟩ : ∃ z, z = wr (wr u 6 (80 + i) (nI p)) 6 (86 + i) (nI p) := ⟨_, rfl⟩
              have uo : ∀ c, c ≠ 6 → u2 c = u c := fun c q => by rw [hu2, wr_ne _ _ _ q, wr_ne _ _ _ q]
              have u6 : u2 6 = upd (upd (u 6) (80 + i) (nI p)) (86 + i) (nI p) := by rw [hu2, wr_same, wr_same]
              have uh : ∀ k, 608 ≤ k → u2 6 k = u 6 k := fun k hk => by rw [u6, upd_ne _ _ (by omega), upd_ne _ _ (by omega)]
              have vo : ∀ c, c ≠ 1 → c ≠ 2 → v2 c = v c := fun c q1 q2 => by rw [b2 c q2, wr_ne _ _ _ q1]
              have y5 : ∀ j, fd y 5 j = if j = i then p else fd (H 0) 5 j := fun j => by
                rw [hy, fd_fs]
                by_cases q : j = i
                · rw [if_pos ⟨rfl, q⟩, if_pos q]
                · rw [if_neg (fun z => q z.2), if_neg q, fd_fs, if_neg (fun z => q z.2)]
              have y14 : ∀ j, fd y 14 j = if j = i then p else fd (H 0) 14 j := fun j => by
                rw [hy, fd_fs, if_neg (by omega), fd_fs]
                by_cases q : j = i
                · rw [if_pos ⟨rfl, q⟩, if_pos q]
                · rw [if_neg (fun z => q z.2), if_neg q]
              have yo : ∀ f j, f ≠ 5 → f ≠ 14 → fd y f j = fd (H 0) f j := fun f j q1 q2 => by rw [hy, fd_fs, if_neg (fun z => q1 z.1), fd_fs, if_neg (fun z => q2 z.1)]
              have v1 : ∀ j, v2 1 j = if j = i then nI p else v 1 j := fun j => by rw [b2 1 (by decide), wr_same]; rfl
              refine ⟨_, u2, v2, by rw [hu2], rfl, 2, n, fun _ => y, 0, L, 0, ?_, ?_, ?_, ?_, ?_, ?_, ?_, ?_⟩
              · refine ⟨by decide, g2, g6, hB, by decide, fun t _ => by rw [hy]; exact INV_par inv (by omega) g6 hB (by omega) z6, fun t q => (by omega), fun t _ m q => ?_, fun t _ j _ => rfl, Or.inl rfl, fun _ => ⟨rfl, fun j hj => by rw [yo 6 j (by decide) (by decide)]; exact z6 j hj, fun _ => ⟨by rw [y5, if_neg (by omega)]; exact z50, fun j q1 q2 => ?_⟩⟩⟩
                · have : lg y = lg (H 0) := by rw [hy]; rfl
                  rw [this]
                  exact g8 0 (Nat.le_refl _) m (by rw [hy] at q; exact q)
                · rw [y5, y14, z5 j q1 q2]
              · obtain ⟨c1, c2, c3, c4, c5, c6, c7, c8, c9, pp, c10, c11, c12⟩ := hc
                refine ⟨by rw [uo 1 (by decide)]; exact c1, by rw [uo 1 (by decide)]; exact c2, by rw [uo 1 (by decide)]; exact c3, by rw [uo 3 (by decide)]; exact c4, ?_, ?_, ?_, by rw [uo 0 (by decide), c8, eac], by rw [uo 4 (by decide)]; exact c9, pp, c10, by rw [uo 4 (by decide)]; exact c11, fun t q => (by omega)⟩
                · show CC y (u2 6)
                  rw [u6, hy]
                  exact CC_field (CC_field hcc (f := 14) (i := i) p rfl (by omega)) (f := 5) (i := i) p rfl (by omega)
                · have : CN y (u 6) := by rw [hy]; exact c6
                  exact CN_eq this (fun k q _ => uh k q)
                · show BK (ev y - 60) (ev y) L (u2 7)
                  rw [uo 7 (by decide), hy]
                  exact c7
              · obtain ⟨m1, m2, m3, m4, m5, m6, m7, m8, m9, m10⟩ := hm
                refine ⟨by rw [vo 0 (by decide) (by decide)]; exact m1, by rw [vo 0 (by decide) (by decide)]; exact m2, by rw [vo 0 (by decide) (by decide)]; exact m3, ?_, by rw [vo 3 (by decide) (by decide), hy]; exact m5, by rw [vo 0 (by decide) (by decide), m6, eac], by rw [vo 0 (by decide) (by decide)]; exact m7, fun t q => (by omega), by rw [v1, if_neg (by omega)]; exact m9, fun _ j q1 q2 => ?_⟩
                · show MC 2 n y (v2 2)
                  obtain ⟨s1, s2, s3, s4, s5, s6, s7⟩ := hmc
                  have far : ∀ q, (∀ j, j < n → q ≠ 21 * j + 5) → v2 2 q = v 2 q := fun q hq => by rw [b4 q hq, wr_ne _ _ _ (by decide)]
                  have row : ∀ q, (∀ j, j < 6 → q ≠ 21 * j + 5) → v2 2 q = v 2 q := fun q hq => far q (fun j hj => hq j (by omega))
                  have yq : qu y = qu (H 0) := by rw [hy]; rfl
                  have yl : lt y = lt (H 0) := by rw [hy]; rfl
                  refine ⟨fun f j hf hj => ?_, fun q => (q rfl).elim, fun j hj => by rw [row _ (fun a _ => by omega)]; exact s3 j hj, ?_, ?_, fun j hj => ?_, fun q hq => ?_⟩
                  · have hkf := okM_c hf
                    by_cases e5 : f = 5
                    · subst e5
                      show v2 2 (21 * j + 5) = _
                      by_cases ej : j < n
                      · rw [b3 j ej, y5]
                        by_cases j0 : j = 0
                        · subst j0
                          rw [if_pos rfl, if_neg (by omega), z50]; rfl
                        · rw [if_neg j0, wr_same]
                          by_cases eji : j = i
                          · rw [eji, upd_same, if_pos rfl]
                          · rw [upd_ne _ _ eji, if_neg eji, m10 rfl j (by omega) ej, z5 j (by omega) ej]
                      · rw [far _ (fun a q => by omega), y5, if_neg (by omega)]
                        exact s1 5 j hf hj
                    · have hl : v2 2 (lM f j) = v 2 (lM f j) := row _ (fun a q => by
                        unfold lM
                        split
                        · omega
                        · split <;> omega)
                      rw [hl, yo f j e5 (by omega)]
                      exact s1 f j hf hj
                  · rw [row 126 (fun a _ => by omega), y5, if_neg (by omega)]; exact s4
                  · rw [yq]; exact isL_congr s5 (fun k _ _ => row k (fun a _ => by omega))
                  · rw [yq]; exact isL_congr (s6 j hj) (fun k _ _ => row k (fun a _ => by omega))
                  · rw [yl]; exact isM_congr (s7 q hq) (fun k _ _ => row k (fun a _ => by omega))
                · rw [v1, y14]
                  by_cases q : j = i
                  · rw [if_pos q, if_pos q]
                  · rw [if_neg q, if_neg q]; exact m10 rfl j q1 q2
              · rw [uo 0 (by decide), vo 0 (by decide) (by decide)]; exact h5
              · rw [uo 0 (by decide)]; exact hb
              · rw [uo 0 (by decide), vo 0 (by decide) (by decide)]; exact h6
              · rw [uo 0 (by decide)]; exact hp
              · intro k hk
                rw [uo 13 (by decide), vo 8 (by decide) (by decide)]; exact ht k hk
            · rw [if_neg eac, if_neg eac]
              exact RS_stay hG (Nat.le_refl _) (r := -2) rfl rfl
          · have ne : ¬ nI w = (2 : Int32) := nI_ne (b := 2) (by omega) (by decide) ew
            rw [if_neg ne, if_neg ne]
            exact RS_stay hG (Nat.le_refl _) (r := -2) rfl rfl
        · rw [if_neg (nI_nlt (by omega) (by omega)), if_pos (nI_lt (by omega) (by omega))]
          exact RS_stay hG (Nat.le_refl _) (r := -1) rfl rfl
