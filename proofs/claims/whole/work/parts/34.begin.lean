-- both sides together: undo, begin, parent
theorem fl_loop {F : Nat → Int32 → Wo → Re} {k : Wo → Re} {N cd : Nat} {val : Nat → Int32} {u0 : Wo} (hN : N < 1000000) (h0 : ∀ n u, (∀ c, c ≠ cd → u c = u0 c) → F (n + 1) (nI N) u = k u) (hs : ∀ n i u, i < N → (∀ c, c ≠ cd → u c = u0 c) → F (n + 1) (nI i) u = F n (nI (i + 1)) (wr u cd i (val i))) : ∃ u1, F FU (0 : Int32) u0 = k u1 ∧ (∀ c, c ≠ cd → u1 c = u0 c) ∧ ∀ q, u1 cd q = if q < N then val q else u0 cd q := by
  refine lp_post (σ := Int32 × Wo) (fun m s => F m s.1 s.2) (fun d s => ∃ i, i + d = N ∧ s.1 = nI i ∧ (∀ c, c ≠ cd → s.2 c = u0 c) ∧ ∀ q, s.2 cd q = if q < i then val q else u0 cd q) (fun x => ∃ u1, x = k u1 ∧ (∀ c, c ≠ cd → u1 c = u0 c) ∧ ∀ q, u1 cd q = if q < N then val q else u0 cd q) ?_ ?_ N FU (0, u0) (by have := FU_ge; omega) ⟨0, by omega, rfl, fun _ _ => rfl, fun q => by rw [if_neg (by omega)]⟩
  · rintro m ⟨s1, su⟩ ⟨i, hi, hs1, hF, hq⟩
    dsimp only at hs1 hF hq ⊢
    obtain rfl : i = N := by omega
    rw [hs1]
    exact ⟨su, h0 m su hF, hF, hq⟩
  · rintro m d ⟨s1, su⟩ ⟨i, hi, hs1, hF, hq⟩
    dsimp only at hs1 hF hq ⊢
    refine Or.inr ⟨(nI (i + 1), wr su cd i (val i)), by rw [hs1]; exact hs m i su (by omega) hF, i + 1, by omega, rfl, fun c hc => by dsimp only; rw [wr_ne _ _ _ hc]; exact hF c hc, fun q => ?_⟩
    dsimp only
    rw [wr_same]
    by_cases e : q = i
    · rw [e, upd_same, if_pos (by omega)]
    · rw [upd_ne _ _ e, hq]
      by_cases e1 : q < i
      · rw [if_pos e1, if_pos (by omega)]
      · rw [if_neg e1, if_neg (by omega)]
theorem op_undo {B : Nat} {u v : Wo} (h : GG B u v) : RS B (fX5_undo u) (fX6_undo v) := by
  have hG := h
  obtain ⟨w, n, H, kept, L, ac, ha, hc, hm, h5, hb, h6, hp, ht⟩ := h
  have hkp := ha.2.2.2.2.1
  obtain ⟨c1, c2, c3, c4, c5, c6, c7, c8, c9, p, hp31, cp, ct⟩ := hc
  obtain ⟨m1, m2, m3, m4, m5, m6, m7, m8, m9, m10⟩ := hm
  unfold fX5_undo fX6_undo fX1_takeBack
  rw [c9, m7]
  by_cases e : kept = 0
  · subst e
    rw [if_pos (show nI 0 = (0 : Int32) from rfl), if_pos (show nI 0 = (0 : Int32) from rfl)]
    exact RS_stay hG (Nat.le_refl _) (r := -2) rfl rfl
  · rw [if_neg (nI_ne0 (by omega) (by omega)), if_neg (nI_ne0 (by omega) (by omega)), n1, nI_sub (by omega), bw_eq, bw_eq, wr_same, upd_ne _ _ (by decide), cp]
    have ep : nI p + (31 : Int32) - nI 1 - (nI p + (31 : Int32) - nI 1) / (31 : Int32) * (31 : Int32) = nI ((p + 30) % 31) := by
      rw [n31, nI_add, nI_sub (by omega), pk_rem (by omega) (by decide) (by decide), show p + 31 - 1 = p + 30 by omega]
    rw [ep, bw_eq, bd_eq (C_back (p := (p + 30) % 31) (Nat.mod_lt _ (by decide)) (by rw [wr_same, upd_same]))]
    obtain ⟨v1, e1, f1, q1⟩ := cp_loop (F := fX6_undo_22 fX6_undo_56) (k := fX6_undo_56) (N := 1040) (cs := 4) (os := 1230 * (kept - 1)) (cd := 2) (od := 0) (u0 := wr v 0 10 (nI (kept - 1))) (by omega) (Or.inl (by decide)) (fun n u _ => by rw [fX6_undo_22.eq_2, if_pos (show (1040 : Int32) ≤ nI 1040 from by decide)]) (fun m i z hi hz => by
      rw [fX6_undo_22.eq_2, if_neg (show ¬ (1040 : Int32) ≤ nI i from nI_ge (b := 1040) hi (by decide)), hz 0 (by decide), wr_same, upd_same, n1230, nI_mul, nI_add, gi_eq (inb_nI (by omega) (by decide)), gi_eq (inb_nI (by omega) (by decide)), nI_clamp (by omega), nI_clamp (by omega), bw_eq, nI_1, Nat.zero_add])
    obtain ⟨v2, e2, f2, q2⟩ := cp_loop (F := fX6_undo_58 fX6_undo_96) (k := fX6_undo_96) (N := 190) (cs := 4) (os := 1230 * (kept - 1) + 1040) (cd := 3) (od := 0) (u0 := v1) (by omega) (Or.inl (by decide)) (fun n u _ => by rw [fX6_undo_58.eq_2, if_pos (show (190 : Int32) ≤ nI 190 from by decide)]) (fun m i z hi hz => by
      rw [fX6_undo_58.eq_2, if_neg (show ¬ (190 : Int32) ≤ nI i from nI_ge (b := 190) hi (by decide)), hz 0 (by decide), f1 0 (by decide), wr_same, upd_same, n1230, n1040, nI_mul, nI_add, nI_add, gi_eq (inb_nI (by omega) (by decide)), gi_eq (inb_nI (by omega) (by decide)), nI_clamp (by omega), nI_clamp (by omega), bw_eq, nI_1, Nat.zero_add])
    have hq : (p + 31 - kept + (kept - 1)) % 31 = (p + 30) % 31 := by rw [show p + 31 - kept + (kept - 1) = p + 30 by omega]
    have hl := ct (kept - 1) (by omega)
    rw [hq] at hl
    obtain ⟨U3, hU3⟩ : ∃ z, z = wcp (wr (wr u 4 3 (nI (kept - 1))) 4 2 (nI ((p + 30) % 31))) 8 ((p + 30) % 31 * 618) 6 0 618 := ⟨_, rfl⟩
    have cell6 : ∀ k, k < 618 → U3 6 k = u 8 ((p + 30) % 31 * 618 + k) := fun k hk => by
      rw [hU3, wcp_same, cpy_in (by omega) (by omega), wr_ne _ _ _ (by decide), wr_ne _ _ _ (by decide), Nat.sub_zero]
    have other : ∀ c, c ≠ 6 → c ≠ 4 → U3 c = u c := fun c q1 q2 => by
      rw [hU3, wcp_ne _ q1, wr_ne _ _ _ q2, wr_ne _ _ _ q2]
    have cell4 : U3 4 = upd (upd (u 4) 3 (nI (kept - 1))) 2 (nI ((p + 30) % 31)) := by
      rw [hU3, wcp_ne _ (by decide), wr_same, wr_same]
    have o2 : ∀ c, c ≠ 0 → c ≠ 2 → c ≠ 3 → v2 c = v c := fun c z0 z2 z3 => by rw [f2 c z3, f1 c z2, wr_ne _ _ _ z0]
    have o0 : ∀ k, k ≠ 10 → v2 0 k = v 0 k := fun k hk => by rw [f2 0 (by decide), f1 0 (by decide), wr_same, upd_ne _ _ hk]
    have o10 : v2 0 10 = nI (kept - 1) := by rw [f2 0 (by decide), f1 0 (by decide), wr_same, upd_same]
    have st : ∀ k, k < 1040 → v2 2 k = v 4 ((kept - 1) * 1230 + k) := fun k hk => by rw [f2 2 (by decide), q1, if_pos (by omega), wr_ne _ _ _ (by decide), show 1230 * (kept - 1) + (k - 0) = (kept - 1) * 1230 + k by omega]
    have ex : ∀ k, k < 190 → v2 3 k = v 4 ((kept - 1) * 1230 + 1040 + k) := fun k hk => by rw [q2, if_pos (by omega), f1 4 (by decide), wr_ne _ _ _ (by decide), show 1230 * (kept - 1) + 1040 + (k - 0) = (kept - 1) * 1230 + 1040 + k by omega]
    have hml := m8 (kept - 1) (by omega)
    refine ⟨1, U3, v2, by rw [hU3]; rfl, by rw [e1]; unfold fX6_undo_56; rw [e2]; rfl, w, n, H, kept - 1, L, ac, ?_, ?_, ?_, ?_, ?_, ?_, ?_, ?_⟩
    · obtain ⟨g3, g2, g6, gB, hk, hI, g7, g8, g9, g10, g11⟩ := ha
      refine ⟨g3, g2, g6, gB, by omega, fun t z => hI t (by omega), fun t z => g7 t (by omega), fun t z => g8 t (by omega), fun t z i hi => by rw [g9 t (by omega) i hi, g9 (kept - 1) (by omega) i hi], g10, fun q => ?_⟩
      exact (e (g11 q).1).elim
    · have hch := ev_chain ha.2.2.2.2.2.2.1 1 (kept - 1) (by omega)
      rw [show kept - 1 + 1 = kept by omega] at hch
      refine ⟨by rw [other 1 (by decide) (by decide)]; exact c1, by rw [other 1 (by decide) (by decide)]; exact c2, ?_, by rw [other 3 (by decide) (by decide)]; exact c4, CC_eq hl.1 (fun k hk => cell6 k (by omega)), CN_eq hl.2 (fun k _ hk => cell6 k hk), fun m z1 z2 y hy => by rw [other 7 (by decide) (by decide)]; exact c7 m z1 (by omega) y hy, by rw [other 0 (by decide) (by decide)]; exact c8, by rw [cell4, upd_ne _ _ (by decide), upd_same], (p + 30) % 31, Nat.mod_lt _ (by decide), by rw [cell4, upd_same], fun t z => ?_⟩
      · obtain ⟨o, z1, z2⟩ := c3
        exact ⟨o, z1, by rw [other 1 (by decide) (by decide)]; exact z2⟩
      · have := ct t (by omega)
        rw [other 8 (by decide) (by decide), show ((p + 30) % 31 + 31 - (kept - 1) + t) % 31 = (p + 31 - kept + t) % 31 by omega]
        exact this
    · refine ⟨by rw [o0 _ (by decide)]; exact m1, by rw [o0 _ (by decide)]; exact m2, by rw [o0 _ (by decide)]; exact m3, MC_eq hml.1 (fun k hk => st k hk), MB_eq hml.2 (fun k hk => ex k hk), by rw [o0 _ (by decide)]; exact m6, o10, fun t z => by rw [o2 4 (by decide) (by decide) (by decide)]; exact m8 t (by omega), by rw [o2 1 (by decide) (by decide) (by decide)]; exact m9, fun q i z1 z2 => ?_⟩
      rw [o2 1 (by decide) (by decide) (by decide), m10 q i z1 z2, ha.2.2.2.2.2.2.2.2.1 (kept - 1) (by omega) i (by have := ha.2.2.1; omega)]
    · rw [other 0 (by decide) (by decide), o0 _ (by decide)]; exact h5
    · rw [other 0 (by decide) (by decide)]; exact hb
    · rw [other 0 (by decide) (by decide), o0 _ (by decide)]; exact h6
    · rw [other 0 (by decide) (by decide)]; exact hp
    · intro k hk
      rw [other 13 (by decide) (by decide), o2 8 (by decide) (by decide) (by decide)]; exact ht k hk
