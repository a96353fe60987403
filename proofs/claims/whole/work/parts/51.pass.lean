-- both sides together: pass
theorem PT_none2 (hs : Nat → Nat) : PT (fun _ => 0) 0 hs := ⟨fun _ _ => Nat.le_refl _, fun _ => 0, fun _ _ h => (by cases h), fun k hk => by cases hk⟩
theorem pass_loop {U V : Wo} {w n B : Nat} {P : Nat → Nat} (hw : w < 3) (h2 : 2 ≤ n) (hn : n ≤ 6) (hB0 : 64 ≤ B) (hB : B + 300 < 268435454) : ∀ d k f1 f2 z u v, k + d = 300 → d < f1 → d < f2 → SI w n B P z.1 → (∃ y, KW U w n y z u) → (∃ y, MW V w n y z v) → ∃ z' u1 v1, fX2_goThrough_55 fX2_goThrough_81 f1 (nI k) u = fX2_goThrough_81 u1 ∧ fX6_pass_90 fX6_pass_109 f2 (nI k) v = fX6_pass_109 v1 ∧ (∃ y, KW U w n y z' u1) ∧ ∃ y, MW V w n y z' v1
  | 0, k, f1, f2, z, u, v, hk, hf1, hf2, hS, ⟨y, hK⟩, ⟨y', hM⟩ => by
    obtain ⟨f1, rfl⟩ : ∃ q, f1 = q + 1 := ⟨f1 - 1, by omega⟩
    obtain ⟨f2, rfl⟩ : ∃ q, f2 = q + 1 := ⟨f2 - 1, by omega⟩
    have c3 := hK.2.2.2.2.2.1.1
    rw [fX2_goThrough_55.eq_2, fX6_pass_90.eq_2, hK.2.2.2.2.2.1.2.1, hM.2.2.2.2.2.2.1.2.1, if_pos (nI_le (by omega) (by omega)), if_pos (nI_le (by omega) (by omega))]
    exact ⟨z, u, v, rfl, rfl, ⟨y, hK⟩, ⟨y', hM⟩⟩
  | d + 1, k, f1, f2, z, u, v, hk, hf1, hf2, hS, ⟨y, hK⟩, ⟨y', hM⟩ => by
    obtain ⟨f1, rfl⟩ : ∃ q, f1 = q + 1 := ⟨f1 - 1, by omega⟩
    obtain ⟨f2, rfl⟩ : ∃ q, f2 = q + 1 := ⟨f2 - 1, by omega⟩
    have c3 := hK.2.2.2.2.2.1.1
    rw [fX2_goThrough_55.eq_2, fX6_pass_90.eq_2, hK.2.2.2.2.2.1.2.1, hM.2.2.2.2.2.2.1.2.1]
    by_cases e : z.1.2.1 ≤ k
    · rw [if_pos (nI_le e (by omega)), if_pos (nI_le e (by omega))]
      exact ⟨z, u, v, rfl, rfl, ⟨y, hK⟩, ⟨y', hM⟩⟩
    · obtain ⟨u1, a1, a2, a3⟩ := C_goFromS hw hn hB0 hB hS (show k < z.1.2.1 by omega) hK
      obtain ⟨v1, b1, b2⟩ := M_visitS hw h2 hn hB0 hB hS (show k < z.1.2.1 by omega) hM
      rw [if_neg (nI_ge (by omega) (by omega)), if_neg (nI_ge (by omega) (by omega)), if_neg (show ¬ (300 : Int32) ≤ nI k from nI_ge (b := 300) (by omega) (by decide)), bd_eq a1, bd_eq b1, nI_1]
      exact pass_loop hw h2 hn hB0 hB d (k + 1) f1 f2 (vis w n k z) u1 v1 (by omega) (by omega) (by omega) a2.1 ⟨_, a3⟩ b2
theorem C_to12 (u : Wo) : fX3_copyTo_12 (0 : Int32) (618 : Int32) u = some (0, wcp u 6 0 12 0 618) := by
  unfold fX3_copyTo_12
  rw [if_neg (by decide), if_neg (by decide), if_neg (by decide), if_neg (by decide), gi_eq (by decide), bw_eq]
  rfl
theorem C_from12 (u : Wo) : fX3_copyFrom_12 (0 : Int32) (618 : Int32) u = some (0, wcp u 12 0 6 0 618) := by
  unfold fX3_copyFrom_12
  rw [if_neg (by decide), if_neg (by decide), if_neg (by decide), if_neg (by decide), gi_eq (by decide), bw_eq]
  rfl
theorem op_pass {B : Nat} {u v : Wo} (hBB : B < 268435000) (h : GG B u v) : RS B (fX5_pass u) (fX6_pass v) := by
  have hF := FU_ge
  have hG := h
  obtain ⟨w, n, H, kept, L, ac, ha, hc, hm, h5, hb, h6, ⟨p, hp, hp1⟩, ht⟩ := h
  have ha' := ha
  obtain ⟨hw, h2, hn, hB0, hk, hI, -⟩ := ha
  have inv := hI kept (Nat.le_refl _)
  unfold fX5_pass fX6_pass
  rw [← h6, hp1]
  by_cases e15 : p = 15
  · subst e15
    rw [if_neg (by decide), if_pos (show nI 15 = (15 : Int32) from rfl)]
    exact RS_stay hG (Nat.le_refl _) (r := -3) rfl rfl
  · rw [if_pos (show nI p < (15 : Int32) from nI_lt (b := 15) (by omega) (by decide)), if_neg (show ¬ nI p = (15 : Int32) from nI_ne (b := 15) (by omega) (by decide) e15), bw_eq, bw_eq, nI_1]
    -- the class, before
    obtain ⟨a0, ha0⟩ : ∃ q, q = wr u 0 6 (nI (p + 1)) := ⟨_, rfl⟩
    obtain ⟨a1, ea1, fa1, qa1⟩ := fl_loop (F := fun m i z => fJ7_fill_53178_13_5 fJ7_fill_53178_13_20 m (0 : Int32) i (7 : Int32) z) (k := fJ7_fill_53178_13_20) (N := 7) (cd := 13) (val := fun _ => 0) (u0 := a0) (by decide) (fun m z _ => by rw [fJ7_fill_53178_13_5.eq_2, if_pos (show (7 : Int32) ≤ nI 7 from by decide)]) (fun m i z hi _ => by
      rw [fJ7_fill_53178_13_5.eq_2, if_neg (show ¬ (7 : Int32) ≤ nI i from nI_ge (b := 7) hi (by decide)), gi_eq (inb_nI hi (by decide)), nI_clamp (by omega), bw_eq, nI_1])
    obtain ⟨a2, ea2, fa2, qa2⟩ := fl_loop (F := fun m i z => fJ7_fill_53178_11_5 fJ7_fill_53178_11_20 m (0 : Int32) i (1024 : Int32) z) (k := fJ7_fill_53178_11_20) (N := 1024) (cd := 11) (val := fun _ => 0) (u0 := a1) (by decide) (fun m z _ => by rw [fJ7_fill_53178_11_5.eq_2, if_pos (show (1024 : Int32) ≤ nI 1024 from by decide)]) (fun m i z hi _ => by
      rw [fJ7_fill_53178_11_5.eq_2, if_neg (show ¬ (1024 : Int32) ≤ nI i from nI_ge (b := 1024) hi (by decide)), gi_eq (inb_nI hi (by decide)), nI_clamp (by omega), bw_eq, nI_1])
    obtain ⟨a3, ha3⟩ : ∃ q, q = wr (wcp (wr (wr a2 5 7 0) 5 8 0) 6 0 12 0 618) 3 2 0 := ⟨_, rfl⟩
    have A0 : ∀ c, c ≠ 0 → c ≠ 3 → c ≠ 5 → c ≠ 11 → c ≠ 12 → c ≠ 13 → a3 c = u c := fun c c0 c3 c5 c11 c12 c13 => by
      rw [ha3, wr_ne _ _ _ c3, wcp_ne _ c12, wr_ne _ _ _ c5, wr_ne _ _ _ c5, fa2 c c11, fa1 c c13, ha0, wr_ne _ _ _ c0]
    have A00 : ∀ k, a3 0 k = if k = 6 then nI (p + 1) else u 0 k := fun k => by
      rw [ha3, wr_ne _ _ _ (by decide), wcp_ne _ (by decide), wr_ne _ _ _ (by decide), wr_ne _ _ _ (by decide), fa2 0 (by decide), fa1 0 (by decide), ha0, wr_same]; rfl
    have A5 : a3 5 7 = 0 ∧ a3 5 8 = 0 := by
      rw [ha3, wr_ne _ _ _ (by decide), wcp_ne _ (by decide), wr_same, wr_same]
      exact ⟨rfl, rfl⟩
    have A11 : ∀ s, s < 1024 → a3 11 s = 0 := fun s hs => by
      rw [ha3, wr_ne _ _ _ (by decide), wcp_ne _ (by decide), wr_ne _ _ _ (by decide), wr_ne _ _ _ (by decide), qa2, if_pos hs]
    have A13 : ∀ s, s < 7 → a3 13 s = 0 := fun s hs => by
      rw [ha3, wr_ne _ _ _ (by decide), wcp_ne _ (by decide), wr_ne _ _ _ (by decide), wr_ne _ _ _ (by decide), fa2 13 (by decide), qa1, if_pos hs]
    have A12 : ∀ q, q < 618 → a3 12 q = u 6 q := fun q hq => by
      rw [ha3, wr_ne _ _ _ (by decide), wcp_same, cpy_in (by omega) (by omega), wr_ne _ _ _ (by decide), wr_ne _ _ _ (by decide), fa2 6 (by decide), fa1 6 (by decide), ha0, wr_ne _ _ _ (by decide), show 0 + (q - 0) = q by omega]
    have A32 : a3 3 2 = 0 := by rw [ha3, wr_same, upd_same]
    have A3k : ∀ k, k ≠ 2 → a3 3 k = u 3 k := fun k hk => by
      rw [ha3, wr_same, upd_ne _ _ hk, wcp_ne _ (by decide), wr_ne _ _ _ (by decide), wr_ne _ _ _ (by decide), fa2 3 (by decide), fa1 3 (by decide), ha0, wr_ne _ _ _ (by decide)]
    have cls : fX2_goThrough a0 = bd (fX2_keep a3) (fun r14 u15 => fX2_goThrough_55 fX2_goThrough_81 FU (0 : Int32) u15) := by
      unfold fX2_goThrough fJ7_fill_53178_13 fJ7_fill_53178_11
      rw [bd_eq (show fJ7_fill_53178_13_5 fJ7_fill_53178_13_20 FU (0 : Int32) (0 : Int32) (7 : Int32) a0 = some (0, a1) from ea1), bd_eq (show fJ7_fill_53178_11_5 fJ7_fill_53178_11_20 FU (0 : Int32) (0 : Int32) (1024 : Int32) a1 = some (0, a2) from ea2), bw_eq, bw_eq, bd_eq (C_to12 _), bw_eq, ha3]
    -- the reference, before
    obtain ⟨b1, eb1, fb1, qb1, qb2, qb3, qb4⟩ := M_store (wr v 0 9 (nI (p + 1)))
    obtain ⟨b2, hb2⟩ : ∃ q, q = wr (wr (wr b1 0 6 0) 0 13 0) 0 17 0 := ⟨_, rfl⟩
    obtain ⟨b3, eb3, fb3, qb5⟩ := fl_loop (F := fX6_pass_43 fX6_pass_63) (k := fX6_pass_63) (N := 1024) (cd := 7) (val := fun _ => 0) (u0 := b2) (by decide) (fun m z _ => by rw [fX6_pass_43.eq_2, if_pos (show (1024 : Int32) ≤ nI 1024 from by decide)]) (fun m i z hi _ => by
      rw [fX6_pass_43.eq_2, if_neg (show ¬ (1024 : Int32) ≤ nI i from nI_ge (b := 1024) hi (by decide)), gi_eq (inb_nI hi (by decide)), nI_clamp (by omega), bw_eq, nI_1])
    obtain ⟨b4, eb4, fb4, qb6⟩ := fl_loop (F := fX6_pass_65 fX6_pass_84) (k := fX6_pass_84) (N := 7) (cd := 8) (val := fun _ => 0) (u0 := b3) (by decide) (fun m z _ => by rw [fX6_pass_65.eq_2, if_pos (show (7 : Int32) ≤ nI 7 from by decide)]) (fun m i z hi _ => by
      rw [fX6_pass_65.eq_2, if_neg (show ¬ (7 : Int32) ≤ nI i from nI_ge (b := 7) hi (by decide)), gi_eq (inb_nI hi (by decide)), nI_clamp (by omega), bw_eq, nI_1])
    have Bo : ∀ c, c ≠ 0 → c ≠ 5 → c ≠ 7 → c ≠ 8 → b4 c = v c := fun c c0 c5 c7 c8 => by
      rw [fb4 c c8, fb3 c c7, hb2, wr_ne _ _ _ c0, wr_ne _ _ _ c0, wr_ne _ _ _ c0, fb1 c c0 c5, wr_ne _ _ _ c0]
    have B00 : ∀ k, b4 0 k = if k = 17 then 0 else if k = 13 then 0 else if k = 6 then 0 else b1 0 k := fun k => by
      rw [fb4 0 (by decide), fb3 0 (by decide), hb2, wr_same, wr_same, wr_same]; rfl
    have B0 : ∀ k, k ≠ 5 → k ≠ 6 → k ≠ 9 → k ≠ 13 → k ≠ 17 → b4 0 k = v 0 k := fun k k5 k6 k9 k13 k17 => by
      rw [B00, if_neg k17, if_neg k13, if_neg k6, qb1 k k5, wr_same, upd_ne _ _ k9]
    have B09 : b4 0 9 = nI (p + 1) := by rw [B00, if_neg (by decide), if_neg (by decide), if_neg (by decide), qb1 9 (by decide), wr_same, upd_same]
    have B5 : ∀ q, q < 1040 → b4 5 q = v 2 q := fun q hq => by
      rw [fb4 5 (by decide), fb3 5 (by decide), hb2, wr_ne _ _ _ (by decide), wr_ne _ _ _ (by decide), wr_ne _ _ _ (by decide), qb3 q hq, wr_ne _ _ _ (by decide)]
    have mdl : bd (fX6_store (wr v 0 9 (nI (p + 1)))) (fun r4 u5 => bw (wr u5 0 6 (0 : Int32)) (fun u6 => bw (wr u6 0 13 (0 : Int32)) (fun u7 => bw (wr u7 0 17 (0 : Int32)) (fun u8 => fX6_pass_43 fX6_pass_63 FU (0 : Int32) u8)))) = bd (fX6_meets b4) (fun r16 u17 => fX6_pass_90 fX6_pass_109 FU (0 : Int32) u17) := by
      rw [bd_eq eb1, bw_eq, bw_eq, bw_eq, ← hb2, eb3]
      unfold fX6_pass_63
      rw [eb4]
      rfl
    rw [← ha0, cls, mdl]
    -- the first state
    obtain ⟨z0, hz0⟩ : ∃ q : SS, q = (fun _ => H kept, 0, 0) := ⟨_, rfl⟩
    have hS0 : SI w n B (fun i => fd (H kept) 14 i) z0 := fun k hk => by rw [hz0] at hk; cases hk
    have inv3 : INV w n (B + 300) (H kept) := ⟨NB_mono inv.1 (by omega), inv.2⟩
    have KT0 : KT w n z0 a3 := ⟨(by rw [hz0]; exact Nat.zero_le _), (by rw [hz0, A5.1]; rfl), (by rw [hz0, A5.2]), fun k hk => (by rw [hz0] at hk; cases hk), fun _ => 0, (by rw [hz0]; exact PT_none2 _), fun s hs => (by rw [A11 s hs]; rfl)⟩
    have MT0 : MT w n z0 b4 := ⟨(by rw [hz0]; exact Nat.zero_le _), (by rw [hz0, B00, if_neg (by decide), if_pos rfl]; rfl), (by rw [hz0, B00, if_pos rfl]), fun k hk => (by rw [hz0] at hk; cases hk), fun _ => 0, fun _ => 0, (by rw [hz0]; exact PT_none2 _), fun k hk => (by rw [hz0] at hk; cases hk), fun s hs => (by rw [fb4 7 (by decide), qb5, if_pos hs]; rfl)⟩
    have a6 : a3 6 = u 6 := A0 6 (by decide) (by decide) (by decide) (by decide) (by decide) (by decide)
    have a1' : a3 1 = u 1 := A0 1 (by decide) (by decide) (by decide) (by decide) (by decide) (by decide)
    have b2' : b4 2 = v 2 := Bo 2 (by decide) (by decide) (by decide) (by decide)
    obtain ⟨u15, k1, k2, k3, k4⟩ := C_keepS (P := fun i => fd (H kept) 14 i) (y := H kept) hw hn (show B + 300 < 268435456 by omega) (by rw [a6]; exact hc.2.2.2.2.1) (by rw [a1']; exact hc.1) (by rw [a1']; exact hc.2.1) KT0 hS0 inv3 (fun _ _ => rfl)
    obtain ⟨v17, m1, m2, m3, m4⟩ := M_meetsS (P := fun i => fd (H kept) 14 i) (y := H kept) hw hn (show B + 300 < 268435456 by omega) (by rw [b2']; exact hm.2.2.2.1) MT0 hS0 inv3
    obtain ⟨z1, hz1⟩ : ∃ q : SS, q = kp w z0 (H kept) := ⟨_, rfl⟩
    have hS1 : SI w n B (fun i => fd (H kept) 14 i) z1 := by
      rw [hz1, kp_new (z := z0) (by rw [hz0]; rintro ⟨k, hk, -⟩; cases hk) (by rw [hz0]; exact (by decide : (0 : Nat) < 300)), hz0]
      intro k hk
      dsimp only at hk ⊢
      obtain rfl : k = 0 := by omega
      rw [if_pos rfl]
      exact ⟨inv, fun _ _ => rfl⟩
    rw [bd_eq k1, bd_eq m1]
    have KW1 : KW a3 w n (H kept) (z1, fun _ => 0, 900) u15 := by
      refine ⟨fun c c1 c5 c6 c9 c10 c11 c13 => by rw [k3 c c5 c9 c10 c11], A32, by rw [k3 1 (by decide) (by decide) (by decide) (by decide), a1']; exact hc.1, by rw [k3 1 (by decide) (by decide) (by decide) (by decide), a1']; exact hc.2.1, by rw [k3 1 (by decide) (by decide) (by decide) (by decide), a1']; exact hc.2.2.1, by rw [hz1]; exact k2, fun q hq => by rw [k3 13 (by decide) (by decide) (by decide) (by decide)]; exact A13 q hq, Or.inr rfl, by rw [k3 6 (by decide) (by decide) (by decide) (by decide), a6]; exact hc.2.2.2.2.1⟩
    have MW1 : MW b4 w n (H kept) (z1, fun _ => 0, 900) v17 := by
      refine ⟨fun c c0 c2 c6 c7 c8 => m3 c c0 c6 c7, fun k k5 k13 k17 => m4 k k13 k17, by rw [B00, if_neg (by decide), if_neg (by decide), if_pos rfl], by rw [B0 0 (by decide) (by decide) (by decide) (by decide) (by decide)]; exact hm.1, by rw [B0 1 (by decide) (by decide) (by decide) (by decide) (by decide)]; exact hm.2.1, ⟨0, by decide, ?_⟩, by rw [hz1]; exact m2, fun q hq => by rw [m3 8 (by decide) (by decide) (by decide), qb6, if_pos hq], by rw [m3 2 (by decide) (by decide) (by decide), b2']; exact hm.2.2.2.1⟩
      rw [m4 5 (by decide) (by decide), B00, if_neg (by decide), if_neg (by decide), if_neg (by decide), qb2]; rfl
    obtain ⟨z', u1, v1, r1, r2, ⟨y1, K⟩, ⟨y2, M⟩⟩ := pass_loop hw h2 hn hB0 (show B + 300 < 268435454 by omega) 300 0 FU FU _ u15 v17 (by decide) (by omega) (by omega) hS1 ⟨_, KW1⟩ ⟨_, MW1⟩
    have r1 : fX2_goThrough_55 fX2_goThrough_81 FU (0 : Int32) u15 = _ := r1
    have r2 : fX6_pass_90 fX6_pass_109 FU (0 : Int32) v17 = _ := r2
    rw [r1, r2]
    obtain ⟨d1, d2, d3, d4, d5, d6, d7, d8, d9⟩ := K
    obtain ⟨e1, e2, e3, e4, e5, e6, e7, e8, e9⟩ := M
    -- the class, behind
    obtain ⟨u2, hu2⟩ : ∃ q, q = wr (wcp (wr u1 3 2 1) 12 0 6 0 618) 13 0 (nI z'.1.2.1) := ⟨_, rfl⟩
    have x5 : ∀ k, (wcp (wr u1 3 2 1) 12 0 6 0 618) 5 k = u1 5 k := fun k => by rw [wcp_ne _ (by decide), wr_ne _ _ _ (by decide)]
    have y5 : ∀ k, u2 5 k = u1 5 k := fun k => by rw [hu2, wr_ne _ _ _ (by decide), x5]
    have cend : fX2_goThrough_81 u1 = some (if z'.1.2.2 = 0 then nI z'.1.2.1 else -5, u2) := by
      unfold fX2_goThrough_81 fX2_goThrough_130
      rw [bw_eq, bd_eq (C_from12 _), gi_eq (by decide), bw_eq, show ((0 : Int32)).toNatClampNeg = 0 from rfl, x5 7, d6.2.1, ← hu2, y5 8, y5 7, d6.2.1, d6.2.2.1]
      by_cases q : z'.1.2.2 = 0
      · rw [if_pos q, if_pos q]
      · rw [if_neg q, if_neg q]
    have UO : ∀ c, c ≠ 0 → c ≠ 1 → c ≠ 3 → c ≠ 5 → c ≠ 6 → c ≠ 9 → c ≠ 10 → c ≠ 11 → c ≠ 12 → c ≠ 13 → u2 c = u c := fun c c0 c1 c3 c5 c6 c9 c10 c11 c12 c13 => by
      rw [hu2, wr_ne _ _ _ c13, wcp_ne _ c6, wr_ne _ _ _ c3, d1 c c1 c5 c6 c9 c10 c11 c13, A0 c c0 c3 c5 c11 c12 c13]
    have U1 : ∀ k, u2 1 k = u1 1 k := fun k => by rw [hu2, wr_ne _ _ _ (by decide), wcp_ne _ (by decide), wr_ne _ _ _ (by decide)]
    have U0 : ∀ k, u2 0 k = if k = 6 then nI (p + 1) else u 0 k := fun k => by
      rw [hu2, wr_ne _ _ _ (by decide), wcp_ne _ (by decide), wr_ne _ _ _ (by decide), d1 0 (by decide) (by decide) (by decide) (by decide) (by decide) (by decide) (by decide), A00]
    have U3 : u2 3 2 = 1 := by rw [hu2, wr_ne _ _ _ (by decide), wcp_ne _ (by decide), wr_same, upd_same]
    have U6 : ∀ q, q < 618 → u2 6 q = u 6 q := fun q hq => by
      rw [hu2, wr_ne _ _ _ (by decide), wcp_same, cpy_in (by omega) (by omega), wr_ne _ _ _ (by decide), d1 12 (by decide) (by decide) (by decide) (by decide) (by decide) (by decide) (by decide), show 0 + (q - 0) = q by omega, A12 q hq]
    have U13 : ∀ q, q < 7 → u2 13 q = if q = 0 then nI z'.1.2.1 else z'.2.1 q := fun q hq => by
      rw [hu2, wr_same]
      unfold upd
      by_cases c : q = 0
      · rw [if_pos c, if_pos c]
      · rw [if_neg c, if_neg c, wcp_ne _ (by decide), wr_ne _ _ _ (by decide), d7 q hq]
    -- the reference, behind
    obtain ⟨v24, h24⟩ : ∃ q, q = wr (wr v1 8 0 (nI z'.1.2.1)) 0 6 1 := ⟨_, rfl⟩
    obtain ⟨v2, ev2, fv2, qv2⟩ := cp_loop (F := fX6_pass_126 fX6_pass_151) (k := fX6_pass_151) (N := 1040) (cs := 5) (os := 0) (cd := 2) (od := 0) (u0 := v24) (by omega) (Or.inl (by decide)) (fun m q _ => by rw [fX6_pass_126.eq_2, if_pos (show (1040 : Int32) ≤ nI 1040 from by decide)]) (fun m i q hi hq => by
      rw [fX6_pass_126.eq_2, if_neg (show ¬ (1040 : Int32) ≤ nI i from nI_ge (b := 1040) hi (by decide)), gi_eq (inb_nI (by omega) (by decide)), gi_eq (inb_nI hi (by decide)), nI_clamp (by omega), bw_eq, nI_1, Nat.zero_add])
    have V0 : ∀ k, v2 0 k = if k = 6 then 1 else v1 0 k := fun k => by
      rw [fv2 0 (by decide), h24, wr_same, wr_ne _ _ _ (by decide)]; rfl
    have mend : fX6_pass_109 v1 = some (if z'.1.2.2 = 0 then nI z'.1.2.1 else -5, v2) := by
      unfold fX6_pass_109
      rw [gi_eq (by decide), bw_eq, bw_eq, show ((0 : Int32)).toNatClampNeg = 0 from rfl, e7.2.1, ← h24, ev2]
      unfold fX6_pass_151 fX6_pass_167
      rw [show v2 0 17 = z'.1.2.2 from by rw [V0, if_neg (by decide), e7.2.2.1], show v2 0 13 = nI z'.1.2.1 from by rw [V0, if_neg (by decide), e7.2.1]]
      by_cases q : z'.1.2.2 = 0
      · rw [if_pos q, if_pos q]
      · rw [if_neg q, if_neg q]
    have VO : ∀ c, c ≠ 0 → c ≠ 2 → c ≠ 5 → c ≠ 6 → c ≠ 7 → c ≠ 8 → v2 c = v c := fun c c0 c2 c5 c6 c7 c8 => by
      rw [fv2 c c2, h24, wr_ne _ _ _ c0, wr_ne _ _ _ c8, e1 c c0 c2 c6 c7 c8, Bo c c0 c5 c7 c8]
    have V0k : ∀ k, k ≠ 5 → k ≠ 6 → k ≠ 9 → k ≠ 13 → k ≠ 17 → v2 0 k = v 0 k := fun k k5 k6 k9 k13 k17 => by
      rw [V0, if_neg k6, e2 k k5 k13 k17, B0 k k5 k6 k9 k13 k17]
    have V2 : ∀ q, q < 1040 → v2 2 q = v 2 q := fun q hq => by
      rw [qv2, if_pos (by omega), h24, wr_ne _ _ _ (by decide), wr_ne _ _ _ (by decide), e1 5 (by decide) (by decide) (by decide) (by decide) (by decide), show 0 + (q - 0) = q by omega, B5 q hq]
    have V8 : ∀ q, q < 7 → v2 8 q = if q = 0 then nI z'.1.2.1 else z'.2.1 q := fun q hq => by
      rw [fv2 8 (by decide), h24, wr_ne _ _ _ (by decide), wr_same]
      unfold upd
      by_cases c : q = 0
      · rw [if_pos c, if_pos c]
      · rw [if_neg c, if_neg c, e8 q hq]
    refine ⟨_, u2, v2, by rw [bd_eq cend], by rw [mend], w, n, H, kept, L, ac, ha', ?_, ?_, ?_, ?_, ?_, ?_, ?_⟩
    · obtain ⟨c1, c2, c3, c4, c5, c6, c7, c8, c9, pp, c10, c11, c12⟩ := hc
      have u4 : u2 4 = u 4 := UO 4 (by decide) (by decide) (by decide) (by decide) (by decide) (by decide) (by decide) (by decide) (by decide) (by decide)
      have u7 : u2 7 = u 7 := UO 7 (by decide) (by decide) (by decide) (by decide) (by decide) (by decide) (by decide) (by decide) (by decide) (by decide)
      have u8 : u2 8 = u 8 := UO 8 (by decide) (by decide) (by decide) (by decide) (by decide) (by decide) (by decide) (by decide) (by decide) (by decide)
      exact ⟨by rw [U1]; exact d3, by rw [U1]; exact d4, by rw [U1]; exact d5, U3, CC_eq c5 (fun q hq => U6 q (by omega)), CN_eq c6 (fun q _ hq => U6 q hq), by rw [u7]; exact c7, by rw [U0, if_neg (by decide)]; exact c8, by rw [u4]; exact c9, pp, c10, by rw [u4]; exact c11, by rw [u8]; exact c12⟩
    · obtain ⟨m1, m2, m3, m4, m5, m6, m7, m8, m9, m10⟩ := hm
      have v4 : v2 4 = v 4 := VO 4 (by decide) (by decide) (by decide) (by decide) (by decide) (by decide)
      have v1' : v2 1 = v 1 := VO 1 (by decide) (by decide) (by decide) (by decide) (by decide) (by decide)
      have v3 : v2 3 = v 3 := VO 3 (by decide) (by decide) (by decide) (by decide) (by decide) (by decide)
      exact ⟨by rw [V0k _ (by decide) (by decide) (by decide) (by decide) (by decide)]; exact m1, by rw [V0k _ (by decide) (by decide) (by decide) (by decide) (by decide)]; exact m2, by rw [V0, if_pos rfl], MC_eq m4 V2, by rw [v3]; exact m5, by rw [V0k _ (by decide) (by decide) (by decide) (by decide) (by decide)]; exact m6, by rw [V0k _ (by decide) (by decide) (by decide) (by decide) (by decide)]; exact m7, by rw [v4]; exact m8, by rw [v1']; exact m9, by rw [v1']; exact m10⟩
    · rw [U0, if_neg (by decide), V0k _ (by decide) (by decide) (by decide) (by decide) (by decide)]; exact h5
    · rw [U0, if_neg (by decide)]; exact hb
    · rw [U0, if_pos rfl, V0, if_neg (by decide), e2 9 (by decide) (by decide) (by decide), B09]
    · exact ⟨p + 1, by omega, by rw [U0, if_pos rfl]⟩
    · intro k hk
      rw [U13 k hk, V8 k hk]
