-- the search: the reference visits a state
section VM
variable {V : Wo} {w n B k : Nat} {P : Nat → Nat}
theorem M_visitS (hw : w < 3) (h2 : 2 ≤ n) (hn : n ≤ 6) (hB0 : 64 ≤ B) (hB : B + 300 < 268435454) {y : XS} {z : ZS} {v : Wo} (hS : SI w n B P z.1) (hk : k < z.1.2.1) (hW : MW V w n y z v) : ∃ v1, fX6_visit (nI k) v = some (0, v1) ∧ ∃ y', MW V w n y' (vis w n k z) v1 := by
  have hF := FU_ge
  have k300 := hW.2.2.2.2.2.2.1.1
  have hx : INV w n (B + 300) (z.1.1 k) := ⟨NB_mono (hS k hk).1.1 (by omega), (hS k hk).1.2⟩
  have wf := INV_WF hx hn (by omega)
  have b0 : ∀ i, i < 6 → fd (z.1.1 k) 0 i < 2 ^ 31 := fun i _ => by have := wf.1 0 i; omega
  have hm1 := hmN_le (z.1.1 k) 1 n 0
  have hm2 := hmN_le (z.1.1 k) 2 n 0
  obtain ⟨v3, l1, W3, l3⟩ := M_loadS hk hW
  obtain ⟨a1, a2, a3, a4, a5, a6, a7, a8, a9⟩ := W3
  have e0 : v3 0 0 = nI w := by rw [a2 0 (by decide) (by decide) (by decide)]; exact a4
  have e1 : v3 0 1 = nI n := by rw [a2 1 (by decide) (by decide) (by decide)]; exact a5
  have su := su_eq h2 hn (ST_z hx.2.1)
  unfold fX6_visit
  rw [bd_eq l1, gi_eq (by decide), bd_eq (show fX6_ofMode (2 : Int32) v3 = some (nI (hmN (z.1.1 k) 2 n 0), v3) from M_hm 2 a9 e1 hn b0 (by decide)), show ((2 : Int32)).toNatClampNeg = 2 from rfl, bd_eq (M_more _ _ v3), gi_eq (by decide), bw_eq, a8 2 (by decide)]
  obtain ⟨v12, h12⟩ : ∃ q, q = wr v3 8 2 (mxi (z.2.1 2) (nI (hmN (z.1.1 k) 2 n 0))) := ⟨_, rfl⟩
  have o12 : ∀ c, c ≠ 8 → v12 c = v3 c := fun c q => by rw [h12, wr_ne _ _ _ q]
  have t12 : ∀ q, v12 8 q = if q = 2 then mxi (z.2.1 2) (nI (hmN (z.1.1 k) 2 n 0)) else v3 8 q := fun q => by rw [h12, wr_same]; rfl
  rw [← h12, gi_eq (by decide), bd_eq (show fX6_underWay v12 = some (nI (suM (z.1.1 k) 36 0), v12) from M_su (w := w) (n := n) (by rw [o12 2 (by decide)]; exact a9)), show ((6 : Int32)).toNatClampNeg = 6 from rfl, bd_eq (M_more _ _ v12), gi_eq (by decide), bw_eq, t12 6, if_neg (show ¬ (6 : Nat) = 2 by decide), a8 6 (by decide), ← su]
  obtain ⟨v21, h21⟩ : ∃ q, q = wr v12 8 6 (mxi (z.2.1 6) (nI (suO (z.1.1 k) n n 0))) := ⟨_, rfl⟩
  have o21 : ∀ c, c ≠ 8 → v21 c = v3 c := fun c q => by rw [h21, wr_ne _ _ _ q, o12 c q]
  have t21 : ∀ q, v21 8 q = if q = 6 then mxi (z.2.1 6) (nI (suO (z.1.1 k) n n 0)) else v12 8 q := fun q => by rw [h21, wr_same]; rfl
  have c21 : MC w n (z.1.1 k) (v21 2) := by rw [o21 2 (by decide)]; exact a9
  have f0 : v21 0 0 = nI w := by rw [o21 0 (by decide)]; exact e0
  have f1 : v21 0 1 = nI n := by rw [o21 0 (by decide)]; exact e1
  rw [← h21, gi_eq (by decide), show ((4 : Int32)).toNatClampNeg = 4 from rfl, f0]
  have fin : ∀ s3 : Int32, s3 = (if hmN (z.1.1 k) 2 n 0 = 0 then tlv w n (z.1.1 k) else 0) → ∃ v1, fX6_visit_80 (nI k) (4 : Int32) (v21 8 4) s3 v21 = some (0, v1) ∧ ∃ y', MW V w n y' (vis w n k z) v1 := fun s3 hs => by
    unfold fX6_visit_80
    rw [gi_eq (by decide), bw_eq, show ((4 : Int32)).toNatClampNeg = 4 from rfl]
    obtain ⟨v25, h25⟩ : ∃ q, q = wr v21 8 4 (v21 8 4 + s3) := ⟨_, rfl⟩
    have o25 : ∀ c, c ≠ 8 → v25 c = v3 c := fun c q => by rw [h25, wr_ne _ _ _ q, o21 c q]
    have W25 : MW V w n (z.1.1 k) (z.1, vT w n (z.1.1 k) z.2.1, 0) v25 := by
      refine ⟨fun c c0 c2 c6 c7 c8 => by rw [o25 c c8]; exact a1 c c0 c2 c6 c7 c8, fun q k5 k13 k17 => by rw [o25 0 (by decide)]; exact a2 q k5 k13 k17, a3, a4, a5, by rw [o25 0 (by decide)]; exact a6, MT_eq a7 (by rw [o25 0 (by decide)]) (by rw [o25 0 (by decide)]) (o25 6 (by decide)) (o25 7 (by decide)), fun q hq => ?_, by rw [o25 2 (by decide)]; exact a9⟩
      rw [h25, wr_same]
      show upd (v21 8) 4 (v21 8 4 + s3) q = vT w n (z.1.1 k) z.2.1 q
      unfold vT upd
      rw [t21 q, t21 4, if_neg (show ¬ (4 : Nat) = 6 by decide), t12 q, t12 4, if_neg (show ¬ (4 : Nat) = 2 by decide), a8 4 (by decide), hs]
      by_cases q4 : q = 4
      · rw [if_pos q4, if_neg (show ¬ q = 2 by omega), if_pos q4]
      · rw [if_neg q4]
        by_cases q6 : q = 6
        · rw [if_pos q6, if_neg (show ¬ q = 2 by omega), if_neg q4, if_pos q6]
        · rw [if_neg q6]
          by_cases q2 : q = 2
          · rw [if_pos q2, if_pos q2]
          · rw [if_neg q2, if_neg q2, if_neg q4, if_neg q6, a8 q hq]
    rw [← h25, bd_eq (show fX6_ofMode (1 : Int32) v25 = some (nI (hmN (z.1.1 k) 1 n 0), v25) from M_hm 1 W25.2.2.2.2.2.2.2.2 (by rw [W25.2.1 1 (by decide) (by decide) (by decide)]; exact a5) hn b0 (by decide))]
    have Z4 : ZI w n B P k (z.1.1 k) (z.1, vT w n (z.1.1 k) z.2.1, 0) := ⟨hS, hk, rfl⟩
    have main : ∀ s0 : Int32, s0 = (if 0 < hmN (z.1.1 k) 1 n 0 then 1 else 0) → ∃ v1, fX6_visit_95 (nI k) s0 v25 = some (0, v1) ∧ ∃ y', MW V w n y' (vis w n k z) v1 := fun s0 hs0 => by
      unfold fX6_visit_95
      obtain ⟨v5, g0, p1, p2, p3⟩ := M_goM (V := V) hw hn hB0 hB (s0 := s0) 36 FU 0 _ v25 (by omega) (by omega) Z4 ⟨_, W25⟩
      have p3 : fX6_visit_101 fX6_visit_159 FU (nI k) s0 (0 : Int32) (0 : Int32) v25 = _ := p3
      rw [p3]
      unfold fX6_visit_159
      obtain ⟨v6, g1, q1, ⟨y6, q2⟩, q3⟩ := M_lvO (V := V) hw hn hB0 hB (s0 := s0) n FU 0 _ v5 (by omega) (by omega) p1 p2
      have q3 : fX6_visit_162 fX6_visit_211 FU (nI k) s0 _ (0 : Int32) v5 = _ := q3
      rw [q3]
      unfold fX6_visit_211
      obtain ⟨z2, hz2⟩ : ∃ q, q = lvO w n (z.1.1 k) n 0 (goM w (z.1.1 k) 36 0 (z.1, vT w n (z.1.1 k) z.2.1, 0)) := ⟨_, rfl⟩
      have hv : vis w n k z = vE n (z.1.1 k) z2 := by rw [hz2, go_all hn (ST_z hx.2.1)]; rfl
      rw [← hz2] at q2 q1 g1
      rw [hv, ← hz2]
      obtain ⟨d1, d2, d3, d4, d5, d6, d7, d8, d9⟩ := q2
      have g0 : (goM w (z.1.1 k) 36 0 (z.1, vT w n (z.1.1 k) z.2.1, 0)).2.2 ≤ 0 + 36 := g0
      have hg : z2.2.2 ≤ 42 := by omega
      unfold vE
      by_cases eg : z2.2.2 = 0
      · rw [if_pos eg, if_pos (show nI z2.2.2 = (0 : Int32) from by rw [eg]; rfl), gi_eq (by decide), gi_eq (by decide), bw_eq, show ((1 : Int32)).toNatClampNeg = 1 from rfl, gi_eq (by decide), show ((3 : Int32)).toNatClampNeg = 3 from rfl]
        obtain ⟨v7, h7⟩ : ∃ q, q = wr (wr v6 8 1 (v6 8 1 + 1)) 8 3 ((wr v6 8 1 (v6 8 1 + 1)) 8 3 + s0) := ⟨_, rfl⟩
        have o7 : ∀ c, c ≠ 8 → v7 c = v6 c := fun c q => by rw [h7, wr_ne _ _ _ q, wr_ne _ _ _ q]
        refine ⟨v7, ?_, y6, fun c c0 c2 c6 c7 c8 => by rw [o7 c c8]; exact d1 c c0 c2 c6 c7 c8, fun q k5 k13 k17 => by rw [o7 0 (by decide)]; exact d2 q k5 k13 k17, d3, d4, d5, by rw [o7 0 (by decide)]; exact d6, MT_eq d7 (by rw [o7 0 (by decide)]) (by rw [o7 0 (by decide)]) (o7 6 (by decide)) (o7 7 (by decide)), fun q hq => ?_, by rw [o7 2 (by decide)]; exact d9⟩
        · unfold fX6_visit_241 fX6_visit_243
          rw [show ((3 : Int32)).toNatClampNeg = 3 from rfl]
          by_cases es : 0 < hmN (z.1.1 k) 1 n 0
          · rw [if_pos es] at hs0
            rw [h7, hs0, if_neg (by decide), gi_eq (by decide), bw_eq]
          · rw [if_neg es] at hs0
            rw [h7, hs0, if_pos rfl, gi_eq (by decide), bw_eq]
        · rw [h7, wr_same, wr_same]
          dsimp only
          unfold upd
          rw [d8 1 (by decide), if_neg (show ¬ (3 : Nat) = 1 by decide), d8 3 (by decide), hs0]
          by_cases c3 : q = 3
          · rw [if_pos c3, if_neg (show ¬ q = 1 by omega), if_pos c3]
          · rw [if_neg c3]
            by_cases c1 : q = 1
            · rw [if_pos c1, if_pos c1]
            · rw [if_neg c1, if_neg c1, if_neg c3, d8 q hq]
      · rw [if_neg eg, if_neg (nI_ne0 (by omega) (by omega))]
        exact ⟨v6, rfl, y6, d1, d2, d3, d4, d5, d6, d7, d8, d9⟩
    by_cases e : 0 < hmN (z.1.1 k) 1 n 0
    · rw [if_neg (nI_nle e (by omega))]
      exact main 1 (by rw [if_pos e])
    · rw [show hmN (z.1.1 k) 1 n 0 = 0 by omega, if_pos (show nI 0 ≤ (0 : Int32) from by decide)]
      exact main 0 (by rw [if_neg e])
  unfold fX6_visit_79
  by_cases ew : w = 0
  · rw [if_pos (show nI w = (0 : Int32) from by rw [ew]; rfl)]
    exact fin 0 (by rw [tlv_0 (fun q => q.1 ew), ite_self])
  · rw [if_neg (nI_ne0 (by omega) (by omega)), bd_eq (show fX6_ofMode (2 : Int32) v21 = some (nI (hmN (z.1.1 k) 2 n 0), v21) from M_hm 2 c21 f1 hn b0 (by decide))]
    by_cases e : hmN (z.1.1 k) 2 n 0 = 0
    · obtain ⟨b, b1, b2, b3⟩ := M_ts hw c21 wf f0 f1 hn
      rw [if_pos (show nI (hmN (z.1.1 k) 2 n 0) = (0 : Int32) from by rw [e]; rfl), bd_eq b2]
      rcases b1 with rfl | rfl
      · rw [if_pos rfl]
        have hs : ¬ SWH w n (z.1.1 k) := fun q => absurd (b3.mpr q) (by decide)
        exact fin 1 (by rw [if_pos e, tlv_1 ⟨ew, hs⟩])
      · rw [if_neg (by decide)]
        exact fin 0 (by rw [if_pos e, tlv_0 (fun q => q.2 (b3.mp rfl))])
    · rw [if_neg (nI_ne0 (by omega) (by omega))]
      exact fin 0 (by rw [if_neg e])
end VM
