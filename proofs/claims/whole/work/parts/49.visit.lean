-- the search: a state is gone from
def mxi (a b : Int32) : Int32 := if a < b then b else a
theorem M_more (a b : Int32) (v : Wo) : fX6_more a b v = some (mxi a b, v) := by
  unfold fX6_more mxi
  by_cases h : a < b
  · rw [if_pos (Int32.le_of_lt h), if_pos h]; rfl
  · rw [if_neg h]
    by_cases h2 : a ≤ b
    · have : a = b := Int32.le_antisymm h2 (Int32.not_lt.mp h)
      rw [if_pos h2, this]; rfl
    · rw [if_neg h2]; rfl
noncomputable def vT (w n : Nat) (x : XS) (T : Nat → Int32) : Nat → Int32 := fun k => if k = 2 then mxi (T 2) (nI (hmN x 2 n 0)) else if k = 4 then T 4 + (if hmN x 2 n 0 = 0 then tlv w n x else 0) else if k = 6 then mxi (T 6) (nI (suO x n n 0)) else T k
noncomputable def vE (n : Nat) (x : XS) (z : ZS) : ZS := if z.2.2 = 0 then (z.1, fun k => if k = 1 then z.2.1 1 + 1 else if k = 3 then z.2.1 3 + (if 0 < hmN x 1 n 0 then 1 else 0) else z.2.1 k, z.2.2) else z
noncomputable def vis (w n k : Nat) (z : ZS) : ZS := vE n (z.1.1 k) (lvO w n (z.1.1 k) n 0 (goO w (z.1.1 k) n n 0 (z.1, vT w n (z.1.1 k) z.2.1, 0)))
theorem tr_g (w : Nat) (y : XS) (z : ZS) : (tr w y z).2.2 ≤ z.2.2 + 1 := by
  unfold tr
  split
  · exact Nat.le_refl _
  · exact Nat.le_succ _
theorem goM_g (w : Nat) (x : XS) : ∀ d p z, (goM w x d p z).2.2 ≤ z.2.2 + d
  | 0, _, _ => Nat.le_refl _
  | d + 1, p, z => by
    have ih := goM_g w x d (p + 1) (if 0 < (lt x p).length then tr w (com w x (p / 6) (p % 6)) z else z)
    have t := tr_g w (com w x (p / 6) (p % 6)) z
    show (goM w x d (p + 1) _).2.2 ≤ _
    split at ih
    · rename_i c
      rw [if_pos c]; omega
    · rename_i c
      rw [if_neg c]; omega
theorem lvO_g (w n : Nat) (x : XS) : ∀ d i z, (lvO w n x d i z).2.2 ≤ z.2.2 + d
  | 0, _, _ => Nat.le_refl _
  | d + 1, i, z => by
    have ih := lvO_g w n x d (i + 1) (if fd x 0 i = 2 then tr w (lef w n x i) z else z)
    have t := tr_g w (lef w n x i) z
    show (lvO w n x d (i + 1) _).2.2 ≤ _
    split at ih
    · rename_i c
      rw [if_pos c]; omega
    · rename_i c
      rw [if_neg c]; omega
section VI
variable {U V : Wo} {w n B k : Nat} {P : Nat → Nat} {x : XS}
theorem C_tallyS (hw : w < 3) (hn : n ≤ 6) (hB : B + 300 < 268435454) {z : ZS} {u : Wo} (hx : INV w n (B + 300) x) (hW : KW U w n x z u) : ∃ u1, fX2_tally u = some (0, u1) ∧ KW U w n x (z.1, vT w n x z.2.1, z.2.2) u1 := by
  obtain ⟨a1, a2, a3, a4, a5, a6, a7, a8, a9⟩ := hW
  have wf := INV_WF hx hn (by omega)
  have b0 : ∀ i, i < 6 → fd x 0 i < 2 ^ 31 := fun i _ => by have := wf.1 0 i; omega
  have hml := hmN_le x 2 n 0
  obtain ⟨u6, hu6⟩ : ∃ q, q = wr u 13 2 (mxi (z.2.1 2) (nI (hmN x 2 n 0))) := ⟨_, rfl⟩
  have o6 : ∀ c, c ≠ 13 → u6 c = u c := fun c q => by rw [hu6, wr_ne _ _ _ q]
  have t6 : ∀ q, u6 13 q = if q = 2 then mxi (z.2.1 2) (nI (hmN x 2 n 0)) else u 13 q := fun q => by rw [hu6, wr_same]; rfl
  have h1 : fX3_howMany (2 : Int32) u = some (nI (hmN x 2 n 0), u) := C_hm 2 a9 a4 hn b0 (by decide)
  have c9 : CC x (u6 6) := by rw [o6 6 (by decide)]; exact a9
  have htl : fX3_tokenIsLost u6 = some (tlv w n x, u6) := C_tl hw c9 wf (by rw [o6 1 (by decide)]; exact a3) (by rw [o6 1 (by decide)]; exact a4) hn
  have fin : ∀ s3 : Int32, s3 = (if hmN x 2 n 0 = 0 then tlv w n x else 0) → ∃ u1, fX2_tally_51 (4 : Int32) (u6 13 4) s3 u6 = some (0, u1) ∧ KW U w n x (z.1, vT w n x z.2.1, z.2.2) u1 := fun s3 hs => by
    unfold fX2_tally_51
    rw [gi_eq (by decide), bw_eq, show ((4 : Int32)).toNatClampNeg = 4 from rfl]
    obtain ⟨u10, h10⟩ : ∃ q, q = wr u6 13 4 (u6 13 4 + s3) := ⟨_, rfl⟩
    have o10 : ∀ c, c ≠ 13 → u10 c = u c := fun c q => by rw [h10, wr_ne _ _ _ q, o6 c q]
    rw [← h10, gi_eq (by decide), bd_eq (C_su (x := x) (n := n) (by rw [o10 6 (by decide)]; exact a9) (by rw [o10 1 (by decide)]; exact a4) hn), gi_eq (by decide), bw_eq, show ((6 : Int32)).toNatClampNeg = 6 from rfl]
    have hm6 : (if u10 13 6 < nI (suO x n n 0) then nI (suO x n n 0) else u10 13 6) = mxi (z.2.1 6) (nI (suO x n n 0)) := by
      have : u10 13 6 = z.2.1 6 := by rw [h10, wr_same, upd_ne _ _ (by decide), t6, if_neg (by decide), a7 6 (by decide)]
      rw [this]; rfl
    rw [hm6]
    have ow : ∀ c, c ≠ 13 → wr u10 13 6 (mxi (z.2.1 6) (nI (suO x n n 0))) c = u c := fun c q => by rw [wr_ne _ _ _ q, o10 c q]
    refine ⟨_, rfl, fun c c1 c5 c6 c9 c10 c11 c13 => by rw [ow c c13]; exact a1 c c1 c5 c6 c9 c10 c11 c13, a2, by rw [ow 1 (by decide)]; exact a3, by rw [ow 1 (by decide)]; exact a4, by rw [ow 1 (by decide)]; exact a5, KT_eq a6 (by rw [ow 5 (by decide)]) (by rw [ow 5 (by decide)]) (ow 9 (by decide)) (ow 10 (by decide)) (ow 11 (by decide)), fun q hq => ?_, by rw [ow 5 (by decide)]; exact a8, by rw [ow 6 (by decide)]; exact a9⟩
    rw [wr_same, h10, wr_same]
    show upd (upd (u6 13) 4 (u6 13 4 + s3)) 6 _ q = vT w n x z.2.1 q
    unfold vT upd
    rw [t6 q, t6 4, if_neg (show ¬ (4 : Nat) = 2 by decide), a7 4 (by decide), hs]
    by_cases q6 : q = 6
    · rw [if_pos q6, if_neg (show ¬ q = 2 by omega), if_neg (show ¬ q = 4 by omega), if_pos q6]
    · rw [if_neg q6]
      by_cases q4 : q = 4
      · rw [if_pos q4, if_neg (show ¬ q = 2 by omega), if_pos q4]
      · rw [if_neg q4]
        by_cases q2 : q = 2
        · rw [if_pos q2, if_pos q2]
        · rw [if_neg q2, if_neg q2, if_neg q4, if_neg q6, a7 q hq]
  unfold fX2_tally
  rw [bd_eq h1, gi_eq (by decide), gi_eq (by decide), bw_eq, show ((2 : Int32)).toNatClampNeg = 2 from rfl, show (if u 13 2 < nI (hmN x 2 n 0) then nI (hmN x 2 n 0) else u 13 2) = mxi (z.2.1 2) (nI (hmN x 2 n 0)) from by rw [a7 2 (by decide)]; rfl, ← hu6, gi_eq (by decide), show ((4 : Int32)).toNatClampNeg = 4 from rfl]
  unfold fX2_tally_50
  by_cases e : hmN x 2 n 0 = 0
  · rw [if_pos (show nI (hmN x 2 n 0) = (0 : Int32) from by rw [e]; rfl), bd_eq htl]
    by_cases l : w ≠ 0 ∧ ¬ SWH w n x
    · rw [tlv_1 l, if_neg (by decide)]
      exact fin 1 (by rw [if_pos e, tlv_1 l])
    · rw [tlv_0 l, if_pos rfl]
      exact fin 0 (by rw [if_pos e, tlv_0 l])
  · rw [if_neg (nI_ne0 (by omega) (by omega))]
    exact fin 0 (by rw [if_neg e])
theorem C_goFromS (hw : w < 3) (hn : n ≤ 6) (hB0 : 64 ≤ B) (hB : B + 300 < 268435454) {y : XS} {z : ZS} {u : Wo} (hS : SI w n B P z.1) (hk : k < z.1.2.1) (hW : KW U w n y z u) : ∃ u1, fX2_goFrom (nI k) u = some (0, u1) ∧ ZI w n B P k (z.1.1 k) (vis w n k z) ∧ KW U w n (z.1.1 k) (vis w n k z) u1 := by
  have hF := FU_ge
  obtain ⟨a1, a2, a3, a4, a5, a6, a7, a8, a9⟩ := hW
  have k300 := a6.1
  have hx : INV w n (B + 300) (z.1.1 k) := ⟨NB_mono (hS k hk).1.1 (by omega), (hS k hk).1.2⟩
  have wf := INV_WF hx hn (by omega)
  have b0 : ∀ i, i < 6 → fd (z.1.1 k) 0 i < 2 ^ 31 := fun i _ => by have := wf.1 0 i; omega
  have hml := hmN_le (z.1.1 k) 1 n 0
  unfold fX2_goFrom
  rw [bd_eq (C_load (show k < 300 by omega))]
  obtain ⟨u3, h3⟩ : ∃ q, q = wcp u 9 (k * 608) 6 0 608 := ⟨_, rfl⟩
  rw [← h3]
  have o : ∀ c, c ≠ 6 → u3 c = u c := fun c q => by rw [h3, wcp_ne _ q]
  have W3 : KW U w n (z.1.1 k) z u3 := ⟨fun c c1 c5 c6 c9 c10 c11 c13 => by rw [o c c6]; exact a1 c c1 c5 c6 c9 c10 c11 c13, a2, by rw [o 1 (by decide)]; exact a3, by rw [o 1 (by decide)]; exact a4, by rw [o 1 (by decide)]; exact a5, KT_eq a6 (by rw [o 5 (by decide)]) (by rw [o 5 (by decide)]) (o 9 (by decide)) (o 10 (by decide)) (o 11 (by decide)), fun q hq => by rw [o 13 (by decide)]; exact a7 q hq, by rw [o 5 (by decide)]; exact a8, CC_eq (a6.2.2.2.1 k hk).1 (fun q hq => by rw [h3, wcp_same, cpy_in (by omega) (by omega), Nat.sub_zero])⟩
  obtain ⟨u10, g1, g2⟩ := C_tallyS hw hn hB hx W3
  have h1 : fX3_howMany (1 : Int32) u3 = some (nI (hmN (z.1.1 k) 1 n 0), u3) := C_hm 1 W3.2.2.2.2.2.2.2.2 W3.2.2.2.1 hn b0 (by decide)
  rw [bd_eq h1]
  have main : ∀ s0 : Int32, s0 = (if 0 < hmN (z.1.1 k) 1 n 0 then 1 else 0) → ∃ u1, fX2_goFrom_21 (nI k) s0 u3 = some (0, u1) ∧ ZI w n B P k (z.1.1 k) (vis w n k z) ∧ KW U w n (z.1.1 k) (vis w n k z) u1 := fun s0 hs0 => by
    unfold fX2_goFrom_21
    rw [bd_eq g1, bw_eq, n0]
    have w5 : ∀ c, c ≠ 5 → wr u10 5 9 (nI 0) c = u10 c := fun c q => wr_ne _ _ _ q
    obtain ⟨d1, d2, d3, d4, d5, d6, d7, d8, d9⟩ := g2
    have W4 : KW U w n (z.1.1 k) (z.1, vT w n (z.1.1 k) z.2.1, 0) (wr u10 5 9 (nI 0)) := ⟨fun c c1 c5 c6 c9 c10 c11 c13 => by rw [w5 c c5]; exact d1 c c1 c5 c6 c9 c10 c11 c13, d2, by rw [w5 1 (by decide)]; exact d3, by rw [w5 1 (by decide)]; exact d4, by rw [w5 1 (by decide)]; exact d5, KT_eq d6 (by rw [wr_same, upd_ne _ _ (by decide)]) (by rw [wr_same, upd_ne _ _ (by decide)]) (w5 9 (by decide)) (w5 10 (by decide)) (w5 11 (by decide)), fun q hq => by rw [w5 13 (by decide)]; exact d7 q hq, Or.inl (by rw [wr_same, upd_same]; rfl), by rw [w5 6 (by decide)]; exact d9⟩
    have Z4 : ZI w n B P k (z.1.1 k) (z.1, vT w n (z.1.1 k) z.2.1, 0) := ⟨hS, hk, rfl⟩
    obtain ⟨u5, p1, p2, p3⟩ := C_goO hw hn hB0 hB (s0 := s0) n FU 0 _ _ (by omega) (by omega) Z4 W4
    rw [p3]
    unfold fX2_goFrom_99
    rw [n0]
    obtain ⟨u6, q1, q2, q3⟩ := C_lvO hw hn hB0 hB (s0 := s0) n FU 0 _ u5 (by omega) (by omega) p1 p2
    rw [q3]
    unfold fX2_goFrom_144
    obtain ⟨e1, e2, e3, e4, e5, e6, e7, e8, e9⟩ := q2
    obtain ⟨z2, hz2⟩ : ∃ q, q = lvO w n (z.1.1 k) n 0 (goO w (z.1.1 k) n n 0 (z.1, vT w n (z.1.1 k) z.2.1, 0)) := ⟨_, rfl⟩
    have hv : vis w n k z = vE n (z.1.1 k) z2 := by rw [hz2]; rfl
    rw [← hz2] at e6 e7 e8 q1
    have hg2 : z2.2.2 ≤ 42 := by
      have g1 := lvO_g w n (z.1.1 k) n 0 (goO w (z.1.1 k) n n 0 (z.1, vT w n (z.1.1 k) z.2.1, 0))
      have g2 := goM_g w (z.1.1 k) 36 0 (z.1, vT w n (z.1.1 k) z.2.1, 0)
      rw [go_all hn (ST_z hx.2.1)] at g2
      rw [← hz2] at g1
      have g2 : (goO w (z.1.1 k) n n 0 (z.1, vT w n (z.1.1 k) z.2.1, 0)).2.2 ≤ 0 + 36 := g2
      omega
    have e8 := e8.resolve_right (by omega)
    rw [hv, e8]
    unfold vE flg
    by_cases eg : z2.2.2 = 0
    · rw [if_pos eg, if_pos eg, if_pos rfl, gi_eq (by decide), gi_eq (by decide), bw_eq, show ((1 : Int32)).toNatClampNeg = 1 from rfl, gi_eq (by decide), show ((3 : Int32)).toNatClampNeg = 3 from rfl]
      obtain ⟨u7, h7⟩ : ∃ q, q = wr (wr u6 13 1 (u6 13 1 + 1)) 13 3 ((wr u6 13 1 (u6 13 1 + 1)) 13 3 + s0) := ⟨_, rfl⟩
      have o7 : ∀ c, c ≠ 13 → u7 c = u6 c := fun c q => by rw [h7, wr_ne _ _ _ q, wr_ne _ _ _ q]
      refine ⟨u7, ?_, q1, fun c c1 c5 c6 c9 c10 c11 c13 => by rw [o7 c c13]; exact e1 c c1 c5 c6 c9 c10 c11 c13, e2, by rw [o7 1 (by decide)]; exact e3, by rw [o7 1 (by decide)]; exact e4, by rw [o7 1 (by decide)]; exact e5, KT_eq e6 (by rw [o7 5 (by decide)]) (by rw [o7 5 (by decide)]) (o7 9 (by decide)) (o7 10 (by decide)) (o7 11 (by decide)), fun q hq => ?_, Or.inl (by rw [o7 5 (by decide), e8]), by rw [o7 6 (by decide)]; exact e9⟩
      · unfold fX2_goFrom_177 fX2_goFrom_179
        rw [show ((3 : Int32)).toNatClampNeg = 3 from rfl]
        by_cases es : 0 < hmN (z.1.1 k) 1 n 0
        · rw [if_pos es] at hs0
          rw [h7, hs0, if_neg (by decide), gi_eq (by decide), bw_eq]
          rfl
        · rw [if_neg es] at hs0
          rw [h7, hs0, if_pos rfl, gi_eq (by decide), bw_eq]
          rfl
      · rw [h7, wr_same, wr_same]
        dsimp only
        unfold upd
        rw [e7 1 (by decide), if_neg (show ¬ (3 : Nat) = 1 by decide), e7 3 (by decide), hs0]
        by_cases c3 : q = 3
        · rw [if_pos c3, if_neg (show ¬ q = 1 by omega), if_pos c3]
        · rw [if_neg c3]
          by_cases c1 : q = 1
          · rw [if_pos c1, if_pos c1]
          · rw [if_neg c1, if_neg c1, if_neg c3, e7 q hq]
    · rw [if_neg eg, if_neg eg, if_neg (by decide)]
      exact ⟨u6, rfl, q1, e1, e2, e3, e4, e5, e6, e7, Or.inl e8, e9⟩
  by_cases e : 0 < hmN (z.1.1 k) 1 n 0
  · rw [if_neg (nI_nle e (by omega))]
    exact main 1 (by rw [if_pos e])
  · rw [show hmN (z.1.1 k) 1 n 0 = 0 by omega, if_pos (show nI 0 ≤ (0 : Int32) from by decide)]
    exact main 0 (by rw [if_neg e])
end VI
