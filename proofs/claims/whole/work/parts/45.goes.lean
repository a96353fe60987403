-- the search: what a state brings
abbrev ZS : Type := SS × (Nat → Int32) × Nat
noncomputable def tr (w : Nat) (y : XS) (z : ZS) : ZS := if fd y 13 0 = 0 then (kp w z.1 y, z.2.1, z.2.2 + 1) else (z.1, upd z.2.1 5 (z.2.1 5 + 1), z.2.2)
theorem kp_keeps (w : Nat) (z : SS) (y : XS) : z.2.1 ≤ (kp w z y).2.1 ∧ ∀ k, k < z.2.1 → (kp w z y).1 k = z.1 k := by
  by_cases h : ∃ k, k < z.2.1 ∧ LK w (z.1 k) y
  · rw [kp_old h]
    exact ⟨Nat.le_refl _, fun _ _ => rfl⟩
  · by_cases hc : z.2.1 < 300
    · rw [kp_new h hc]
      exact ⟨Nat.le_succ _, fun k hk => by dsimp only; rw [if_neg (by omega)]⟩
    · rw [kp_full h hc]
      exact ⟨Nat.le_refl _, fun _ _ => rfl⟩
theorem SI_kp {w n B : Nat} {P : Nat → Nat} {z : SS} (h : SI w n B P z) {y : XS} {k : Nat} (hk : k < z.2.1) (hy : INV w n (B + k + 1) y) (h14 : ∀ i, i < 6 → fd y 14 i = P i) : SI w n B P (kp w z y) := by
  by_cases e : ∃ k, k < z.2.1 ∧ LK w (z.1 k) y
  · rw [kp_old e]; exact h
  · by_cases hc : z.2.1 < 300
    · rw [kp_new e hc]
      intro q hq
      dsimp only at hq ⊢
      by_cases c : q = z.2.1
      · rw [if_pos c]
        exact ⟨⟨NB_mono hy.1 (by omega), hy.2⟩, h14⟩
      · rw [if_neg c]
        exact h q (by omega)
    · rw [kp_full e hc]
      exact h
theorem tr_keeps (w : Nat) (y : XS) (z : ZS) : z.1.2.1 ≤ (tr w y z).1.2.1 ∧ ∀ k, k < z.1.2.1 → (tr w y z).1.1 k = z.1.1 k := by
  unfold tr
  split
  · exact kp_keeps w z.1 y
  · exact ⟨Nat.le_refl _, fun _ _ => rfl⟩
def flg (g : Nat) : Int32 := if g = 0 then 0 else 1
/-- the class, at a state of the search -/
def KW (U : Wo) (w n : Nat) (x : XS) (z : ZS) (u : Wo) : Prop := (∀ c, c ≠ 1 → c ≠ 5 → c ≠ 6 → c ≠ 9 → c ≠ 10 → c ≠ 11 → c ≠ 13 → u c = U c) ∧ U 3 2 = 0 ∧ u 1 1 = nI w ∧ u 1 2 = nI n ∧ (∃ o : Nat, o ≤ 1 ∧ u 1 3 = nI o) ∧ KT w n z.1 u ∧ (∀ k, k < 7 → u 13 k = z.2.1 k) ∧ (u 5 9 = flg z.2.2 ∨ z.2.2 = 900) ∧ CC x (u 6)
/-- the reference, at a state of the search -/
def MW (V : Wo) (w n : Nat) (x : XS) (z : ZS) (v : Wo) : Prop := (∀ c, c ≠ 0 → c ≠ 2 → c ≠ 6 → c ≠ 7 → c ≠ 8 → v c = V c) ∧ (∀ k, k ≠ 5 → k ≠ 13 → k ≠ 17 → v 0 k = V 0 k) ∧ V 0 6 = 0 ∧ V 0 0 = nI w ∧ V 0 1 = nI n ∧ (∃ o : Nat, o ≤ 1 ∧ v 0 5 = nI o) ∧ MT w n z.1 v ∧ (∀ k, k < 7 → v 8 k = z.2.1 k) ∧ MC w n x (v 2)
theorem KT_eq {w n : Nat} {z : SS} {u v : Wo} (h : KT w n z u) (h7 : v 5 7 = u 5 7) (h8 : v 5 8 = u 5 8) (h9 : v 9 = u 9) (h10 : v 10 = u 10) (h11 : v 11 = u 11) : KT w n z v := by
  obtain ⟨a, b, c, d, e⟩ := h
  exact ⟨a, by rw [h7]; exact b, by rw [h8]; exact c, by rw [h9, h10]; exact d, by rw [h10, h11]; exact e⟩
theorem MT_eq {w n : Nat} {z : SS} {u v : Wo} (h : MT w n z u) (h13 : v 0 13 = u 0 13) (h17 : v 0 17 = u 0 17) (h6 : v 6 = u 6) (h7 : v 7 = u 7) : MT w n z v := by
  obtain ⟨a, b, c, d, e⟩ := h
  exact ⟨a, by rw [h13]; exact b, by rw [h17]; exact c, by rw [h6]; exact d, by rw [h6, h7]; exact e⟩
/-- behind an act: weighed, and back at the state -/
theorem C_weighS {U : Wo} {w n B : Nat} {P : Nat → Nat} {x y : XS} {z : ZS} {u : Wo} {k : Nat} (hw : w < 3) (hn : n ≤ 6) (hB : B + 300 < 268435456) (hS : SI w n B P z.1) (hk : k < z.1.2.1) (hx : x = z.1.1 k) (hy : fd y 13 0 = 0 → INV w n (B + k + 1) y) (h14 : ∀ i, i < 6 → fd y 14 i = P i) (ho : fd y 13 0 ≤ 1) (h3 : u 1 3 = nI (fd y 13 0)) (hW : KW U w n y z u) : ∃ u1, fX2_weigh (nI k) u = some (0, u1) ∧ KW U w n x (tr w y z) u1 := by
  obtain ⟨a1, a2, a3, a4, a5, a6, a7, a8, a9⟩ := hW
  have k300 := a6.1
  have back : ∀ (z' : ZS) (u2 : Wo), KW U w n y z' u2 → z.1.2.1 ≤ z'.1.2.1 → z'.1.1 k = z.1.1 k → ∃ u1, fX2_weigh_32 (nI k) u2 = some (0, u1) ∧ KW U w n x z' u1 := fun z' u2 h2 hle hz => by
    obtain ⟨b1, b2, b3, b4, b5, b6, b7, b8, b9⟩ := h2
    unfold fX2_weigh_32
    rw [bd_eq (C_load (show k < 300 by omega))]
    have o : ∀ c, c ≠ 6 → wcp u2 9 (k * 608) 6 0 608 c = u2 c := fun c q => wcp_ne _ q
    refine ⟨_, rfl, fun c c1 c5 c6 c9 c10 c11 c13 => by rw [o c c6]; exact b1 c c1 c5 c6 c9 c10 c11 c13, b2, by rw [o 1 (by decide)]; exact b3, by rw [o 1 (by decide)]; exact b4, by rw [o 1 (by decide)]; exact b5, KT_eq b6 (by rw [o 5 (by decide)]) (by rw [o 5 (by decide)]) (o 9 (by decide)) (o 10 (by decide)) (o 11 (by decide)), fun q hq => by rw [o 13 (by decide)]; exact b7 q hq, by rw [o 5 (by decide)]; exact b8, ?_⟩
    have := (b6.2.2.2.1 k (by omega)).1
    rw [hz, ← hx] at this
    exact CC_eq this (fun q hq => by rw [wcp_same, cpy_in (by omega) (by omega), Nat.sub_zero])
  unfold fX2_weigh
  rw [h3]
  by_cases e : fd y 13 0 = 0
  · rw [e, if_pos (show nI 0 = (0 : Int32) from rfl), bw_eq]
    have hi := hy e
    have w5 : ∀ c, c ≠ 5 → wr u 5 9 1 c = u c := fun c q => wr_ne _ _ _ q
    obtain ⟨u1, g1, g2, g3, g4⟩ := C_keepS (u := wr u 5 9 1) (z := z.1) (y := y) (P := P) hw hn hB (by rw [w5 6 (by decide)]; exact a9) (by rw [w5 1 (by decide)]; exact a3) (by rw [w5 1 (by decide)]; exact a4) (KT_eq a6 (by rw [wr_same, upd_ne _ _ (by decide)]) (by rw [wr_same, upd_ne _ _ (by decide)]) (w5 9 (by decide)) (w5 10 (by decide)) (w5 11 (by decide))) hS ⟨NB_mono hi.1 (by omega), hi.2⟩ h14
    rw [bd_eq g1]
    have kk := kp_keeps w z.1 y
    have et : tr w y z = (kp w z.1 y, z.2.1, z.2.2 + 1) := if_pos e
    rw [et]
    refine back (kp w z.1 y, z.2.1, z.2.2 + 1) u1 ⟨fun c c1 c5 c6 c9 c10 c11 c13 => by rw [g3 c c5 c9 c10 c11, w5 c c5]; exact a1 c c1 c5 c6 c9 c10 c11 c13, a2, by rw [g3 1 (by decide) (by decide) (by decide) (by decide), w5 1 (by decide)]; exact a3, by rw [g3 1 (by decide) (by decide) (by decide) (by decide), w5 1 (by decide)]; exact a4, by rw [g3 1 (by decide) (by decide) (by decide) (by decide), w5 1 (by decide)]; exact a5, g2, fun q hq => by rw [g3 13 (by decide) (by decide) (by decide) (by decide), w5 13 (by decide)]; exact a7 q hq, ?_, by rw [g3 6 (by decide) (by decide) (by decide) (by decide), w5 6 (by decide)]; exact a9⟩ kk.1 (kk.2 k hk)
    left
    rw [g4, wr_same, upd_same]
    rfl
  · have e1 : fd y 13 0 = 1 := by omega
    have w13 : ∀ c, c ≠ 13 → wr u 13 5 (z.2.1 5 + 1) c = u c := fun c q => wr_ne _ _ _ q
    rw [e1, if_neg (show ¬ nI 1 = (0 : Int32) from by decide), gi_eq (by decide), gi_eq (by decide), bw_eq, show ((5 : Int32)).toNatClampNeg = 5 from rfl, a7 5 (by decide)]
    have et : tr w y z = (z.1, upd z.2.1 5 (z.2.1 5 + 1), z.2.2) := if_neg e
    rw [et]
    refine back (z.1, upd z.2.1 5 (z.2.1 5 + 1), z.2.2) _ ⟨fun c c1 c5 c6 c9 c10 c11 c13 => by rw [w13 c c13]; exact a1 c c1 c5 c6 c9 c10 c11 c13, a2, by rw [w13 1 (by decide)]; exact a3, by rw [w13 1 (by decide)]; exact a4, by rw [w13 1 (by decide)]; exact a5, KT_eq a6 (by rw [w13 5 (by decide)]) (by rw [w13 5 (by decide)]) (w13 9 (by decide)) (w13 10 (by decide)) (w13 11 (by decide)), fun q hq => ?_, by rw [w13 5 (by decide)]; exact a8, by rw [w13 6 (by decide)]; exact a9⟩ (Nat.le_refl _) rfl
    rw [wr_same]
    dsimp only
    unfold upd
    by_cases c : q = 5
    · rw [if_pos c, if_pos c]
    · rw [if_neg c, if_neg c]; exact a7 q hq
