-- states alike: what the class compares
theorem PA_of {w n : Nat} {y : XS} {r1 r2 : Nat → Int32} (hw : w < 3) (hn : n ≤ 6) (hc : CC y r2) (h : ∀ q, q < 608 → r1 q = r2 q) : PA w n y r1 r2 := by
  refine ⟨fun q hq => h q (by omega), fun q _ q2 => h q ?_, fun i hi j hj q _ q2 => h q ?_⟩
  · unfold wto at q2
    split at q2
    · omega
    · split at q2 <;> omega
  · have := (CC_len hc (q := i * 6 + j) (by omega)).2
    omega
theorem PA_LK {w n B : Nat} {x y : XS} {r1 r2 : Nat → Int32} (hw : w < 3) (hn : n ≤ 6) (hB : B < 268435456) (hx : INV w n B x) (hy : INV w n B y) (h1 : CC x r1) (h2 : CC y r2) (h : PA w n y r1 r2) : LK w x y := by
  have wx := INV_WF hx hn hB
  have wy := INV_WF hy hn hB
  obtain ⟨p1, p2, p3⟩ := h
  have F : ∀ f i, okC f = true → i < 6 → r1 (lC f + i) = r2 (lC f + i) → fd x f i = fd y f i := fun f i hf hi e => by
    rw [h1.1 f i hf hi, h2.1 f i hf hi] at e
    have p := wx.1 f i
    have q := wy.1 f i
    exact nI_inj (by omega) (by omega) e
  have m0 : ∀ i, i < 6 → fd x 0 i = fd y 0 i := fun i hi => F 0 i rfl hi (p1 (0 + i) (by omega))
  have ll : ∀ q, q < 36 → lt x q = lt y q := fun q hq => by
    by_cases c : q / 6 < n ∧ q % 6 < n
    · have pp := p3 (q / 6) c.1 (q % 6) c.2
      rw [show q / 6 * 6 + q % 6 = q by omega] at pp
      obtain ⟨c1, c2⟩ := CC_len h1 hq
      obtain ⟨d1, d2⟩ := CC_len h2 hq
      have el : (lt x q).length = (lt y q).length := by
        have := pp (140 + q * 13) (Nat.le_refl _) (by omega)
        rw [c1, d1] at this
        exact nI_inj (by omega) (by omega) this
      refine pk_map _ _ (fun p hp => (wx.2.2.2.2.1 q p hp).1) (fun p hp => (wy.2.2.2.2.1 q p hp).1) ?_
      have hpk : ∀ z : XS, WF z → ∀ p ∈ (lt z q).map pk, p < 2 ^ 31 := fun z wz p hp => by
        obtain ⟨a, ha, rfl⟩ := List.mem_map.mp hp
        have := wz.2.2.2.2.1 q a ha
        unfold pk
        omega
      exact isL_inj (h1.2.2.2.2 q hq) (h2.2.2.2.2 q hq) (by decide) (hpk x wx) (hpk y wy) (fun z z1 z2 => pp z z1 (by rw [List.length_map] at z2; omega))
    · have hxz := ST_z hx.2.1 (q / 6) (q % 6) (by omega) (by omega)
      have hyz := ST_z hy.2.1 (q / 6) (q % 6) (by omega) (by omega)
      rw [show q / 6 * 6 + q % 6 = q by omega] at hxz hyz
      rw [hxz, hyz]
  obtain ⟨zx0, zx1, zx2⟩ := hx.2.2.1
  obtain ⟨zy0, zy1, zy2⟩ := hy.2.2.1
  rcases (show w = 0 ∨ w = 1 ∨ w = 2 by omega) with rfl | rfl | rfl
  · have G : ∀ q, 6 ≤ q → q < 30 → r1 q = r2 q := p2
    have m7 : ∀ i, i < 6 → fd x 7 i = fd y 7 i := fun i hi => F 7 i rfl hi (G (18 + i) (by omega) (by omega))
    have m3 := ia_miss hn (hx.2.2.2.1 rfl) (hy.2.2.2.1 rfl) m0 m7
    refine ⟨fun f i hf hi => ?_, by rw [(zx1 (by decide)).2.1, (zy1 (by decide)).2.1], fun i hi => ?_, ll⟩
    · rcases okM_c hf with q | q | q
      · rcases (show f = 0 ∨ f = 1 ∨ f = 2 ∨ f = 3 ∨ f = 4 ∨ f = 5 ∨ f = 6 by omega) with rfl | rfl | rfl | rfl | rfl | rfl | rfl
        · exact m0 i hi
        · exact F 1 i rfl hi (G (6 + i) (by omega) (by omega))
        · exact F 2 i rfl hi (G (12 + i) (by omega) (by omega))
        · exact m3 i hi
        · exact F 4 i rfl hi (G (24 + i) (by omega) (by omega))
        · exact absurd (q.2 rfl) (by decide)
        · rw [(zx2 (by decide) i hi).2.1, (zy2 (by decide) i hi).2.1]
      · subst q
        rw [((zx1 (by decide)).1 i hi).1, ((zy1 (by decide)).1 i hi).1]
      · obtain ⟨a, rfl⟩ : ∃ a, f = 20 + a := ⟨f - 20, by omega⟩
        rw [((zx1 (by decide)).1 a (by omega)).2 i hi, ((zy1 (by decide)).1 a (by omega)).2 i hi]
    · by_cases c : i = 6
      · subst c
        rw [(zx1 (by decide)).2.2, (zy1 (by decide)).2.2]
      · rw [(zx2 (by decide) i (by omega)).2.2, (zy2 (by decide) i (by omega)).2.2]
  · have G : ∀ q, 30 ≤ q → q < 80 → r1 q = r2 q := p2
    refine ⟨fun f i hf hi => ?_, ?_, fun i hi => ?_, ll⟩
    · rcases okM_c hf with q | q | q
      · rcases (show f = 0 ∨ f = 1 ∨ f = 2 ∨ f = 3 ∨ f = 4 ∨ f = 5 ∨ f = 6 by omega) with rfl | rfl | rfl | rfl | rfl | rfl | rfl
        · exact m0 i hi
        · rw [(zx0 (by decide) i hi).1, (zy0 (by decide) i hi).1]
        · rw [(zx0 (by decide) i hi).2.1, (zy0 (by decide) i hi).2.1]
        · rw [(zx0 (by decide) i hi).2.2.1, (zy0 (by decide) i hi).2.2.1]
        · rw [(zx0 (by decide) i hi).2.2.2.1, (zy0 (by decide) i hi).2.2.2.1]
        · exact absurd (q.2 rfl) (by decide)
        · rw [(zx2 (by decide) i hi).2.1, (zy2 (by decide) i hi).2.1]
      · subst q
        exact F 9 i rfl hi (G (31 + i) (by omega) (by omega))
      · obtain ⟨a, rfl⟩ : ∃ a, f = 20 + a := ⟨f - 20, by omega⟩
        refine F (20 + a) i (by unfold okC; simp; omega) hi ?_
        rw [lC_kn]
        exact G _ (by omega) (by omega)
    · have := G 30 (by decide) (by decide)
      rw [h1.2.1, h2.2.1] at this
      have p := hx.2.1.2.2.2.2.2
      have q := hy.2.1.2.2.2.2.2
      by_cases c : fd y 5 6 < 6
      · rw [show plC (fd y 5 6) = nI (fd y 5 6) from if_pos c] at this
        exact (plC_eq c).mp this
      · by_cases c2 : fd x 5 6 < 6
        · rw [show plC (fd x 5 6) = nI (fd x 5 6) from if_pos c2] at this
          exact ((plC_eq c2).mp this.symm).symm
        · omega
    · by_cases c : i = 6
      · subst c
        exact isL_inj h1.2.2.1 h2.2.2.1 (by decide) (fun q hq => by have := wx.2.2.2.1 6 q hq; omega) (fun q hq => by have := wy.2.2.2.1 6 q hq; omega) (fun q q1 q2 => G q (by omega) (by have := h1.2.2.1.2.1; omega))
      · rw [(zx2 (by decide) i (by omega)).2.2, (zy2 (by decide) i (by omega)).2.2]
  · have G : ∀ q, 80 ≤ q → q < 140 → r1 q = r2 q := p2
    refine ⟨fun f i hf hi => ?_, by rw [(zx1 (by decide)).2.1, (zy1 (by decide)).2.1], fun i hi => ?_, ll⟩
    · rcases okM_c hf with q | q | q
      · rcases (show f = 0 ∨ f = 1 ∨ f = 2 ∨ f = 3 ∨ f = 4 ∨ f = 5 ∨ f = 6 by omega) with rfl | rfl | rfl | rfl | rfl | rfl | rfl
        · exact m0 i hi
        · rw [(zx0 (by decide) i hi).1, (zy0 (by decide) i hi).1]
        · rw [(zx0 (by decide) i hi).2.1, (zy0 (by decide) i hi).2.1]
        · rw [(zx0 (by decide) i hi).2.2.1, (zy0 (by decide) i hi).2.2.1]
        · rw [(zx0 (by decide) i hi).2.2.2.1, (zy0 (by decide) i hi).2.2.2.1]
        · exact F 5 i rfl hi (G (86 + i) (by omega) (by omega))
        · exact F 6 i rfl hi (G (92 + i) (by omega) (by omega))
      · subst q
        rw [((zx1 (by decide)).1 i hi).1, ((zy1 (by decide)).1 i hi).1]
      · obtain ⟨a, rfl⟩ : ∃ a, f = 20 + a := ⟨f - 20, by omega⟩
        rw [((zx1 (by decide)).1 a (by omega)).2 i hi, ((zy1 (by decide)).1 a (by omega)).2 i hi]
    · by_cases c : i = 6
      · subst c
        rw [(zx1 (by decide)).2.2, (zy1 (by decide)).2.2]
      · have a := h1.2.2.2.1 i (by omega)
        exact isL_inj a (h2.2.2.2.1 i (by omega)) (by decide) (fun q hq => by have := wx.2.2.2.1 i q hq; omega) (fun q hq => by have := wy.2.2.2.1 i q hq; omega) (fun q q1 q2 => G q (by omega) (by have := a.2.1; omega))
