-- what the search goes by: tables of places, states alike
theorem pg : ∀ (N c : Nat) (loc : Nat → Nat), (∀ s, s < N → ∃ k, k < c ∧ loc k = s) → N ≤ c
  | 0, _, _, _ => Nat.zero_le _
  | N + 1, c, loc, h => by
    obtain ⟨k0, hk0, e0⟩ := h N (by omega)
    have := pg N (c - 1) (fun k => if k < k0 then loc k else loc (k + 1)) (fun s hs => by
      obtain ⟨k, hk, e⟩ := h s (by omega)
      have ne : k ≠ k0 := fun q => by subst q; omega
      by_cases q : k < k0
      · exact ⟨k, by omega, by rw [if_pos q]; exact e⟩
      · exact ⟨k - 1, by omega, by rw [if_neg (by omega), show k - 1 + 1 = k by omega]; exact e⟩)
    omega
def PT (tab : Nat → Nat) (c : Nat) (hs : Nat → Nat) : Prop := (∀ s, s < 1024 → tab s ≤ c) ∧ ∃ loc : Nat → Nat, (∀ s, s < 1024 → 0 < tab s → loc (tab s - 1) = s) ∧ ∀ k, k < c → hs k < 1024 ∧ ∃ d, d < 1024 ∧ tab ((hs k + d) % 1024) = k + 1 ∧ ∀ e, e < d → 0 < tab ((hs k + e) % 1024)
theorem PT_none : PT (fun _ => 0) 0 (fun _ => 0) := ⟨fun _ _ => Nat.le_refl _, fun _ => 0, fun _ _ h => (by cases h), fun k hk => by cases hk⟩
theorem PT_zero {tab : Nat → Nat} {c : Nat} {hs : Nat → Nat} (h : PT tab c hs) (hc : c ≤ 300) (a : Nat) : ∃ d, d < 1024 ∧ tab ((a + d) % 1024) = 0 ∧ ∀ e, e < d → 0 < tab ((a + e) % 1024) := by
  obtain ⟨h1, loc, h2, h3⟩ := h
  have ex : ∃ d, d < 1024 ∧ tab ((a + d) % 1024) = 0 := by
    refine Decidable.by_contra (fun hn => ?_)
    have : 1024 ≤ c := pg 1024 c loc (fun s hs => by
      have e : (a + (s + 1024 - a % 1024) % 1024) % 1024 = s := by omega
      have hp : 0 < tab s := by
        rcases Nat.eq_zero_or_pos (tab s) with q | q
        · exact (hn ⟨(s + 1024 - a % 1024) % 1024, Nat.mod_lt _ (by decide), by rw [e]; exact q⟩).elim
        · exact q
      exact ⟨tab s - 1, by have := h1 s hs; omega, h2 s hs hp⟩)
    omega
  obtain ⟨d, ⟨hd, hz⟩, hl⟩ := pk_least (fun d => d < 1024 ∧ tab ((a + d) % 1024) = 0) ex
  refine ⟨d, hd, hz, fun e he => ?_⟩
  rcases Nat.eq_zero_or_pos (tab ((a + e) % 1024)) with q | q
  · exact (hl e he ⟨by omega, q⟩).elim
  · exact q
theorem PT_new {tab : Nat → Nat} {c : Nat} {hs : Nat → Nat} (h : PT tab c hs) {a d : Nat} (ha : a < 1024) (hd : d < 1024) (hz : tab ((a + d) % 1024) = 0) (hl : ∀ e, e < d → 0 < tab ((a + e) % 1024)) : PT (fun s => if s = (a + d) % 1024 then c + 1 else tab s) (c + 1) (fun k => if k = c then a else hs k) := by
  obtain ⟨h1, loc, h2, h3⟩ := h
  refine ⟨fun s hs => ?_, fun k => if k = c then (a + d) % 1024 else loc k, fun s hs hp => ?_, fun k hk => ?_⟩
  · dsimp only
    have := h1 s hs
    split <;> omega
  · dsimp only at hp ⊢
    by_cases e : s = (a + d) % 1024
    · rw [if_pos e, if_pos (by omega)]; exact e.symm
    · rw [if_neg e] at hp ⊢
      have := h1 s hs
      rw [if_neg (by omega)]
      exact h2 s hs hp
  · dsimp only
    by_cases e : k = c
    · subst e
      rw [if_pos rfl]
      refine ⟨ha, d, hd, by rw [if_pos rfl], fun e he => ?_⟩
      have := hl e he
      split <;> omega
    · rw [if_neg e]
      obtain ⟨g1, d', g2, g3, g4⟩ := h3 k (by omega)
      refine ⟨g1, d', g2, ?_, fun e he => ?_⟩
      · rw [if_neg (fun q => by rw [q, hz] at g3; omega)]; exact g3
      · have := g4 e he
        split <;> omega
theorem PT_hit {tab : Nat → Nat} {c : Nat} {hs : Nat → Nat} (h : PT tab c hs) {k d : Nat} (hk : k < c) (hz : tab ((hs k + d) % 1024) = 0) : ∃ e, e < d ∧ tab ((hs k + e) % 1024) = k + 1 := by
  obtain ⟨h1, loc, h2, h3⟩ := h
  obtain ⟨g1, d', g2, g3, g4⟩ := h3 k hk
  refine ⟨d', ?_, g3⟩
  rcases Nat.lt_or_ge d' d with q | q
  · exact q
  · rcases Nat.lt_or_eq_of_le q with q | q
    · have := g4 d q; omega
    · rw [q, g3] at hz; omega
/-- alike, as far as goes -/
def LK (w : Nat) (x y : XS) : Prop := (∀ f i, okM w f = true → i < 6 → fd x f i = fd y f i) ∧ fd x 5 6 = fd y 5 6 ∧ (∀ i, i ≤ 6 → qu x i = qu y i) ∧ ∀ q, q < 36 → lt x q = lt y q
theorem isL_same {r1 r2 : Nat → Int32} {b m : Nat} {l : List Nat} (h1 : isL r1 b m l) (h2 : isL r2 b m l) : ∀ q, b ≤ q → q ≤ b + m → r1 q = r2 q := fun q q1 q2 => by
  by_cases e : q = b
  · rw [e, h1.1, h2.1]
  · have a := h1.2.2 (q - b - 1) (by omega)
    have c := h2.2.2 (q - b - 1) (by omega)
    rw [show b + 1 + (q - b - 1) = q by omega] at a c
    rw [a, c]
theorem isM_same {r1 r2 : Nat → Int32} {b : Nat} {l : List (Nat × Nat)} (h1 : isM r1 b l) (h2 : isM r2 b l) : ∀ q, b ≤ q → q < b + 25 → r1 q = r2 q := fun q q1 q2 => by
  by_cases e : q = b
  · rw [e, h1.1, h2.1]
  · have a := h1.2.2 ((q - b - 1) / 2) (by omega)
    have c := h2.2.2 ((q - b - 1) / 2) (by omega)
    by_cases p : (q - b - 1) % 2 = 0
    · rw [show b + 1 + 2 * ((q - b - 1) / 2) = q by omega] at a c
      rw [a.1, c.1]
    · rw [show b + 2 + 2 * ((q - b - 1) / 2) = q by omega] at a c
      rw [a.2, c.2]
theorem MC_same {w n : Nat} {x y : XS} {r1 r2 : Nat → Int32} (h1 : MC w n x r1) (h2 : MC w n y r2) (hw : w < 3) (h : LK w x y) : ∀ q, q < 1040 → r1 q = r2 q := by
  obtain ⟨a1, a2, a3, a4, a5, a6, a7⟩ := h1
  obtain ⟨b1, b2, b3, b4, b5, b6, b7⟩ := h2
  obtain ⟨l1, l2, l3, l4⟩ := h
  have F : ∀ f i, okM w f = true → i < 6 → r1 (lM f i) = r2 (lM f i) := fun f i hf hi => by rw [a1 f i hf hi, b1 f i hf hi, l1 f i hf hi]
  intro q hq
  by_cases c1 : q < 126
  · obtain ⟨i, f, hi, hf, rfl⟩ : ∃ i f, i < 6 ∧ f < 21 ∧ q = 21 * i + f := ⟨q / 21, q % 21, by omega, Nat.mod_lt _ (by decide), by omega⟩
    by_cases g1 : f < 7
    · rcases (show f = 0 ∨ f = 1 ∨ f = 2 ∨ f = 3 ∨ f = 4 ∨ f = 5 ∨ f = 6 by omega) with rfl | rfl | rfl | rfl | rfl | rfl | rfl
      · exact F 0 i rfl hi
      · exact F 1 i rfl hi
      · exact F 2 i rfl hi
      · exact F 3 i rfl hi
      · exact F 4 i rfl hi
      · by_cases ew : w = 2
        · exact F 5 i (by subst ew; rfl) hi
        · rw [a2 ew i hi, b2 ew i hi]
      · exact F 6 i rfl hi
    · by_cases g2 : f < 14
      · have a := a6 i hi
        rw [l3 i (by omega)] at a
        exact isL_same a (b6 i hi) _ (by omega) (by omega)
      · by_cases g3 : f = 20
        · subst g3
          rw [a3 i hi, b3 i hi]
        · have := F (20 + i) (f - 14) (by unfold okM; simp; omega) (by omega)
          rw [lM, if_pos (by omega), Nat.add_sub_cancel_left, show 21 * i + 14 + (f - 14) = 21 * i + f by omega] at this
          exact this
  · by_cases c2 : q = 126
    · rw [c2, a4, b4, l2]
    · by_cases c3 : q < 133
      · have := F 9 (q - 127) rfl (by omega)
        rw [show lM 9 (q - 127) = q from by show 127 + (q - 127) = q; omega] at this
        exact this
      · by_cases c4 : q < 140
        · rw [l3 6 (by omega)] at a5
          exact isL_same a5 b5 q (by omega) (by omega)
        · have a := a7 ((q - 140) / 25) (by omega)
          rw [l4 _ (by omega)] at a
          exact isM_same a (b7 _ (by omega)) q (by omega) (by omega)
theorem CC_same {x y : XS} {r1 r2 : Nat → Int32} (h1 : CC x r1) (h2 : CC y r2) (h : ∀ f i, okC f = true → i < 6 → fd x f i = fd y f i) (l2 : fd x 5 6 = fd y 5 6) (l3 : ∀ i, i ≤ 6 → qu x i = qu y i) (l4 : ∀ q, q < 36 → lt x q = lt y q) : ∀ q, q < 608 → r1 q = r2 q := by
  obtain ⟨a1, a2, a3, a4, a5⟩ := h1
  obtain ⟨b1, b2, b3, b4, b5⟩ := h2
  have F : ∀ f i, okC f = true → i < 6 → r1 (lC f + i) = r2 (lC f + i) := fun f i hf hi => by rw [a1 f i hf hi, b1 f i hf hi, h f i hf hi]
  have G : ∀ f, okC f = true → ∀ q, lC f ≤ q → q < lC f + 6 → r1 q = r2 q := fun f hf q q1 q2 => by
    have := F f (q - lC f) hf (by omega)
    rw [show lC f + (q - lC f) = q by omega] at this
    exact this
  intro q hq
  by_cases c0 : q < 6
  · exact G 0 rfl q (Nat.zero_le _) c0
  · by_cases c1 : q < 12
    · exact G 1 rfl q (show 6 ≤ q by omega) c1
    · by_cases c2 : q < 18
      · exact G 2 rfl q (show 12 ≤ q by omega) c2
      · by_cases c3 : q < 24
        · exact G 7 rfl q (show 18 ≤ q by omega) c3
        · by_cases c4 : q < 30
          · exact G 4 rfl q (show 24 ≤ q by omega) c4
          · by_cases c5 : q = 30
            · rw [c5, a2, b2, l2]
            · by_cases c6 : q < 37
              · exact G 9 rfl q (show 31 ≤ q by omega) c6
              · by_cases c7 : q < 44
                · rw [l3 6 (by omega)] at a3
                  exact isL_same a3 b3 q (by omega) (by omega)
                · by_cases c8 : q < 80
                  · have := G (20 + (q - 44) / 6) (by unfold okC; simp; omega) q
                    rw [lC_kn] at this
                    exact this (by omega) (by omega)
                  · by_cases c9 : q < 86
                    · exact G 14 rfl q (show 80 ≤ q by omega) c9
                    · by_cases c10 : q < 92
                      · exact G 5 rfl q (show 86 ≤ q by omega) c10
                      · by_cases c11 : q < 98
                        · exact G 6 rfl q (show 92 ≤ q by omega) c11
                        · by_cases c12 : q < 140
                          · have a := a4 ((q - 98) / 7) (by omega)
                            rw [l3 _ (by omega)] at a
                            exact isL_same a (b4 _ (by omega)) q (by omega) (by omega)
                          · have a := a5 ((q - 140) / 13) (by omega)
                            rw [l4 _ (by omega)] at a
                            exact isL_same a (b5 _ (by omega)) q (by omega) (by omega)
