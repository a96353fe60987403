-- the search: all acts of a state
noncomputable def goM (w : Nat) (x : XS) : Nat → Nat → ZS → ZS
  | 0, _, z => z
  | d + 1, p, z => goM w x d (p + 1) (if 0 < (lt x p).length then tr w (com w x (p / 6) (p % 6)) z else z)
noncomputable def goI (w : Nat) (x : XS) (i : Nat) : Nat → Nat → ZS → ZS
  | 0, _, z => z
  | d + 1, j, z => goI w x i d (j + 1) (if 0 < (lt x (i * 6 + j)).length then tr w (com w x i j) z else z)
noncomputable def goO (w : Nat) (x : XS) (n : Nat) : Nat → Nat → ZS → ZS
  | 0, _, z => z
  | d + 1, i, z => goO w x n d (i + 1) (goI w x i n 0 z)
noncomputable def lvO (w n : Nat) (x : XS) : Nat → Nat → ZS → ZS
  | 0, _, z => z
  | d + 1, i, z => lvO w n x d (i + 1) (if fd x 0 i = 2 then tr w (lef w n x i) z else z)
theorem goM_add (w : Nat) (x : XS) : ∀ a b p z, goM w x (a + b) p z = goM w x b (p + a) (goM w x a p z)
  | 0, b, p, z => by rw [Nat.zero_add]; rfl
  | a + 1, b, p, z => by
    rw [show a + 1 + b = (a + b) + 1 by omega]
    show goM w x (a + b) (p + 1) _ = _
    rw [goM_add w x a b (p + 1), show p + 1 + a = p + (a + 1) by omega]
    rfl
theorem goI_M (w : Nat) (x : XS) (i : Nat) : ∀ d j z, j + d ≤ 6 → goI w x i d j z = goM w x d (i * 6 + j) z
  | 0, _, _, _ => rfl
  | d + 1, j, z, h => by
    show goI w x i d (j + 1) _ = goM w x d (i * 6 + j + 1) _
    rw [goI_M w x i d (j + 1) _ (by omega), show (i * 6 + j) / 6 = i by omega, show (i * 6 + j) % 6 = j by omega]
    rfl
theorem goM_skip (w : Nat) (x : XS) : ∀ d p z, (∀ q, p ≤ q → q < p + d → lt x q = []) → goM w x d p z = z
  | 0, _, _, _ => rfl
  | d + 1, p, z, h => by
    show goM w x d (p + 1) _ = z
    rw [h p (Nat.le_refl _) (by omega), if_neg (by simp)]
    exact goM_skip w x d (p + 1) z (fun q q1 q2 => h q (by omega) (by omega))
theorem go_row {w n : Nat} {x : XS} (hn : n ≤ 6) (zz : ∀ a b, b < 6 → n ≤ a ∨ n ≤ b → lt x (a * 6 + b) = []) (i : Nat) (z : ZS) : goM w x 6 (i * 6) z = goI w x i n 0 z := by
  rw [goI_M w x i n 0 z (by omega), show goM w x 6 (i * 6) z = goM w x (n + (6 - n)) (i * 6) z from by rw [show n + (6 - n) = 6 by omega], goM_add]
  exact goM_skip w x _ _ _ (fun q q1 q2 => by
    have := zz i (q - i * 6) (by omega) (by omega)
    rw [show i * 6 + (q - i * 6) = q by omega] at this
    exact this)
theorem goO_M {w n : Nat} {x : XS} (hn : n ≤ 6) (zz : ∀ a b, b < 6 → n ≤ a ∨ n ≤ b → lt x (a * 6 + b) = []) : ∀ d i z, goO w x n d i z = goM w x (6 * d) (i * 6) z
  | 0, _, _ => rfl
  | d + 1, i, z => by
    show goO w x n d (i + 1) (goI w x i n 0 z) = _
    rw [goO_M hn zz d (i + 1), show 6 * (d + 1) = 6 + 6 * d by omega, goM_add, go_row hn zz i z, show i * 6 + 6 = (i + 1) * 6 by omega]
theorem go_all {w n : Nat} {x : XS} (hn : n ≤ 6) (zz : ∀ a b, b < 6 → n ≤ a ∨ n ≤ b → lt x (a * 6 + b) = []) (z : ZS) : goM w x 36 0 z = goO w x n n 0 z := by
  rw [goO_M hn zz n 0 z, show goM w x 36 0 z = goM w x (6 * n + (36 - 6 * n)) 0 z from by rw [show 6 * n + (36 - 6 * n) = 36 by omega], goM_add]
  exact goM_skip w x _ _ _ (fun q q1 q2 => by
    have := zz (q / 6) (q % 6) (by omega) (by omega)
    rw [show q / 6 * 6 + q % 6 = q by omega] at this
    exact this)
/-- what holds of the store while a state is gone from -/
def ZI (w n B : Nat) (P : Nat → Nat) (k : Nat) (x : XS) (z : ZS) : Prop := SI w n B P z.1 ∧ k < z.1.2.1 ∧ z.1.1 k = x
theorem ZI_tr {w n B : Nat} {P : Nat → Nat} {k : Nat} {x y : XS} {z : ZS} (h : ZI w n B P k x z) (hy : fd y 13 0 = 0 → INV w n (B + k + 1) y) (h14 : ∀ i, i < 6 → fd y 14 i = P i) : ZI w n B P k x (tr w y z) := by
  have hk := tr_keeps w y z
  refine ⟨?_, by have := h.2.1; omega, by rw [hk.2 k h.2.1]; exact h.2.2⟩
  unfold tr
  split
  · exact SI_kp h.1 h.2.1 (hy (by assumption)) h14
  · exact h.1
theorem ZI_com {w n B : Nat} {P : Nat → Nat} {k : Nat} {x : XS} {z : ZS} (hw : w < 3) (hn : n ≤ 6) (hB : 64 ≤ B) (h : ZI w n B P k x z) {i j : Nat} (hj : j < 6) (hl : 0 < (lt x (i * 6 + j)).length) : fd (com w x i j) 13 0 ≤ 1 ∧ (fd (com w x i j) 13 0 = 0 → INV w n (B + k + 1) (com w x i j)) ∧ (∀ i', i' < 6 → fd (com w x i j) 14 i' = P i') ∧ ZI w n B P k x (tr w (com w x i j) z) := by
  have hs := h.1 k h.2.1
  rw [h.2.2] at hs
  obtain ⟨f1, f2, f3⟩ := com_f hs.1 hw hn (by omega) hj hl
  have f4 : ∀ i', i' < 6 → fd (com w x i j) 14 i' = P i' := fun i' hi' => by rw [f2, hs.2 i' hi']
  exact ⟨f1, f3, f4, ZI_tr h f3 f4⟩
theorem ZI_lef {w n B : Nat} {P : Nat → Nat} {k : Nat} {x : XS} {z : ZS} (hw : w < 3) (hn : n ≤ 6) (hB : 64 ≤ B) (hB2 : B + k < 268435456) (h : ZI w n B P k x z) {i : Nat} (hi : i < n) (hm : fd x 0 i = 2) : fd (lef w n x i) 13 0 ≤ 1 ∧ (fd (lef w n x i) 13 0 = 0 → INV w n (B + k + 1) (lef w n x i)) ∧ (∀ i', i' < 6 → fd (lef w n x i) 14 i' = P i') ∧ ZI w n B P k x (tr w (lef w n x i) z) := by
  have hs := h.1 k h.2.1
  rw [h.2.2] at hs
  obtain ⟨f1, f2, f3⟩ := lef_f hs.1 hw hn (by omega) hB2 hi hm
  have f4 : ∀ i', i' < 6 → fd (lef w n x i) 14 i' = P i' := fun i' hi' => by rw [f2, hs.2 i' hi']
  exact ⟨f1, f3, f4, ZI_tr h f3 f4⟩
section GO
variable {U V : Wo} {w n B k : Nat} {P : Nat → Nat} {x : XS}
theorem C_goI (hw : w < 3) (hn : n ≤ 6) (hB0 : 64 ≤ B) (hB : B + 300 < 268435454) {i : Nat} (hi : i < n) {k93 : Int32 → Int32 → Int32 → Wo → Re} {s0 : Int32} : ∀ d f j z u, j + d = n → d < f → ZI w n B P k x z → KW U w n x z u → ∃ u1, ZI w n B P k x (goI w x i d j z) ∧ KW U w n x (goI w x i d j z) u1 ∧ fX2_goFrom_47 k93 f (nI k) s0 (nI i) (nI j) u = k93 (nI k) s0 (nI i) u1
  | 0, f, j, z, u, hj, hf, hZ, hW => by
    obtain ⟨f, rfl⟩ : ∃ q, f = q + 1 := ⟨f - 1, by omega⟩
    rw [fX2_goFrom_47.eq_2, hW.2.2.2.1, if_pos (nI_le (by omega) (by omega))]
    exact ⟨u, hZ, hW, rfl⟩
  | d + 1, f, j, z, u, hj, hf, hZ, hW => by
    obtain ⟨f, rfl⟩ : ∃ q, f = q + 1 := ⟨f - 1, by omega⟩
    have ih := C_goI hw hn hB0 hB hi (k93 := k93) (s0 := s0) d f (j + 1)
    have k300 : k < 300 := by have := hW.2.2.2.2.2.1.1; have := hZ.2.1; omega
    obtain ⟨l1, l2⟩ := CC_len hW.2.2.2.2.2.2.2.2 (q := i * 6 + j) (by omega)
    rw [fX2_goFrom_47.eq_2, hW.2.2.2.1, if_neg (nI_ge (by omega) (by omega)), bd_eq (C_underWay u (by omega) (by omega)), l1]
    unfold fX2_goFrom_87
    show ∃ u1, ZI w n B P k x (goI w x i d (j + 1) _) ∧ KW U w n x (goI w x i d (j + 1) _) u1 ∧ _
    by_cases e : 0 < (lt x (i * 6 + j)).length
    · rw [if_pos e, if_neg (nI_nle e (by omega))]
      obtain ⟨f1, f2, f3, f4⟩ := ZI_com hw hn hB0 hZ (i := i) (j := j) (by omega) e
      have hs := hZ.1 k hZ.2.1
      rw [hZ.2.2] at hs
      obtain ⟨r, u1, g1, g2, g3⟩ := C_comS hw hn (by omega) (by omega) hs.1 hW hi (show j < n by omega) e
      obtain ⟨u2, g4, g5⟩ := C_weighS (x := x) (B := B) (P := P) hw hn (by omega) hZ.1 hZ.2.1 hZ.2.2.symm f2 f3 f1 g3 g2
      rw [bd_eq g1, bd_eq g4, nI_1]
      exact ih _ u2 (by omega) (by omega) f4 g5
    · rw [if_neg e, show (lt x (i * 6 + j)).length = 0 by omega, if_pos (by decide), nI_1]
      exact ih z u (by omega) (by omega) hZ hW
theorem C_goO (hw : w < 3) (hn : n ≤ 6) (hB0 : 64 ≤ B) (hB : B + 300 < 268435454) {s0 : Int32} : ∀ d f i z u, i + d = n → d < f → ZI w n B P k x z → KW U w n x z u → ∃ u1, ZI w n B P k x (goO w x n d i z) ∧ KW U w n x (goO w x n d i z) u1 ∧ fX2_goFrom_33 fX2_goFrom_99 f (nI k) s0 (nI i) u = fX2_goFrom_99 (nI k) s0 u1
  | 0, f, i, z, u, hj, hf, hZ, hW => by
    obtain ⟨f, rfl⟩ : ∃ q, f = q + 1 := ⟨f - 1, by omega⟩
    rw [fX2_goFrom_33.eq_2, hW.2.2.2.1, if_pos (nI_le (by omega) (by omega))]
    exact ⟨u, hZ, hW, rfl⟩
  | d + 1, f, i, z, u, hj, hf, hZ, hW => by
    obtain ⟨f, rfl⟩ : ∃ q, f = q + 1 := ⟨f - 1, by omega⟩
    have hF := FU_ge
    rw [fX2_goFrom_33.eq_2, hW.2.2.2.1, if_neg (nI_ge (by omega) (by omega)), n0]
    obtain ⟨u1, a1, a2, a3⟩ := C_goI hw hn hB0 hB (show i < n by omega) (k93 := fX2_goFrom_93 (fX2_goFrom_33 fX2_goFrom_99 f)) (s0 := s0) n FU 0 z u (by omega) (by omega) hZ hW
    rw [a3]
    unfold fX2_goFrom_93
    rw [nI_1]
    exact C_goO hw hn hB0 hB d f (i + 1) _ u1 (by omega) (by omega) a1 a2
theorem C_lvO (hw : w < 3) (hn : n ≤ 6) (hB0 : 64 ≤ B) (hB : B + 300 < 268435454) {s0 : Int32} : ∀ d f i z u, i + d = n → d < f → ZI w n B P k x z → KW U w n x z u → ∃ u1, ZI w n B P k x (lvO w n x d i z) ∧ KW U w n x (lvO w n x d i z) u1 ∧ fX2_goFrom_101 fX2_goFrom_144 f (nI k) s0 (nI i) u = fX2_goFrom_144 s0 u1
  | 0, f, i, z, u, hj, hf, hZ, hW => by
    obtain ⟨f, rfl⟩ : ∃ q, f = q + 1 := ⟨f - 1, by omega⟩
    rw [fX2_goFrom_101.eq_2, hW.2.2.2.1, if_pos (nI_le (by omega) (by omega))]
    exact ⟨u, hZ, hW, rfl⟩
  | d + 1, f, i, z, u, hj, hf, hZ, hW => by
    obtain ⟨f, rfl⟩ : ∃ q, f = q + 1 := ⟨f - 1, by omega⟩
    have ih := C_lvO hw hn hB0 hB (s0 := s0) d f (i + 1)
    have k300 : k < 300 := by have := hW.2.2.2.2.2.1.1; have := hZ.2.1; omega
    have hs := hZ.1 k hZ.2.1
    rw [hZ.2.2] at hs
    have b0 : fd x 0 i ≤ B + k := hs.1.1.1 0 i
    rw [fX2_goFrom_101.eq_2, hW.2.2.2.1, if_neg (nI_ge (by omega) (by omega)), bd_eq (show fX3_of (nI i) (0 : Int32) u = some (nI (fd x 0 i), u) from CC_rd hW.2.2.2.2.2.2.2.2 (f := 0) rfl (by omega))]
    unfold fX2_goFrom_138
    show ∃ u1, ZI w n B P k x (lvO w n x d (i + 1) _) ∧ KW U w n x (lvO w n x d (i + 1) _) u1 ∧ _
    by_cases e : fd x 0 i = 2
    · rw [if_pos e, if_pos (show nI (fd x 0 i) = (2 : Int32) from by rw [e]; rfl)]
      obtain ⟨f1, f2, f3, f4⟩ := ZI_lef hw hn hB0 (by omega) hZ (show i < n by omega) e
      obtain ⟨r, u1, g1, g2, g3⟩ := C_lefS hw hn (by omega) (by omega) hs.1 hW (show i < n by omega)
      obtain ⟨u2, g4, g5⟩ := C_weighS (x := x) (B := B) (P := P) hw hn (by omega) hZ.1 hZ.2.1 hZ.2.2.symm f2 f3 f1 g3 g2
      rw [bd_eq g1, bd_eq g4, nI_1]
      exact ih _ u2 (by omega) (by omega) f4 g5
    · rw [if_neg e, if_neg (show ¬ nI (fd x 0 i) = (2 : Int32) from nI_ne (b := 2) (by omega) (by decide) e), nI_1]
      exact ih z u (by omega) (by omega) hZ hW
theorem M_goM (hw : w < 3) (hn : n ≤ 6) (hB0 : 64 ≤ B) (hB : B + 300 < 268435454) {s0 : Int32} : ∀ d f p z v, p + d = 36 → d < f → ZI w n B P k x z → (∃ y, MW V w n y z v) → ∃ v1, (goM w x d p z).2.2 ≤ z.2.2 + d ∧ ZI w n B P k x (goM w x d p z) ∧ (∃ y, MW V w n y (goM w x d p z) v1) ∧ fX6_visit_101 fX6_visit_159 f (nI k) s0 (nI z.2.2) (nI p) v = fX6_visit_159 (nI k) s0 (nI (goM w x d p z).2.2) v1
  | 0, f, p, z, v, hj, hf, hZ, hW => by
    obtain ⟨f, rfl⟩ : ∃ q, f = q + 1 := ⟨f - 1, by omega⟩
    rw [fX6_visit_101.eq_2, if_pos (show (36 : Int32) ≤ nI p from nI_le (a := 36) (by omega) (by omega))]
    exact ⟨v, Nat.le_refl _, hZ, hW, rfl⟩
  | d + 1, f, p, z, v, hj, hf, hZ, ⟨y0, hW⟩ => by
    obtain ⟨f, rfl⟩ : ∃ q, f = q + 1 := ⟨f - 1, by omega⟩
    have ih := M_goM hw hn hB0 hB (s0 := s0) d f (p + 1)
    have k300 : k < 300 := by have := hW.2.2.2.2.2.2.1.1; have := hZ.2.1; omega
    obtain ⟨v1, a1, a2, a3⟩ := M_loadS hZ.2.1 hW
    rw [hZ.2.2] at a2
    obtain ⟨l1, l2⟩ := MC_len a2.2.2.2.2.2.2.2.2 (q := p) (by omega)
    rw [fX6_visit_101.eq_2, if_neg (show ¬ (36 : Int32) ≤ nI p from nI_ge (b := 36) (by omega) (by decide)), bd_eq a1, show (140 : Int32) + (25 : Int32) * nI p = nI (140 + 25 * p) from by rw [n140, n25, nI_mul, nI_add], gi_eq (inb_nI (by omega) (by decide)), nI_clamp (by omega), l1]
    unfold fX6_visit_153
    show ∃ v1, (goM w x d (p + 1) _).2.2 ≤ _ ∧ ZI w n B P k x (goM w x d (p + 1) _) ∧ (∃ y, MW V w n y (goM w x d (p + 1) _) v1) ∧ _ = fX6_visit_159 (nI k) s0 (nI (goM w x d (p + 1) _).2.2) v1
    by_cases e : 0 < (lt x p).length
    · have ep : p / 6 * 6 + p % 6 = p := by omega
      have e2 : 0 < (lt x (p / 6 * 6 + p % 6)).length := by rw [ep]; exact e
      have hs := hZ.1 k hZ.2.1
      rw [hZ.2.2] at hs
      have hlt : p / 6 < n ∧ p % 6 < n := by
        refine Decidable.by_contra (fun q => ?_)
        have := ST_z hs.1.2.1 (p / 6) (p % 6) (by omega) (by omega)
        rw [this] at e2; cases e2
      obtain ⟨f1, f2, f3, f4⟩ := ZI_com hw hn hB0 hZ (i := p / 6) (j := p % 6) (by omega) e2
      obtain ⟨r, v2, g1, g2, g3⟩ := M_comS hw hn (by omega) (by omega) hs.1 a2 a3 hlt.1 hlt.2 e2
      obtain ⟨v3, g4, g5⟩ := M_goesS (B := B) (P := P) hw hn (by omega) hZ.1 hZ.2.1 f2 f1 g3 g2
      have d6 : nI p / (6 : Int32) = nI (p / 6) := by rw [n6, pk_div (by omega) (by decide) (by decide)]
      have r6 : nI p - nI (p / 6) * (6 : Int32) = nI (p % 6) := by rw [n6, nI_mul, nI_sub (by omega), show p - p / 6 * 6 = p % 6 by omega]
      rw [if_pos e, if_neg (nI_nle e (by omega)), d6, r6, bd_eq g1, bd_eq g4, nI_1]
      have eg : nI z.2.2 + (if fd (com w x (p / 6) (p % 6)) 13 0 = 0 then 1 else 0) = nI (tr w (com w x (p / 6) (p % 6)) z).2.2 ∧ (tr w (com w x (p / 6) (p % 6)) z).2.2 ≤ z.2.2 + 1 := by
        unfold tr
        by_cases c : fd (com w x (p / 6) (p % 6)) 13 0 = 0
        · rw [if_pos c, if_pos c, nI_1]; exact ⟨rfl, Nat.le_refl _⟩
        · rw [if_neg c, if_neg c, n0, nI_add, Nat.add_zero]; exact ⟨rfl, Nat.le_succ _⟩
      rw [eg.1]
      obtain ⟨v4, q1, q2⟩ := ih (tr w (com w x (p / 6) (p % 6)) z) v3 (by omega) (by omega) f4 ⟨_, g5⟩
      exact ⟨v4, by have := eg.2; omega, q2⟩
    · rw [if_neg e, show (lt x p).length = 0 by omega, if_pos (by decide), nI_1]
      obtain ⟨v4, q1, q2⟩ := ih z v1 (by omega) (by omega) hZ ⟨_, a2⟩
      exact ⟨v4, by omega, q2⟩
theorem M_lvO (hw : w < 3) (hn : n ≤ 6) (hB0 : 64 ≤ B) (hB : B + 300 < 268435454) {s0 : Int32} : ∀ d f i z v, i + d = n → d < f → ZI w n B P k x z → (∃ y, MW V w n y z v) → ∃ v1, (lvO w n x d i z).2.2 ≤ z.2.2 + d ∧ ZI w n B P k x (lvO w n x d i z) ∧ (∃ y, MW V w n y (lvO w n x d i z) v1) ∧ fX6_visit_162 fX6_visit_211 f (nI k) s0 (nI z.2.2) (nI i) v = fX6_visit_211 s0 (nI (lvO w n x d i z).2.2) v1
  | 0, f, i, z, v, hj, hf, hZ, ⟨y0, hW⟩ => by
    obtain ⟨f, rfl⟩ : ∃ q, f = q + 1 := ⟨f - 1, by omega⟩
    rw [fX6_visit_162.eq_2, hW.2.1 1 (by decide) (by decide) (by decide), hW.2.2.2.2.1, if_pos (nI_le (by omega) (by omega))]
    exact ⟨v, Nat.le_refl _, hZ, ⟨y0, hW⟩, rfl⟩
  | d + 1, f, i, z, v, hj, hf, hZ, ⟨y0, hW⟩ => by
    obtain ⟨f, rfl⟩ : ∃ q, f = q + 1 := ⟨f - 1, by omega⟩
    have ih := M_lvO hw hn hB0 hB (s0 := s0) d f (i + 1)
    have k300 : k < 300 := by have := hW.2.2.2.2.2.2.1.1; have := hZ.2.1; omega
    have hs := hZ.1 k hZ.2.1
    rw [hZ.2.2] at hs
    have b0 : fd x 0 i ≤ B + k := hs.1.1.1 0 i
    obtain ⟨v1, a1, a2, a3⟩ := M_loadS hZ.2.1 hW
    rw [hZ.2.2] at a2
    rw [fX6_visit_162.eq_2, hW.2.1 1 (by decide) (by decide) (by decide), hW.2.2.2.2.1, if_neg (nI_ge (by omega) (by omega)), bd_eq a1, show (21 : Int32) * nI i + (0 : Int32) = nI (21 * i) from by rw [n21, n0, nI_mul, nI_add, Nat.add_zero], gi_eq (inb_nI (by omega) (by decide)), nI_clamp (by omega), show v1 2 (21 * i) = nI (fd x 0 i) from a2.2.2.2.2.2.2.2.2.1 0 i rfl (by omega)]
    unfold fX6_visit_205
    show ∃ v1, (lvO w n x d (i + 1) _).2.2 ≤ _ ∧ ZI w n B P k x (lvO w n x d (i + 1) _) ∧ (∃ y, MW V w n y (lvO w n x d (i + 1) _) v1) ∧ _ = fX6_visit_211 s0 (nI (lvO w n x d (i + 1) _).2.2) v1
    by_cases e : fd x 0 i = 2
    · obtain ⟨f1, f2, f3, f4⟩ := ZI_lef hw hn hB0 (by omega) hZ (show i < n by omega) e
      obtain ⟨r, v2, g1, g2, g3⟩ := M_lefS hw hn (by omega) (by omega) hs.1 a2 a3 (show i < n by omega)
      obtain ⟨v3, g4, g5⟩ := M_goesS (B := B) (P := P) hw hn (by omega) hZ.1 hZ.2.1 f2 f1 g3 g2
      rw [if_pos e, if_pos (show nI (fd x 0 i) = (2 : Int32) from by rw [e]; rfl), bd_eq g1, bd_eq g4, nI_1]
      have eg : nI z.2.2 + (if fd (lef w n x i) 13 0 = 0 then 1 else 0) = nI (tr w (lef w n x i) z).2.2 ∧ (tr w (lef w n x i) z).2.2 ≤ z.2.2 + 1 := by
        unfold tr
        by_cases c : fd (lef w n x i) 13 0 = 0
        · rw [if_pos c, if_pos c, nI_1]; exact ⟨rfl, Nat.le_refl _⟩
        · rw [if_neg c, if_neg c, n0, nI_add, Nat.add_zero]; exact ⟨rfl, Nat.le_succ _⟩
      rw [eg.1]
      obtain ⟨v4, q1, q2⟩ := ih (tr w (lef w n x i) z) v3 (by omega) (by omega) f4 ⟨_, g5⟩
      exact ⟨v4, by have := eg.2; omega, q2⟩
    · rw [if_neg e, if_neg (show ¬ nI (fd x 0 i) = (2 : Int32) from nI_ne (b := 2) (by omega) (by decide) e), nI_1]
      obtain ⟨v4, q1, q2⟩ := ih z v1 (by omega) (by omega) hZ ⟨_, a2⟩
      exact ⟨v4, by omega, q2⟩
end GO
