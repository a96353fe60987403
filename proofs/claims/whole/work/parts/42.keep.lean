-- the class's search: a state met
theorem C_isI {x : XS} {u : Wo} {n i k : Nat} (hc : CC x (u 6)) (hu : u 1 2 = nI n) (hn : n ≤ 6) (hi : i < n) (hk : k < 300) {kk : Int32 → Int32 → Wo → Re} : ∀ d f j, j + d = n → d < f → (fX2_isState_76 kk f (nI k) (nI i) (nI j) u = kk (nI k) (nI i) u ∧ ∀ b, j ≤ b → b < n → ∀ q, 140 + (i * 6 + b) * 13 ≤ q → q ≤ 140 + (i * 6 + b) * 13 + (lt x (i * 6 + b)).length → u 9 (k * 608 + q) = u 6 q) ∨ (fX2_isState_76 kk f (nI k) (nI i) (nI j) u = some (0, u) ∧ ∃ b q, b < n ∧ 140 + (i * 6 + b) * 13 ≤ q ∧ q ≤ 140 + (i * 6 + b) * 13 + (lt x (i * 6 + b)).length ∧ u 9 (k * 608 + q) ≠ u 6 q)
  | 0, f, j, hj, hf => by
    obtain ⟨f, rfl⟩ : ∃ z, f = z + 1 := ⟨f - 1, by omega⟩
    rw [fX2_isState_76.eq_2, hu, if_pos (nI_le (by omega) (by omega))]
    exact Or.inl ⟨rfl, fun b q1 q2 => by omega⟩
  | d + 1, f, j, hj, hf => by
    obtain ⟨f, rfl⟩ : ∃ z, f = z + 1 := ⟨f - 1, by omega⟩
    obtain ⟨l1, l2⟩ := CC_len hc (q := i * 6 + j) (by omega)
    rw [fX2_isState_76.eq_2, hu, if_neg (nI_ge (by omega) (by omega)), bd_eq (C_lettersOf u i j), bd_eq (C_underWay u (by omega) (by omega)), l1, show nI (140 + (i * 6 + j) * 13) + (1 : Int32) + nI (lt x (i * 6 + j)).length = nI (140 + (i * 6 + j) * 13 + 1 + (lt x (i * 6 + j)).length) from by rw [n1, nI_add, nI_add]]
    rcases C_lik u hk (a := 140 + (i * 6 + j) * 13) (b := 140 + (i * 6 + j) * 13 + 1 + (lt x (i * 6 + j)).length) (by omega) (by omega) with ⟨g1, g2⟩ | ⟨g1, q, q1, q2, q3⟩
    · rw [bd_eq g1, if_neg (by decide), nI_1]
      rcases C_isI hc hu hn hi hk (kk := kk) d f (j + 1) (by omega) (by omega) with ⟨p1, p2⟩ | ⟨p1, p2⟩
      · refine Or.inl ⟨p1, fun b b1 b2 q q1 q2 => ?_⟩
        by_cases z : b = j
        · subst z; exact g2 q q1 (by omega)
        · exact p2 b (by omega) b2 q q1 q2
      · exact Or.inr ⟨p1, p2⟩
    · rw [bd_eq g1, if_pos rfl]
      exact Or.inr ⟨rfl, j, q, by omega, q1, by omega, q3⟩
theorem C_isO {x : XS} {u : Wo} {n k : Nat} (hc : CC x (u 6)) (hu : u 1 2 = nI n) (hn : n ≤ 6) (hk : k < 300) : ∀ d f i, i + d = n → d < f → (fX2_isState_62 fX2_isState_135 f (nI k) (nI i) u = some (1, u) ∧ ∀ a, i ≤ a → a < n → ∀ b, b < n → ∀ q, 140 + (a * 6 + b) * 13 ≤ q → q ≤ 140 + (a * 6 + b) * 13 + (lt x (a * 6 + b)).length → u 9 (k * 608 + q) = u 6 q) ∨ (fX2_isState_62 fX2_isState_135 f (nI k) (nI i) u = some (0, u) ∧ ∃ a b q, a < n ∧ b < n ∧ 140 + (a * 6 + b) * 13 ≤ q ∧ q ≤ 140 + (a * 6 + b) * 13 + (lt x (a * 6 + b)).length ∧ u 9 (k * 608 + q) ≠ u 6 q)
  | 0, f, i, hj, hf => by
    obtain ⟨f, rfl⟩ : ∃ z, f = z + 1 := ⟨f - 1, by omega⟩
    rw [fX2_isState_62.eq_2, hu, if_pos (nI_le (by omega) (by omega))]
    exact Or.inl ⟨rfl, fun b q1 q2 => by omega⟩
  | d + 1, f, i, hj, hf => by
    obtain ⟨f, rfl⟩ : ∃ z, f = z + 1 := ⟨f - 1, by omega⟩
    have hF := FU_ge
    rw [fX2_isState_62.eq_2, hu, if_neg (nI_ge (by omega) (by omega)), n0]
    rcases C_isI hc hu hn (show i < n by omega) hk (kk := fX2_isState_129 (fX2_isState_62 fX2_isState_135 f)) n FU 0 (by omega) (by omega) with ⟨g1, g2⟩ | ⟨g1, b, q, g2⟩
    · rw [g1]
      unfold fX2_isState_129
      rw [nI_1]
      rcases C_isO hc hu hn hk d f (i + 1) (by omega) (by omega) with ⟨p1, p2⟩ | ⟨p1, p2⟩
      · refine Or.inl ⟨p1, fun a a1 a2 b b2 q q1 q2 => ?_⟩
        by_cases z : a = i
        · subst z; exact g2 b (Nat.zero_le _) b2 q q1 q2
        · exact p2 a (by omega) a2 b b2 q q1 q2
      · exact Or.inr ⟨p1, p2⟩
    · rw [g1]
      exact Or.inr ⟨rfl, i, b, q, by omega, g2⟩
theorem C_isS {w n : Nat} {x : XS} {u : Wo} {k : Nat} (hw : w < 3) (hc : CC x (u 6)) (hu1 : u 1 1 = nI w) (hu : u 1 2 = nI n) (hn : n ≤ 6) (hk : k < 300) (h : Int32) : (fX2_isState (nI k) h u = some (1, u) ∧ u 10 k = h ∧ PA w n x (fun q => u 9 (k * 608 + q)) (u 6)) ∨ (fX2_isState (nI k) h u = some (0, u) ∧ ¬ (u 10 k = h ∧ PA w n x (fun q => u 9 (k * 608 + q)) (u 6))) := by
  have hF := FU_ge
  have hwl := wfr_le w
  unfold fX2_isState
  rw [if_neg (nI_pos (by omega)), if_neg (show ¬ (300 : Int32) ≤ nI k from nI_ge (b := 300) hk (by decide)), gi_eq (inb_nI hk (by decide)), nI_clamp (by omega)]
  by_cases eh : u 10 k = h
  · rw [if_pos eh]
    rcases (show _ ∨ _ from C_lik u hk (a := 0) (b := 6) (by decide) (by decide)) with ⟨g1, g2⟩ | ⟨g1, q, q1, q2, q3⟩
    · rw [bd_eq (show fX2_isLike (nI k) (0 : Int32) (6 : Int32) u = some (1, u) from g1), if_neg (by decide), bd_eq (C_wfr hw hu1).1, bd_eq (C_wfr hw hu1).2]
      rcases C_lik u hk (a := wfr w) (b := wto w) hwl.1 (by omega) with ⟨p1, p2⟩ | ⟨p1, q, q1, q2, q3⟩
      · rw [bd_eq p1, if_neg (by decide), n0]
        rcases C_isO hc hu hn hk n FU 0 (by omega) (by omega) with ⟨r1, r2⟩ | ⟨r1, a, b, q, s1, s2, s3, s4, s5⟩
        · exact Or.inl ⟨r1, eh, fun q q1 => g2 q (Nat.zero_le _) q1, p2, fun i hi j hj => r2 i (Nat.zero_le _) hi j hj⟩
        · exact Or.inr ⟨r1, fun z => s5 (z.2.2.2 a s1 b s2 q s3 s4)⟩
      · rw [bd_eq p1, if_pos rfl]
        exact Or.inr ⟨rfl, fun z => q3 (z.2.2.1 q q1 q2)⟩
    · rw [bd_eq (show fX2_isLike (nI k) (0 : Int32) (6 : Int32) u = some (0, u) from g1), if_pos rfl]
      exact Or.inr ⟨rfl, fun z => q3 (z.2.1 q q2)⟩
  · rw [if_neg eh]
    exact Or.inr ⟨rfl, fun z => eh z.1⟩
/-- the search's store: states, how many, whether there was no room -/
abbrev SS : Type := (Nat → XS) × Nat × Int32
noncomputable def kp (w : Nat) (z : SS) (y : XS) : SS := @ite SS (∃ k, k < z.2.1 ∧ LK w (z.1 k) y) (Classical.propDecidable _) z (if z.2.1 < 300 then (fun k => if k = z.2.1 then y else z.1 k, z.2.1 + 1, z.2.2) else (z.1, z.2.1, 1))
theorem kp_old {w : Nat} {z : SS} {y : XS} (h : ∃ k, k < z.2.1 ∧ LK w (z.1 k) y) : kp w z y = z := if_pos h
theorem kp_new {w : Nat} {z : SS} {y : XS} (h : ¬ ∃ k, k < z.2.1 ∧ LK w (z.1 k) y) (hc : z.2.1 < 300) : kp w z y = (fun k => if k = z.2.1 then y else z.1 k, z.2.1 + 1, z.2.2) := by
  unfold kp
  rw [if_neg h, if_pos hc]
theorem kp_full {w : Nat} {z : SS} {y : XS} (h : ¬ ∃ k, k < z.2.1 ∧ LK w (z.1 k) y) (hc : ¬ z.2.1 < 300) : kp w z y = (z.1, z.2.1, 1) := by
  unfold kp
  rw [if_neg h, if_neg hc]
def hb (h : Int32) : Nat := h.toBitVec.toNat % 1024
/-- the class holds the search's store -/
def KT (w n : Nat) (z : SS) (u : Wo) : Prop := z.2.1 ≤ 300 ∧ u 5 7 = nI z.2.1 ∧ u 5 8 = z.2.2 ∧ (∀ k, k < z.2.1 → CC (z.1 k) (fun q => u 9 (k * 608 + q)) ∧ u 10 k = Hs w n (z.1 k) (fun q => u 9 (k * 608 + q))) ∧ ∃ tab, PT tab z.2.1 (fun k => hb (u 10 k)) ∧ ∀ s, s < 1024 → u 11 s = nI (tab s)
/-- what is true of the states of the search -/
def SI (w n B : Nat) (P : Nat → Nat) (z : SS) : Prop := ∀ k, k < z.2.1 → INV w n (B + k) (z.1 k) ∧ ∀ i, i < 6 → fd (z.1 k) 14 i = P i
theorem hb_and (h : Int32) : h &&& (1023 : Int32) = nI (hb h) := pk_and h 10 (by decide)
theorem hb_lt (h : Int32) : hb h < 1024 := Nat.mod_lt _ (by decide)
theorem nI_and1023 {s : Nat} (h : s < 1024) : (nI s + (1 : Int32)) &&& (1023 : Int32) = nI ((s + 1) % 1024) := by
  rw [n1, nI_add]
  exact pk_andN (by omega) 10 (by decide)
theorem C_copy9 {u : Wo} {c : Nat} (hc : c < 300) : fX3_copyTo_9 (nI c * (608 : Int32)) (608 : Int32) u = some (0, wcp u 6 0 9 (c * 608) 608) := by
  unfold fX3_copyTo_9
  rw [n608, nI_mul, if_neg (nI_pos (by omega)), if_neg (nI_pos (by omega)), n618, if_neg (nI_nlt (by omega) (by omega)), n182400, nI_sub (by omega), if_neg (nI_nlt (by omega) (by omega))]
  have hc : cpo (0 : Int32) (nI (c * 608)) (nI 608) 618 182400 = true := by
    simp only [cpo, Bool.and_eq_true, decide_eq_true_eq]
    exact ⟨by decide, nI_pos (by omega), nI_pos (by omega), by rw [nI_clamp (by omega)]; decide, by rw [nI_clamp (by omega), nI_clamp (by omega)]; omega⟩
  rw [gi_eq hc, bw_eq, nI_clamp (by omega), nI_clamp (by omega)]
  rfl
theorem C_load {u : Wo} {c : Nat} (hc : c < 300) : fX2_load (nI c) u = some (0, wcp u 9 (c * 608) 6 0 608) := by
  unfold fX2_load fX3_copyFrom_9
  rw [n608, nI_mul, if_neg (nI_pos (by omega)), if_neg (nI_pos (by omega)), n618, if_neg (nI_nlt (by omega) (by omega)), n182400, nI_sub (by omega), if_neg (nI_nlt (by omega) (by omega))]
  have hc : cpo (nI (c * 608)) (0 : Int32) (nI 608) 182400 618 = true := by
    simp only [cpo, Bool.and_eq_true, decide_eq_true_eq]
    exact ⟨nI_pos (by omega), by decide, nI_pos (by omega), by rw [nI_clamp (by omega), nI_clamp (by omega)]; omega, by rw [nI_clamp (by omega)]; decide⟩
  rw [gi_eq hc, bw_eq, nI_clamp (by omega), nI_clamp (by omega)]
  rfl
