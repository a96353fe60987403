-- the search: is the token anywhere
def hP (l : List (Nat × Nat)) : Prop := ∃ k, k < l.length ∧ (l.getD k (0, 0)).1 = 2
def SWH (w n : Nat) (x : XS) : Prop := ∃ i, i < n ∧ (tk w x i = 1 ∨ ∃ j, j < n ∧ hP (lt x (i * 6 + j)))
theorem C_tbL {x : XS} {u : Wo} (hc : CC x (u 6)) (hwf : WF x) {i j : Nat} (hi : i < 6) (hj : j < 6) : ∀ d f a, a + d = (lt x (i * 6 + j)).length → d < f → (fX3_tokenBetween_10 fX3_tokenBetween_46 f (nI i) (nI j) (nI (lt x (i * 6 + j)).length) (nI a) u = some (1, u) ∧ hP (lt x (i * 6 + j))) ∨ (fX3_tokenBetween_10 fX3_tokenBetween_46 f (nI i) (nI j) (nI (lt x (i * 6 + j)).length) (nI a) u = some (0, u) ∧ ∀ k, a ≤ k → k < (lt x (i * 6 + j)).length → ((lt x (i * 6 + j)).getD k (0, 0)).1 ≠ 2)
  | 0, f, a, hd, hf => by
    obtain ⟨f, rfl⟩ : ∃ q, f = q + 1 := ⟨f - 1, by omega⟩
    have l2 := (CC_len hc (q := i * 6 + j) (by omega)).2
    rw [fX3_tokenBetween_10.eq_2, if_pos (nI_le (by omega) (by omega))]
    exact Or.inr ⟨rfl, fun k k1 k2 => by omega⟩
  | d + 1, f, a, hd, hf => by
    obtain ⟨f, rfl⟩ : ∃ q, f = q + 1 := ⟨f - 1, by omega⟩
    have l2 := (CC_len hc (q := i * 6 + j) (by omega)).2
    have hl := hc.2.2.2.2 (i * 6 + j) (by omega)
    have hmem := gD_memP (lt x (i * 6 + j)) a (by omega)
    have hk3 := (hwf.2.2.2.2.1 _ _ hmem).1
    have e1 : u 6 (140 + (i * 6 + j) * 13 + 1 + a) = nI (pk ((lt x (i * 6 + j)).getD a (0, 0))) := by
      rw [hl.2.2 a (by omega), gD_map _ _ (by omega)]
    rw [fX3_tokenBetween_10.eq_2, if_neg (nI_ge (by omega) (by omega)), if_neg (show ¬ (12 : Int32) ≤ nI a from nI_ge (b := 12) (by omega) (by decide)), bd_eq (C_letterAt u hi hj (by omega)), e1, bd_eq (show fX3_kindOf (nI (pk ((lt x (i * 6 + j)).getD a (0, 0)))) u = some (nI ((lt x (i * 6 + j)).getD a (0, 0)).1, u) from C_kindOf u (kd := ((lt x (i * 6 + j)).getD a (0, 0)).1) (nm := ((lt x (i * 6 + j)).getD a (0, 0)).2) hk3)]
    by_cases e : ((lt x (i * 6 + j)).getD a (0, 0)).1 = 2
    · rw [e, if_pos (show nI 2 = (2 : Int32) from rfl)]
      exact Or.inl ⟨rfl, a, by omega, e⟩
    · rw [if_neg (show ¬ nI ((lt x (i * 6 + j)).getD a (0, 0)).1 = (2 : Int32) from nI_ne (b := 2) (by omega) (by decide) e), nI_1]
      rcases C_tbL hc hwf hi hj d f (a + 1) (by omega) (by omega) with g | ⟨g1, g2⟩
      · exact Or.inl g
      · refine Or.inr ⟨g1, fun k k1 k2 => ?_⟩
        by_cases z : k = a
        · rw [z]; exact e
        · exact g2 k (by omega) k2
theorem C_tb {x : XS} {u : Wo} (hc : CC x (u 6)) (hwf : WF x) {i j : Nat} (hi : i < 6) (hj : j < 6) : (fX3_tokenBetween (nI i) (nI j) u = some (1, u) ∧ hP (lt x (i * 6 + j))) ∨ (fX3_tokenBetween (nI i) (nI j) u = some (0, u) ∧ ¬ hP (lt x (i * 6 + j))) := by
  have hF := FU_ge
  obtain ⟨l1, l2⟩ := CC_len hc (q := i * 6 + j) (by omega)
  unfold fX3_tokenBetween
  rw [bd_eq (C_underWay u hi hj), l1, n0]
  rcases C_tbL hc hwf hi hj (lt x (i * 6 + j)).length FU 0 (by omega) (by omega) with g | ⟨g1, g2⟩
  · exact Or.inl g
  · exact Or.inr ⟨g1, fun ⟨k, k1, k2⟩ => g2 k (Nat.zero_le _) k1 k2⟩
theorem C_tlI {x : XS} {u : Wo} {n i : Nat} (hc : CC x (u 6)) (hwf : WF x) (hu : u 1 2 = nI n) (hn : n ≤ 6) (hi : i < n) {kk : Int32 → Wo → Re} : ∀ d f j, j + d = n → d < f → (fX3_tokenIsLost_22 kk f (nI i) (nI j) u = some (0, u) ∧ ∃ b, b < n ∧ hP (lt x (i * 6 + b))) ∨ (fX3_tokenIsLost_22 kk f (nI i) (nI j) u = kk (nI i) u ∧ ∀ b, j ≤ b → b < n → ¬ hP (lt x (i * 6 + b)))
  | 0, f, j, hd, hf => by
    obtain ⟨f, rfl⟩ : ∃ q, f = q + 1 := ⟨f - 1, by omega⟩
    rw [fX3_tokenIsLost_22.eq_2, hu, if_pos (nI_le (by omega) (by omega))]
    exact Or.inr ⟨rfl, fun k k1 k2 => by omega⟩
  | d + 1, f, j, hd, hf => by
    obtain ⟨f, rfl⟩ : ∃ q, f = q + 1 := ⟨f - 1, by omega⟩
    rw [fX3_tokenIsLost_22.eq_2, hu, if_neg (nI_ge (by omega) (by omega))]
    rcases C_tb hc hwf (i := i) (j := j) (by omega) (by omega) with ⟨g1, g2⟩ | ⟨g1, g2⟩
    · rw [bd_eq g1, if_neg (by decide)]
      exact Or.inl ⟨rfl, j, by omega, g2⟩
    · rw [bd_eq g1, if_pos rfl, nI_1]
      rcases C_tlI hc hwf hu hn hi (kk := kk) d f (j + 1) (by omega) (by omega) with p | ⟨p1, p2⟩
      · exact Or.inl p
      · refine Or.inr ⟨p1, fun k k1 k2 => ?_⟩
        by_cases z : k = j
        · rw [z]; exact g2
        · exact p2 k (by omega) k2
theorem C_tlO {w : Nat} {x : XS} {u : Wo} {n : Nat} (hw : w < 3) (hc : CC x (u 6)) (hwf : WF x) (hu1 : u 1 1 = nI w) (hu : u 1 2 = nI n) (hn : n ≤ 6) : ∀ d f i, i + d = n → d < f → (fX3_tokenIsLost_2 fX3_tokenIsLost_53 f (nI i) u = some (0, u) ∧ SWH w n x) ∨ (fX3_tokenIsLost_2 fX3_tokenIsLost_53 f (nI i) u = fX3_tokenIsLost_53 u ∧ ∀ a, i ≤ a → a < n → ¬ (tk w x a = 1 ∨ ∃ j, j < n ∧ hP (lt x (a * 6 + j))))
  | 0, f, i, hd, hf => by
    obtain ⟨f, rfl⟩ : ∃ q, f = q + 1 := ⟨f - 1, by omega⟩
    rw [fX3_tokenIsLost_2.eq_2, hu, if_pos (nI_le (by omega) (by omega))]
    exact Or.inr ⟨rfl, fun k k1 k2 => by omega⟩
  | d + 1, f, i, hd, hf => by
    obtain ⟨f, rfl⟩ : ∃ q, f = q + 1 := ⟨f - 1, by omega⟩
    have hF := FU_ge
    have hb := hwf.1 5 i
    rw [fX3_tokenIsLost_2.eq_2, hu, if_neg (nI_ge (by omega) (by omega)), bd_eq (C_tk hw hc hu1 (show i < 6 by omega) (by omega))]
    rcases tk_01 w x i with e | e
    · rw [e, if_pos rfl, n0]
      rcases C_tlI hc hwf hu hn (show i < n by omega) (kk := fX3_tokenIsLost_47 (fX3_tokenIsLost_2 fX3_tokenIsLost_53 f)) n FU 0 (by omega) (by omega) with ⟨g1, b, g2, g3⟩ | ⟨g1, g2⟩
      · exact Or.inl ⟨g1, i, by omega, Or.inr ⟨b, g2, g3⟩⟩
      · rw [g1]
        unfold fX3_tokenIsLost_47
        rw [nI_1]
        rcases C_tlO hw hc hwf hu1 hu hn d f (i + 1) (by omega) (by omega) with p | ⟨p1, p2⟩
        · exact Or.inl p
        · refine Or.inr ⟨p1, fun a a1 a2 => ?_⟩
          by_cases z : a = i
          · rw [z, e]
            rintro (q | ⟨j, j1, j2⟩)
            · exact absurd q (by decide)
            · exact g2 j (Nat.zero_le _) j1 j2
          · exact p2 a (by omega) a2
    · rw [e, if_neg (by decide)]
      exact Or.inl ⟨rfl, i, by omega, Or.inl e⟩
/-- what the search adds for a lost token -/
noncomputable def tlv (w n : Nat) (x : XS) : Int32 := @ite Int32 (w ≠ 0 ∧ ¬ SWH w n x) (Classical.propDecidable _) 1 0
theorem tlv_1 {w n : Nat} {x : XS} (h : w ≠ 0 ∧ ¬ SWH w n x) : tlv w n x = 1 := if_pos h
theorem tlv_0 {w n : Nat} {x : XS} (h : ¬ (w ≠ 0 ∧ ¬ SWH w n x)) : tlv w n x = 0 := if_neg h
theorem C_tl {w : Nat} {x : XS} {u : Wo} {n : Nat} (hw : w < 3) (hc : CC x (u 6)) (hwf : WF x) (hu1 : u 1 1 = nI w) (hu : u 1 2 = nI n) (hn : n ≤ 6) : fX3_tokenIsLost u = some (tlv w n x, u) := by
  have hF := FU_ge
  unfold fX3_tokenIsLost
  rw [n0]
  rcases C_tlO hw hc hwf hu1 hu hn n FU 0 (by omega) (by omega) with ⟨g1, g2⟩ | ⟨g1, g2⟩
  · rw [g1, tlv_0 (fun q => q.2 g2)]
  · have hs : ¬ SWH w n x := fun ⟨a, a1, a2⟩ => g2 a (Nat.zero_le _) a1 a2
    rw [g1]
    unfold fX3_tokenIsLost_53
    rw [hu1]
    by_cases ew : w = 0
    · rw [tlv_0 (fun q => q.1 ew), if_pos (by rw [ew]; rfl)]; rfl
    · rw [tlv_1 ⟨ew, hs⟩, if_neg (nI_ne0 (by omega) (by omega))]; rfl
theorem M_ts0 {w n : Nat} {x : XS} {v : Wo} (hc : MC w n x (v 2)) (hwf : WF x) {i j : Nat} (hi : i < 6) (hj : j < 6) {k97 : Int32 → Int32 → Int32 → Wo → Re} : ∀ d f a (b : Int32), a + d = (lt x (i * 6 + j)).length → d < f → (b = 0 ∨ b = 1) → ∃ b' : Int32, (b' = 0 ∨ b' = 1) ∧ fX6_isTokenSomewhere_43 k97 f b (nI i) (nI j) (nI a) v = k97 b' (nI i) (nI j) v ∧ (b' = 1 ↔ b = 1 ∨ ∃ k, a ≤ k ∧ k < (lt x (i * 6 + j)).length ∧ ((lt x (i * 6 + j)).getD k (0, 0)).1 = 2)
  | 0, f, a, b, hd, hf, hb => by
    obtain ⟨f, rfl⟩ : ∃ q, f = q + 1 := ⟨f - 1, by omega⟩
    obtain ⟨l1, l2⟩ := MC_len hc (q := i * 6 + j) (by omega)
    rw [fX6_isTokenSomewhere_43.eq_2, bd_eq (M_pairAt v i j), gi_eq (inb_nI (by omega) (by decide)), nI_clamp (by omega), l1, if_pos (nI_le (by omega) (by omega))]
    exact ⟨b, hb, rfl, ⟨Or.inl, fun q => q.elim id (fun ⟨k, k1, k2, _⟩ => by omega)⟩⟩
  | d + 1, f, a, b, hd, hf, hb => by
    obtain ⟨f, rfl⟩ : ∃ q, f = q + 1 := ⟨f - 1, by omega⟩
    obtain ⟨l1, l2⟩ := MC_len hc (q := i * 6 + j) (by omega)
    have hl := hc.2.2.2.2.2.2 (i * 6 + j) (by omega)
    have hmem := gD_memP (lt x (i * 6 + j)) a (by omega)
    have hk3 := (hwf.2.2.2.2.1 _ _ hmem).1
    have ih := fun b hb => M_ts0 hc hwf hi hj (k97 := k97) d f (a + 1) b (by omega) (by omega) hb
    have fin : ∀ c : Int32, (c = 0 ∨ c = 1) → (c = 1 ↔ b = 1 ∨ ((lt x (i * 6 + j)).getD a (0, 0)).1 = 2) → ∃ b' : Int32, (b' = 0 ∨ b' = 1) ∧ fX6_isTokenSomewhere_43 k97 f c (nI i) (nI j) (nI (a + 1)) v = k97 b' (nI i) (nI j) v ∧ (b' = 1 ↔ b = 1 ∨ ∃ k, a ≤ k ∧ k < (lt x (i * 6 + j)).length ∧ ((lt x (i * 6 + j)).getD k (0, 0)).1 = 2) := fun c hc1 hc2 => by
      obtain ⟨b', g1, g2, g3⟩ := ih c hc1
      refine ⟨b', g1, g2, ⟨fun q => ?_, fun q => g3.mpr ?_⟩⟩
      · rcases g3.mp q with q | ⟨k, k1, k2, k3⟩
        · rcases hc2.mp q with q | q
          · exact Or.inl q
          · exact Or.inr ⟨a, Nat.le_refl _, by omega, q⟩
        · exact Or.inr ⟨k, by omega, k2, k3⟩
      · rcases q with q | ⟨k, k1, k2, k3⟩
        · exact Or.inl (hc2.mpr (Or.inl q))
        · by_cases z : k = a
          · exact Or.inl (hc2.mpr (Or.inr (by rw [← z]; exact k3)))
          · exact Or.inr ⟨k, by omega, k2, k3⟩
    rw [fX6_isTokenSomewhere_43.eq_2, bd_eq (M_pairAt v i j), gi_eq (inb_nI (by omega) (by decide)), nI_clamp (by omega), l1, if_neg (nI_ge (by omega) (by omega))]
    unfold fX6_isTokenSomewhere_85 fX6_isTokenSomewhere_90
    rcases hb with hb | hb
    · rw [if_pos hb, bd_eq (M_pairAt v i j), show nI (140 + 25 * (i * 6 + j)) + (1 : Int32) + (2 : Int32) * nI a = nI (140 + 25 * (i * 6 + j) + 1 + 2 * a) from by rw [n1, n2, nI_mul, nI_add, nI_add], gi_eq (inb_nI (by omega) (by decide)), nI_clamp (by omega), (hl.2.2 a (by omega)).1]
      by_cases e : ((lt x (i * 6 + j)).getD a (0, 0)).1 = 2
      · rw [if_pos (show nI ((lt x (i * 6 + j)).getD a (0, 0)).1 = (2 : Int32) from by rw [e]; rfl), nI_1]
        exact fin 1 (Or.inr rfl) ⟨fun _ => Or.inr e, fun _ => rfl⟩
      · rw [if_neg (show ¬ nI ((lt x (i * 6 + j)).getD a (0, 0)).1 = (2 : Int32) from nI_ne (b := 2) (by omega) (by decide) e), nI_1]
        exact fin 0 (Or.inl rfl) ⟨fun q => absurd q (by decide), fun q => q.elim (fun z => by rw [hb] at z; exact absurd z (by decide)) (fun z => (e z).elim)⟩
    · rw [if_neg (by rw [hb]; decide), nI_1]
      exact fin 1 (Or.inr rfl) ⟨fun _ => Or.inl hb, fun _ => rfl⟩
theorem M_ts1 {w n : Nat} {x : XS} {v : Wo} {i : Nat} (hc : MC w n x (v 2)) (hwf : WF x) (hv : v 0 1 = nI n) (hn : n ≤ 6) (hi : i < n) {k103 : Int32 → Int32 → Wo → Re} : ∀ d f j (b : Int32), j + d = n → d < f → (b = 0 ∨ b = 1) → ∃ b' : Int32, (b' = 0 ∨ b' = 1) ∧ fX6_isTokenSomewhere_32 k103 f b (nI i) (nI j) v = k103 b' (nI i) v ∧ (b' = 1 ↔ b = 1 ∨ ∃ a, j ≤ a ∧ a < n ∧ hP (lt x (i * 6 + a)))
  | 0, f, j, b, hd, hf, hb => by
    obtain ⟨f, rfl⟩ : ∃ q, f = q + 1 := ⟨f - 1, by omega⟩
    rw [fX6_isTokenSomewhere_32.eq_2, hv, if_pos (nI_le (by omega) (by omega))]
    exact ⟨b, hb, rfl, ⟨Or.inl, fun q => q.elim id (fun ⟨k, k1, k2, _⟩ => by omega)⟩⟩
  | d + 1, f, j, b, hd, hf, hb => by
    obtain ⟨f, rfl⟩ : ∃ q, f = q + 1 := ⟨f - 1, by omega⟩
    have hF := FU_ge
    have l2 := (MC_len hc (q := i * 6 + j) (by omega)).2
    rw [fX6_isTokenSomewhere_32.eq_2, hv, if_neg (nI_ge (by omega) (by omega)), n0]
    obtain ⟨c, c1, c2, c3⟩ := M_ts0 hc hwf (i := i) (j := j) (by omega) (by omega) (k97 := fX6_isTokenSomewhere_97 (fX6_isTokenSomewhere_32 k103 f)) (lt x (i * 6 + j)).length FU 0 b (by omega) (by omega) hb
    rw [c2]
    unfold fX6_isTokenSomewhere_97
    rw [nI_1]
    obtain ⟨b', g1, g2, g3⟩ := M_ts1 hc hwf hv hn hi (k103 := k103) d f (j + 1) c (by omega) (by omega) c1
    refine ⟨b', g1, g2, ⟨fun q => ?_, fun q => g3.mpr ?_⟩⟩
    · rcases g3.mp q with q | ⟨a, a1, a2, a3⟩
      · rcases c3.mp q with q | ⟨k, _, k2, k3⟩
        · exact Or.inl q
        · exact Or.inr ⟨j, Nat.le_refl _, by omega, k, k2, k3⟩
      · exact Or.inr ⟨a, by omega, a2, a3⟩
    · rcases q with q | ⟨a, a1, a2, a3⟩
      · exact Or.inl (c3.mpr (Or.inl q))
      · by_cases z : a = j
        · obtain ⟨k, k1, k2⟩ := a3
          rw [z] at k1 k2
          exact Or.inl (c3.mpr (Or.inr ⟨k, Nat.zero_le _, k1, k2⟩))
        · exact Or.inr ⟨a, by omega, a2, a3⟩
theorem M_ts2 {w n : Nat} {x : XS} {v : Wo} (hw : w < 3) (hc : MC w n x (v 2)) (hwf : WF x) (hv0 : v 0 0 = nI w) (hv : v 0 1 = nI n) (hn : n ≤ 6) : ∀ d f i (b : Int32), i + d = n → d < f → (b = 0 ∨ b = 1) → ∃ b' : Int32, (b' = 0 ∨ b' = 1) ∧ fX6_isTokenSomewhere_4 fX6_isTokenSomewhere_109 f b (nI i) v = fX6_isTokenSomewhere_109 b' v ∧ (b' = 1 ↔ b = 1 ∨ ∃ a, i ≤ a ∧ a < n ∧ (tk w x a = 1 ∨ ∃ j, j < n ∧ hP (lt x (a * 6 + j))))
  | 0, f, i, b, hd, hf, hb => by
    obtain ⟨f, rfl⟩ : ∃ q, f = q + 1 := ⟨f - 1, by omega⟩
    rw [fX6_isTokenSomewhere_4.eq_2, hv, if_pos (nI_le (by omega) (by omega))]
    exact ⟨b, hb, rfl, ⟨Or.inl, fun q => q.elim id (fun ⟨k, k1, k2, _⟩ => by omega)⟩⟩
  | d + 1, f, i, b, hd, hf, hb => by
    obtain ⟨f, rfl⟩ : ∃ q, f = q + 1 := ⟨f - 1, by omega⟩
    have hF := FU_ge
    have hb5 := hwf.1 5 i
    have fin : ∀ c : Int32, (c = 0 ∨ c = 1) → (c = 1 ↔ b = 1 ∨ tk w x i = 1) → ∃ b' : Int32, (b' = 0 ∨ b' = 1) ∧ fX6_isTokenSomewhere_32 (fX6_isTokenSomewhere_103 (fX6_isTokenSomewhere_4 fX6_isTokenSomewhere_109 f)) FU c (nI i) (0 : Int32) v = fX6_isTokenSomewhere_109 b' v ∧ (b' = 1 ↔ b = 1 ∨ ∃ a, i ≤ a ∧ a < n ∧ (tk w x a = 1 ∨ ∃ j, j < n ∧ hP (lt x (a * 6 + j)))) := fun c hc1 hc2 => by
      obtain ⟨c', c1, c2, c3⟩ := M_ts1 hc hwf hv hn (show i < n by omega) (k103 := fX6_isTokenSomewhere_103 (fX6_isTokenSomewhere_4 fX6_isTokenSomewhere_109 f)) n FU 0 c (by omega) (by omega) hc1
      rw [n0, c2]
      unfold fX6_isTokenSomewhere_103
      rw [nI_1]
      obtain ⟨b', g1, g2, g3⟩ := M_ts2 hw hc hwf hv0 hv hn d f (i + 1) c' (by omega) (by omega) c1
      refine ⟨b', g1, g2, ⟨fun q => ?_, fun q => g3.mpr ?_⟩⟩
      · rcases g3.mp q with q | ⟨a, a1, a2, a3⟩
        · rcases c3.mp q with q | ⟨k, _, k2, k3⟩
          · rcases hc2.mp q with q | q
            · exact Or.inl q
            · exact Or.inr ⟨i, Nat.le_refl _, by omega, Or.inl q⟩
          · exact Or.inr ⟨i, Nat.le_refl _, by omega, Or.inr ⟨k, k2, k3⟩⟩
        · exact Or.inr ⟨a, by omega, a2, a3⟩
      · rcases q with q | ⟨a, a1, a2, a3⟩
        · exact Or.inl (c3.mpr (Or.inl (hc2.mpr (Or.inl q))))
        · by_cases z : a = i
          · rw [z] at a3
            rcases a3 with a3 | ⟨j, j1, j2⟩
            · exact Or.inl (c3.mpr (Or.inl (hc2.mpr (Or.inr a3))))
            · exact Or.inl (c3.mpr (Or.inr ⟨j, Nat.zero_le _, j1, j2⟩))
          · exact Or.inr ⟨a, by omega, a2, a3⟩
    rw [fX6_isTokenSomewhere_4.eq_2, hv, if_neg (nI_ge (by omega) (by omega))]
    unfold fX6_isTokenSomewhere_24 fX6_isTokenSomewhere_29
    rcases hb with hb | hb
    · rw [if_pos hb, bd_eq (M_tk hw hc hv0 (show i < 6 by omega) (by omega))]
      rcases tk_01 w x i with e | e
      · rw [e, if_pos rfl]
        rw [e] at fin
        exact fin 0 (Or.inl rfl) ⟨fun q => absurd q (by decide), fun q => q.elim (fun z => by rw [hb] at z; exact absurd z (by decide)) (fun z => absurd z (by decide))⟩
      · rw [e, if_neg (by decide)]
        rw [e] at fin
        exact fin 1 (Or.inr rfl) ⟨fun _ => Or.inr rfl, fun _ => rfl⟩
    · rw [if_neg (by rw [hb]; decide)]
      exact fin 1 (Or.inr rfl) ⟨fun _ => Or.inl hb, fun _ => rfl⟩
theorem M_ts {w n : Nat} {x : XS} {v : Wo} (hw : w < 3) (hc : MC w n x (v 2)) (hwf : WF x) (hv0 : v 0 0 = nI w) (hv : v 0 1 = nI n) (hn : n ≤ 6) : ∃ b' : Int32, (b' = 0 ∨ b' = 1) ∧ fX6_isTokenSomewhere v = some (b', v) ∧ (b' = 1 ↔ SWH w n x) := by
  have hF := FU_ge
  obtain ⟨b', g1, g2, g3⟩ := M_ts2 hw hc hwf hv0 hv hn n FU 0 0 (by omega) (by omega) (Or.inl rfl)
  refine ⟨b', g1, ?_, ⟨fun q => ?_, fun ⟨a, a1, a2⟩ => g3.mpr (Or.inr ⟨a, Nat.zero_le _, a1, a2⟩)⟩⟩
  · unfold fX6_isTokenSomewhere
    rw [show (0 : Int32) = nI 0 from n0]
    have g2 : fX6_isTokenSomewhere_4 fX6_isTokenSomewhere_109 FU (nI 0) (nI 0) v = _ := g2
    rw [g2]
    rcases g1 with rfl | rfl <;> rfl
  · rcases g3.mp q with q | ⟨a, _, a1, a2⟩
    · exact absurd q (by decide)
    · exact ⟨a, a1, a2⟩
