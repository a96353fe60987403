-- the class's search: the hash, what is alike
def mx (r : Nat → Int32) : Nat → Nat → Int32 → Int32
  | 0, _, h => h
  | d + 1, a, h => mx r d (a + 1) (h * 31 + r a)
theorem mx_congr {r1 r2 : Nat → Int32} : ∀ (d a : Nat) (h : Int32), (∀ q, a ≤ q → q < a + d → r1 q = r2 q) → mx r1 d a h = mx r2 d a h
  | 0, _, _, _ => rfl
  | d + 1, a, h, e => by
    unfold mx
    rw [e a (Nat.le_refl _) (by omega)]
    exact mx_congr d (a + 1) _ (fun q q1 q2 => e q (by omega) (by omega))
theorem C_mixL (u : Wo) {b : Nat} (hb : b ≤ 618) : ∀ d f a h, a + d = b → d < f → fX2_mixed_19 fX2_mixed_52 f (nI b) h (nI a) u = some (mx (u 6) d a h, u)
  | 0, f, a, h, hj, hf => by
    obtain ⟨f, rfl⟩ : ∃ z, f = z + 1 := ⟨f - 1, by omega⟩
    rw [fX2_mixed_19.eq_2, if_pos (nI_le (by omega) (by omega))]
    rfl
  | d + 1, f, a, h, hj, hf => by
    obtain ⟨f, rfl⟩ : ∃ z, f = z + 1 := ⟨f - 1, by omega⟩
    rw [fX2_mixed_19.eq_2, if_neg (nI_ge (by omega) (by omega)), if_neg (show ¬ (618 : Int32) ≤ nI a from nI_ge (b := 618) (by omega) (by decide)), gi_eq (inb_nI (by omega) (by decide)), nI_clamp (by omega), nI_1, C_mixL u hb d f (a + 1) _ (by omega) (by omega)]
    rfl
theorem C_mix (u : Wo) {a d : Nat} (h : Int32) (hb : a + d ≤ 618) : fX2_mixed h (nI a) (nI (a + d)) u = some (mx (u 6) d a h, u) := by
  have hF := FU_ge
  unfold fX2_mixed
  rw [if_neg (nI_pos (by omega)), C_mixL u hb d FU a h rfl (by omega)]
def hsI (x : XS) (r : Nat → Int32) (i : Nat) : Nat → Nat → Int32 → Int32
  | 0, _, h => h
  | d + 1, j, h => hsI x r i d (j + 1) (mx r (1 + (lt x (i * 6 + j)).length) (140 + (i * 6 + j) * 13) h)
def hsO (x : XS) (r : Nat → Int32) (n : Nat) : Nat → Nat → Int32 → Int32
  | 0, _, h => h
  | d + 1, i, h => hsO x r n d (i + 1) (hsI x r i n 0 h)
def Hs (w n : Nat) (x : XS) (r : Nat → Int32) : Int32 := (fun h : Int32 => h ^^^ ((h).toUInt32 >>> (((16 : Int32)).toUInt32 &&& Int32.toUInt32 31)).toInt32) (hsO x r n n 0 (mx r (wto w - wfr w) (wfr w) (mx r 6 0 0)))
theorem hsI_congr {x y : XS} {r1 r2 : Nat → Int32} {i n : Nat} (hi : i < n) (hn : n ≤ 6) (l4 : ∀ q, q < 36 → lt x q = lt y q) (le : ∀ q, q < 36 → (lt x q).length ≤ 12) (e : ∀ q, q < 608 → r1 q = r2 q) : ∀ (d j : Nat) (h : Int32), j + d = n → hsI x r1 i d j h = hsI y r2 i d j h
  | 0, _, _, _ => rfl
  | d + 1, j, h, hj => by
    unfold hsI
    have := le (i * 6 + j) (by omega)
    rw [mx_congr (r1 := r1) (r2 := r2) _ _ _ (fun q q1 q2 => e q (by omega)), l4 _ (by omega)]
    exact hsI_congr hi hn l4 le e d (j + 1) _ (by omega)
theorem hsO_congr {x y : XS} {r1 r2 : Nat → Int32} {n : Nat} (hn : n ≤ 6) (l4 : ∀ q, q < 36 → lt x q = lt y q) (le : ∀ q, q < 36 → (lt x q).length ≤ 12) (e : ∀ q, q < 608 → r1 q = r2 q) : ∀ (d i : Nat) (h : Int32), i + d = n → hsO x r1 n d i h = hsO y r2 n d i h
  | 0, _, _, _ => rfl
  | d + 1, i, h, hj => by
    unfold hsO
    rw [hsI_congr (by omega) hn l4 le e n 0 h (by omega)]
    exact hsO_congr hn l4 le e d (i + 1) _ (by omega)
theorem wfr_le (w : Nat) : wfr w ≤ wto w ∧ wto w ≤ 140 := by
  unfold wfr wto
  split
  · decide
  · split <;> decide
theorem Hs_congr {w n : Nat} {x y : XS} {r1 r2 : Nat → Int32} (hn : n ≤ 6) (l4 : ∀ q, q < 36 → lt x q = lt y q) (le : ∀ q, q < 36 → (lt x q).length ≤ 12) (e : ∀ q, q < 608 → r1 q = r2 q) : Hs w n x r1 = Hs w n y r2 := by
  have hw := wfr_le w
  unfold Hs
  rw [mx_congr (r1 := r1) (r2 := r2) 6 0 _ (fun q _ q2 => e q (by omega)), mx_congr (r1 := r1) (r2 := r2) _ (wfr w) _ (fun q _ q2 => e q (by omega)), hsO_congr hn l4 le e n 0 _ (by omega)]
theorem C_wfr {w : Nat} {u : Wo} (hw : w < 3) (hu : u 1 1 = nI w) : fX3_wayFrom u = some (nI (wfr w), u) ∧ fX3_wayTo u = some (nI (wto w), u) := by
  unfold fX3_wayFrom fX3_wayTo
  rw [hu]
  rcases (show w = 0 ∨ w = 1 ∨ w = 2 by omega) with rfl | rfl | rfl
  · rw [if_pos (by decide), if_pos (by decide)]; exact ⟨rfl, rfl⟩
  · rw [if_neg (by decide), if_pos (by decide), if_neg (by decide), if_pos (by decide)]; exact ⟨rfl, rfl⟩
  · rw [if_neg (by decide), if_neg (by decide), if_neg (by decide), if_neg (by decide)]; exact ⟨rfl, rfl⟩
theorem C_hsI {x : XS} {u : Wo} {n i : Nat} (hc : CC x (u 6)) (hu : u 1 2 = nI n) (hn : n ≤ 6) (hi : i < n) {k : Int32 → Int32 → Wo → Re} : ∀ d f j h, j + d = n → d < f → fX2_hash_44 k f h (nI i) (nI j) u = k (hsI x (u 6) i d j h) (nI i) u
  | 0, f, j, h, hj, hf => by
    obtain ⟨f, rfl⟩ : ∃ z, f = z + 1 := ⟨f - 1, by omega⟩
    rw [fX2_hash_44.eq_2, hu, if_pos (nI_le (by omega) (by omega))]
    rfl
  | d + 1, f, j, h, hj, hf => by
    obtain ⟨f, rfl⟩ : ∃ z, f = z + 1 := ⟨f - 1, by omega⟩
    obtain ⟨l1, l2⟩ := CC_len hc (q := i * 6 + j) (by omega)
    rw [fX2_hash_44.eq_2, hu, if_neg (nI_ge (by omega) (by omega)), bd_eq (C_lettersOf u i j), bd_eq (C_underWay u (by omega) (by omega)), l1, show nI (140 + (i * 6 + j) * 13) + (1 : Int32) + nI (lt x (i * 6 + j)).length = nI (140 + (i * 6 + j) * 13 + (1 + (lt x (i * 6 + j)).length)) from by rw [n1, nI_add, nI_add, Nat.add_assoc], bd_eq (C_mix u h (by omega)), nI_1, C_hsI hc hu hn hi d f (j + 1) _ (by omega) (by omega)]
    rfl
theorem C_hsO {x : XS} {u : Wo} {n : Nat} (hc : CC x (u 6)) (hu : u 1 2 = nI n) (hn : n ≤ 6) : ∀ d f i h, i + d = n → d < f → fX2_hash_31 fX2_hash_96 f h (nI i) u = fX2_hash_96 (hsO x (u 6) n d i h) u
  | 0, f, i, h, hj, hf => by
    obtain ⟨f, rfl⟩ : ∃ z, f = z + 1 := ⟨f - 1, by omega⟩
    rw [fX2_hash_31.eq_2, hu, if_pos (nI_le (by omega) (by omega))]
    rfl
  | d + 1, f, i, h, hj, hf => by
    obtain ⟨f, rfl⟩ : ∃ z, f = z + 1 := ⟨f - 1, by omega⟩
    have hF := FU_ge
    rw [fX2_hash_31.eq_2, hu, if_neg (nI_ge (by omega) (by omega)), n0, C_hsI hc hu hn (by omega) n FU 0 h (by omega) (by omega)]
    unfold fX2_hash_90
    rw [nI_1, C_hsO hc hu hn d f (i + 1) _ (by omega) (by omega)]
    rfl
theorem C_hash {w n : Nat} {x : XS} {u : Wo} (hw : w < 3) (hc : CC x (u 6)) (hu1 : u 1 1 = nI w) (hu : u 1 2 = nI n) (hn : n ≤ 6) : fX2_hash u = some (Hs w n x (u 6), u) := by
  have hF := FU_ge
  have hwl := wfr_le w
  unfold fX2_hash
  rw [bd_eq (show fX2_mixed (0 : Int32) (0 : Int32) (6 : Int32) u = some (mx (u 6) 6 0 0, u) from C_mix u (a := 0) (d := 6) 0 (by decide)), bd_eq (C_wfr hw hu1).1, bd_eq (C_wfr hw hu1).2, show nI (wto w) = nI (wfr w + (wto w - wfr w)) from by rw [show wfr w + (wto w - wfr w) = wto w by omega], bd_eq (C_mix u _ (by omega)), n0, C_hsO hc hu hn n FU 0 _ (by omega) (by omega)]
  rfl
theorem C_likL (u : Wo) {k b : Nat} (hk : k < 300) (hb : b ≤ 608) : ∀ d f a, a + d = b → d < f → (fX2_isLike_49 fX2_isLike_81 f (nI b) (nI (k * 608)) (nI a) u = some (1, u) ∧ ∀ q, a ≤ q → q < b → u 9 (k * 608 + q) = u 6 q) ∨ (fX2_isLike_49 fX2_isLike_81 f (nI b) (nI (k * 608)) (nI a) u = some (0, u) ∧ ∃ q, a ≤ q ∧ q < b ∧ u 9 (k * 608 + q) ≠ u 6 q)
  | 0, f, a, hj, hf => by
    obtain ⟨f, rfl⟩ : ∃ z, f = z + 1 := ⟨f - 1, by omega⟩
    rw [fX2_isLike_49.eq_2, if_pos (nI_le (by omega) (by omega))]
    exact Or.inl ⟨rfl, fun q q1 q2 => by omega⟩
  | d + 1, f, a, hj, hf => by
    obtain ⟨f, rfl⟩ : ∃ z, f = z + 1 := ⟨f - 1, by omega⟩
    rw [fX2_isLike_49.eq_2, if_neg (nI_ge (by omega) (by omega)), nI_add, gi_eq (inb_nI (by omega) (by decide)), gi_eq (inb_nI (by omega) (by decide)), nI_clamp (by omega), nI_clamp (by omega)]
    by_cases e : u 9 (k * 608 + a) = u 6 a
    · rw [if_pos e, nI_1]
      rcases C_likL u hk hb d f (a + 1) (by omega) (by omega) with ⟨g1, g2⟩ | ⟨g1, q, q1, q2, q3⟩
      · refine Or.inl ⟨g1, fun q q1 q2 => ?_⟩
        by_cases z : q = a
        · rw [z]; exact e
        · exact g2 q (by omega) q2
      · exact Or.inr ⟨g1, q, by omega, q2, q3⟩
    · rw [if_neg e]
      exact Or.inr ⟨rfl, a, Nat.le_refl _, by omega, e⟩
theorem C_lik (u : Wo) {k a b : Nat} (hk : k < 300) (hab : a ≤ b) (hb : b ≤ 608) : (fX2_isLike (nI k) (nI a) (nI b) u = some (1, u) ∧ ∀ q, a ≤ q → q < b → u 9 (k * 608 + q) = u 6 q) ∨ (fX2_isLike (nI k) (nI a) (nI b) u = some (0, u) ∧ ∃ q, a ≤ q ∧ q < b ∧ u 9 (k * 608 + q) ≠ u 6 q) := by
  have hF := FU_ge
  unfold fX2_isLike
  rw [if_neg (nI_pos (by omega)), if_neg (show ¬ (618 : Int32) < nI b from nI_nlt (a := 618) (b := b) (by omega) (by decide)), n608, nI_mul, if_neg (nI_pos (by omega)), n182400, nI_sub (by omega), if_pos (nI_le (by omega) (by omega))]
  exact C_likL u hk hb (b - a) FU a (by omega) (by omega)
