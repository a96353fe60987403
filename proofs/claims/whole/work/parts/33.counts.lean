-- both sides together: counts
def hmN (x : XS) (m : Nat) : Nat → Nat → Nat
  | 0, _ => 0
  | d + 1, i => (if fd x 0 i = m then 1 else 0) + hmN x m d (i + 1)
theorem hmN_le (x : XS) (m : Nat) : ∀ d i, hmN x m d i ≤ d
  | 0, _ => Nat.le_refl _
  | d + 1, i => by
    unfold hmN
    have := hmN_le x m d (i + 1)
    split <;> omega
theorem C_hmL {x : XS} {u : Wo} {n m : Nat} (hc : CC x (u 6)) (hu : u 1 2 = nI n) (hn : n ≤ 6) (h0 : ∀ i, i < 6 → fd x 0 i < 2 ^ 31) (hm : m < 2 ^ 31) : ∀ d f i b, i + d = n → d < f → fX3_howMany_4 fX3_howMany_36 f (nI m) (nI b) (nI i) u = some (nI (b + hmN x m d i), u)
  | 0, f, i, b, hj, hf => by
    obtain ⟨f, rfl⟩ : ∃ z, f = z + 1 := ⟨f - 1, by omega⟩
    rw [fX3_howMany_4.eq_2, hu, if_pos (nI_le (by omega) (by omega))]
    rfl
  | d + 1, f, i, b, hj, hf => by
    obtain ⟨f, rfl⟩ : ∃ z, f = z + 1 := ⟨f - 1, by omega⟩
    have ih := C_hmL hc hu hn h0 hm d f (i + 1)
    rw [fX3_howMany_4.eq_2, hu, if_neg (nI_ge (by omega) (by omega)), bd_eq (show fX3_of (nI i) (0 : Int32) u = some (nI (fd x 0 i), u) from CC_rd hc (f := 0) rfl (by omega))]
    unfold fX3_howMany_28 hmN
    by_cases e : fd x 0 i = m
    · rw [if_pos (by rw [e]), if_pos e, nI_1, nI_1, ih (b + 1) (by omega) (by omega), Nat.add_assoc]
    · rw [if_neg (fun q => e (nI_inj (h0 i (by omega)) hm q)), if_neg e, nI_1, n0, nI_add, ih (b + 0) (by omega) (by omega), Nat.add_zero, Nat.zero_add]
theorem C_hm {x : XS} {u : Wo} {n : Nat} (m : Nat) (hc : CC x (u 6)) (hu : u 1 2 = nI n) (hn : n ≤ 6) (h0 : ∀ i, i < 6 → fd x 0 i < 2 ^ 31) (hm : m < 2 ^ 31) : fX3_howMany (nI m) u = some (nI (hmN x m n 0), u) := by
  have hF := FU_ge
  unfold fX3_howMany
  rw [n0, C_hmL hc hu hn h0 hm n FU 0 0 (by omega) (by omega), Nat.zero_add]
theorem M_hmL {w : Nat} {x : XS} {v : Wo} {n m : Nat} (hc : MC w n x (v 2)) (hv : v 0 1 = nI n) (hn : n ≤ 6) (h0 : ∀ i, i < 6 → fd x 0 i < 2 ^ 31) (hm : m < 2 ^ 31) : ∀ d f i b, i + d = n → d < f → fX6_ofMode_4 fX6_ofMode_41 f (nI m) (nI b) (nI i) v = some (nI (b + hmN x m d i), v)
  | 0, f, i, b, hj, hf => by
    obtain ⟨f, rfl⟩ : ∃ z, f = z + 1 := ⟨f - 1, by omega⟩
    rw [fX6_ofMode_4.eq_2, hv, if_pos (nI_le (by omega) (by omega))]
    rfl
  | d + 1, f, i, b, hj, hf => by
    obtain ⟨f, rfl⟩ : ∃ z, f = z + 1 := ⟨f - 1, by omega⟩
    have ih := M_hmL hc hv hn h0 hm d f (i + 1)
    rw [fX6_ofMode_4.eq_2, hv, if_neg (nI_ge (by omega) (by omega)), show (21 : Int32) * nI i + (0 : Int32) = nI (21 * i) from by rw [n21, n0, nI_mul, nI_add, Nat.add_zero], gi_eq (inb_nI (by omega) (by decide)), nI_clamp (by omega), show v 2 (21 * i) = nI (fd x 0 i) from hc.1 0 i rfl (by omega)]
    unfold fX6_ofMode_33 hmN
    by_cases e : fd x 0 i = m
    · rw [if_pos (by rw [e]), if_pos e, nI_1, nI_1, ih (b + 1) (by omega) (by omega), Nat.add_assoc]
    · rw [if_neg (fun q => e (nI_inj (h0 i (by omega)) hm q)), if_neg e, nI_1, n0, nI_add, ih (b + 0) (by omega) (by omega), Nat.add_zero, Nat.zero_add]
theorem M_hm {w : Nat} {x : XS} {v : Wo} {n : Nat} (m : Nat) (hc : MC w n x (v 2)) (hv : v 0 1 = nI n) (hn : n ≤ 6) (h0 : ∀ i, i < 6 → fd x 0 i < 2 ^ 31) (hm : m < 2 ^ 31) : fX6_ofMode (nI m) v = some (nI (hmN x m n 0), v) := by
  have hF := FU_ge
  unfold fX6_ofMode
  rw [n0, M_hmL hc hv hn h0 hm n FU 0 0 (by omega) (by omega), Nat.zero_add]
/-- letters under way -/
def suI (x : XS) (i : Nat) : Nat → Nat → Nat
  | 0, _ => 0
  | d + 1, j => (lt x (i * 6 + j)).length + suI x i d (j + 1)
def suO (x : XS) (n : Nat) : Nat → Nat → Nat
  | 0, _ => 0
  | d + 1, i => suI x i n 0 + suO x n d (i + 1)
def suM (x : XS) : Nat → Nat → Nat
  | 0, _ => 0
  | d + 1, q => (lt x q).length + suM x d (q + 1)
theorem C_suI {x : XS} {u : Wo} {n i : Nat} (hc : CC x (u 6)) (hu : u 1 2 = nI n) (hn : n ≤ 6) (hi : i < n) {k : Int32 → Int32 → Wo → Re} {R : Nat → Re} (hk : ∀ b, k (nI b) (nI i) u = R b) : ∀ d f j b, j + d = n → d < f → fX3_underWayInAll_14 k f (nI b) (nI i) (nI j) u = R (b + suI x i d j)
  | 0, f, j, b, hj, hf => by
    obtain ⟨f, rfl⟩ : ∃ z, f = z + 1 := ⟨f - 1, by omega⟩
    rw [fX3_underWayInAll_14.eq_2, hu, if_pos (nI_le (by omega) (by omega))]
    exact hk b
  | d + 1, f, j, b, hj, hf => by
    obtain ⟨f, rfl⟩ : ∃ z, f = z + 1 := ⟨f - 1, by omega⟩
    have ih := C_suI hc hu hn hi hk d f (j + 1)
    obtain ⟨l1, l2⟩ := CC_len hc (q := i * 6 + j) (by omega)
    rw [fX3_underWayInAll_14.eq_2, hu, if_neg (nI_ge (by omega) (by omega)), bd_eq (C_underWay u (by omega) (by omega)), l1, nI_add, nI_1, ih _ (by omega) (by omega)]
    rw [show suI x i (d + 1) j = (lt x (i * 6 + j)).length + suI x i d (j + 1) from rfl, Nat.add_assoc]
theorem C_suO {x : XS} {u : Wo} {n : Nat} (hc : CC x (u 6)) (hu : u 1 2 = nI n) (hn : n ≤ 6) : ∀ d f i b, i + d = n → d < f → fX3_underWayInAll_4 fX3_underWayInAll_43 f (nI b) (nI i) u = some (nI (b + suO x n d i), u)
  | 0, f, i, b, hj, hf => by
    obtain ⟨f, rfl⟩ : ∃ z, f = z + 1 := ⟨f - 1, by omega⟩
    rw [fX3_underWayInAll_4.eq_2, hu, if_pos (nI_le (by omega) (by omega))]
    rfl
  | d + 1, f, i, b, hj, hf => by
    obtain ⟨f, rfl⟩ : ∃ z, f = z + 1 := ⟨f - 1, by omega⟩
    have hF := FU_ge
    rw [fX3_underWayInAll_4.eq_2, hu, if_neg (nI_ge (by omega) (by omega)), n0, C_suI hc hu hn (by omega) (R := fun b => some (nI (b + suO x n d (i + 1)), u)) (fun b => by
      unfold fX3_underWayInAll_37
      rw [nI_1]
      exact C_suO hc hu hn d f (i + 1) b (by omega) (by omega)) n FU 0 b (by omega) (by omega)]
    rw [show suO x n (d + 1) i = suI x i n 0 + suO x n d (i + 1) from rfl, Nat.add_assoc]
theorem M_suL {w n : Nat} {x : XS} {v : Wo} (hc : MC w n x (v 2)) : ∀ d f q b, q + d = 36 → d < f → fX6_underWay_4 fX6_underWay_32 f (nI b) (nI q) v = some (nI (b + suM x d q), v)
  | 0, f, q, b, hj, hf => by
    obtain ⟨f, rfl⟩ : ∃ z, f = z + 1 := ⟨f - 1, by omega⟩
    rw [fX6_underWay_4.eq_2, if_pos (show (36 : Int32) ≤ nI q from nI_le (a := 36) (by omega) (by omega))]
    rfl
  | d + 1, f, q, b, hj, hf => by
    obtain ⟨f, rfl⟩ : ∃ z, f = z + 1 := ⟨f - 1, by omega⟩
    have ih := M_suL hc d f (q + 1)
    obtain ⟨l1, l2⟩ := MC_len hc (q := q) (by omega)
    rw [fX6_underWay_4.eq_2, if_neg (show ¬ (36 : Int32) ≤ nI q from nI_ge (b := 36) (by omega) (by decide)), show (140 : Int32) + (25 : Int32) * nI q = nI (140 + 25 * q) from by rw [n140, n25, nI_mul, nI_add], gi_eq (inb_nI (by omega) (by decide)), nI_clamp (by omega), l1, bn_eq, nI_add, nI_1, ih _ (by omega) (by omega)]
    rw [show suM x (d + 1) q = (lt x q).length + suM x d (q + 1) from rfl, Nat.add_assoc]
theorem su_eq {x : XS} {n : Nat} (h2 : 2 ≤ n) (hn : n ≤ 6) (z : ∀ a b, b < 6 → n ≤ a ∨ n ≤ b → lt x (a * 6 + b) = []) : suO x n n 0 = suM x 36 0 := by
  rcases (show n = 2 ∨ n = 3 ∨ n = 4 ∨ n = 5 ∨ n = 6 by omega) with rfl | rfl | rfl | rfl | rfl
  · have z2 := z 0 2 (by decide) (by decide)
    have z3 := z 0 3 (by decide) (by decide)
    have z4 := z 0 4 (by decide) (by decide)
    have z5 := z 0 5 (by decide) (by decide)
    have z8 := z 1 2 (by decide) (by decide)
    have z9 := z 1 3 (by decide) (by decide)
    have z10 := z 1 4 (by decide) (by decide)
    have z11 := z 1 5 (by decide) (by decide)
    have z12 := z 2 0 (by decide) (by decide)
    have z13 := z 2 1 (by decide) (by decide)
    have z14 := z 2 2 (by decide) (by decide)
    have z15 := z 2 3 (by decide) (by decide)
    have z16 := z 2 4 (by decide) (by decide)
    have z17 := z 2 5 (by decide) (by decide)
    have z18 := z 3 0 (by decide) (by decide)
    have z19 := z 3 1 (by decide) (by decide)
    have z20 := z 3 2 (by decide) (by decide)
    have z21 := z 3 3 (by decide) (by decide)
    have z22 := z 3 4 (by decide) (by decide)
    have z23 := z 3 5 (by decide) (by decide)
    have z24 := z 4 0 (by decide) (by decide)
    have z25 := z 4 1 (by decide) (by decide)
    have z26 := z 4 2 (by decide) (by decide)
    have z27 := z 4 3 (by decide) (by decide)
    have z28 := z 4 4 (by decide) (by decide)
    have z29 := z 4 5 (by decide) (by decide)
    have z30 := z 5 0 (by decide) (by decide)
    have z31 := z 5 1 (by decide) (by decide)
    have z32 := z 5 2 (by decide) (by decide)
    have z33 := z 5 3 (by decide) (by decide)
    have z34 := z 5 4 (by decide) (by decide)
    have z35 := z 5 5 (by decide) (by decide)
    simp only [Nat.reduceMul, Nat.reduceAdd, Nat.zero_mul, Nat.zero_add] at z2 z3 z4 z5 z8 z9 z10 z11 z12 z13 z14 z15 z16 z17 z18 z19 z20 z21 z22 z23 z24 z25 z26 z27 z28 z29 z30 z31 z32 z33 z34 z35
    simp only [suO, suI, suM, Nat.reduceMul, Nat.reduceAdd, Nat.zero_mul, Nat.zero_add, z2, z3, z4, z5, z8, z9, z10, z11, z12, z13, z14, z15, z16, z17, z18, z19, z20, z21, z22, z23, z24, z25, z26, z27, z28, z29, z30, z31, z32, z33, z34, z35, List.length_nil]
    try omega
  · have z3 := z 0 3 (by decide) (by decide)
    have z4 := z 0 4 (by decide) (by decide)
    have z5 := z 0 5 (by decide) (by decide)
    have z9 := z 1 3 (by decide) (by decide)
    have z10 := z 1 4 (by decide) (by decide)
    have z11 := z 1 5 (by decide) (by decide)
    have z15 := z 2 3 (by decide) (by decide)
    have z16 := z 2 4 (by decide) (by decide)
    have z17 := z 2 5 (by decide) (by decide)
    have z18 := z 3 0 (by decide) (by decide)
    have z19 := z 3 1 (by decide) (by decide)
    have z20 := z 3 2 (by decide) (by decide)
    have z21 := z 3 3 (by decide) (by decide)
    have z22 := z 3 4 (by decide) (by decide)
    have z23 := z 3 5 (by decide) (by decide)
    have z24 := z 4 0 (by decide) (by decide)
    have z25 := z 4 1 (by decide) (by decide)
    have z26 := z 4 2 (by decide) (by decide)
    have z27 := z 4 3 (by decide) (by decide)
    have z28 := z 4 4 (by decide) (by decide)
    have z29 := z 4 5 (by decide) (by decide)
    have z30 := z 5 0 (by decide) (by decide)
    have z31 := z 5 1 (by decide) (by decide)
    have z32 := z 5 2 (by decide) (by decide)
    have z33 := z 5 3 (by decide) (by decide)
    have z34 := z 5 4 (by decide) (by decide)
    have z35 := z 5 5 (by decide) (by decide)
    simp only [Nat.reduceMul, Nat.reduceAdd, Nat.zero_mul, Nat.zero_add] at z3 z4 z5 z9 z10 z11 z15 z16 z17 z18 z19 z20 z21 z22 z23 z24 z25 z26 z27 z28 z29 z30 z31 z32 z33 z34 z35
    simp only [suO, suI, suM, Nat.reduceMul, Nat.reduceAdd, Nat.zero_mul, Nat.zero_add, z3, z4, z5, z9, z10, z11, z15, z16, z17, z18, z19, z20, z21, z22, z23, z24, z25, z26, z27, z28, z29, z30, z31, z32, z33, z34, z35, List.length_nil]
    try omega
  · have z4 := z 0 4 (by decide) (by decide)
    have z5 := z 0 5 (by decide) (by decide)
    have z10 := z 1 4 (by decide) (by decide)
    have z11 := z 1 5 (by decide) (by decide)
    have z16 := z 2 4 (by decide) (by decide)
    have z17 := z 2 5 (by decide) (by decide)
    have z22 := z 3 4 (by decide) (by decide)
    have z23 := z 3 5 (by decide) (by decide)
    have z24 := z 4 0 (by decide) (by decide)
    have z25 := z 4 1 (by decide) (by decide)
    have z26 := z 4 2 (by decide) (by decide)
    have z27 := z 4 3 (by decide) (by decide)
    have z28 := z 4 4 (by decide) (by decide)
    have z29 := z 4 5 (by decide) (by decide)
    have z30 := z 5 0 (by decide) (by decide)
    have z31 := z 5 1 (by decide) (by decide)
    have z32 := z 5 2 (by decide) (by decide)
    have z33 := z 5 3 (by decide) (by decide)
    have z34 := z 5 4 (by decide) (by decide)
    have z35 := z 5 5 (by decide) (by decide)
    simp only [Nat.reduceMul, Nat.reduceAdd, Nat.zero_mul, Nat.zero_add] at z4 z5 z10 z11 z16 z17 z22 z23 z24 z25 z26 z27 z28 z29 z30 z31 z32 z33 z34 z35
    simp only [suO, suI, suM, Nat.reduceMul, Nat.reduceAdd, Nat.zero_mul, Nat.zero_add, z4, z5, z10, z11, z16, z17, z22, z23, z24, z25, z26, z27, z28, z29, z30, z31, z32, z33, z34, z35, List.length_nil]
    try omega
  · have z5 := z 0 5 (by decide) (by decide)
    have z11 := z 1 5 (by decide) (by decide)
    have z17 := z 2 5 (by decide) (by decide)
    have z23 := z 3 5 (by decide) (by decide)
    have z29 := z 4 5 (by decide) (by decide)
    have z30 := z 5 0 (by decide) (by decide)
    have z31 := z 5 1 (by decide) (by decide)
    have z32 := z 5 2 (by decide) (by decide)
    have z33 := z 5 3 (by decide) (by decide)
    have z34 := z 5 4 (by decide) (by decide)
    have z35 := z 5 5 (by decide) (by decide)
    simp only [Nat.reduceMul, Nat.reduceAdd, Nat.zero_mul, Nat.zero_add] at z5 z11 z17 z23 z29 z30 z31 z32 z33 z34 z35
    simp only [suO, suI, suM, Nat.reduceMul, Nat.reduceAdd, Nat.zero_mul, Nat.zero_add, z5, z11, z17, z23, z29, z30, z31, z32, z33, z34, z35, List.length_nil]
    try omega
  · simp only [suO, suI, suM, Nat.reduceMul, Nat.reduceAdd, Nat.zero_mul, Nat.zero_add]
    try omega
theorem C_su {x : XS} {u : Wo} {n : Nat} (hc : CC x (u 6)) (hu : u 1 2 = nI n) (hn : n ≤ 6) : fX3_underWayInAll u = some (nI (suO x n n 0), u) := by
  have hF := FU_ge
  unfold fX3_underWayInAll
  rw [n0, C_suO hc hu hn n FU 0 0 (by omega) (by omega), Nat.zero_add]
theorem M_su {w n : Nat} {x : XS} {v : Wo} (hc : MC w n x (v 2)) : fX6_underWay v = some (nI (suM x 36 0), v) := by
  have hF := FU_ge
  unfold fX6_underWay
  rw [n0, M_suL hc 36 FU 0 0 (by omega) (by omega), Nat.zero_add]
theorem ST_z {w n : Nat} {x : XS} (h : ST w n x) : ∀ a b, b < 6 → n ≤ a ∨ n ≤ b → lt x (a * 6 + b) = [] := fun a b hb hc => h.2.2.2.2.1 a b hb (by omega)
theorem op_count {B : Nat} {u v : Wo} (hB : B < 268435454) (h : GG B u v) (x1 : Int32) : RS B (fX5_count x1 u) (fX6_count x1 v) := by
  have hG := h
  obtain ⟨w, n, H, kept, L, ac, ha, hc, hm, h5, hb, h6, hp, ht⟩ := h
  have g3 := ha.1
  have g2 := ha.2.1
  have g6 := ha.2.2.1
  have inv := ha.2.2.2.2.2.1 kept (Nat.le_refl _)
  have wf := INV_WF inv g6 (by omega)
  have hcc := hc.2.2.2.2.1
  have hmc := hm.2.2.2.1
  have hs := sent_eq hc hm
  have b0 : ∀ i, i < 6 → fd (H kept) 0 i < 2 ^ 31 := fun i _ => by have := wf.1 0 i; omega
  unfold fX5_count fX6_count
  rcases pk_ix x1 (n := 10) (by decide) with q | q | ⟨k, hk, rfl⟩
  · have ne := ix_ne (n := 10) (by decide) (Or.inl q)
    have e0 : ¬ x1 = (0 : Int32) := ne 0 (by decide)
    have e1 : ¬ x1 = (1 : Int32) := ne 1 (by decide)
    have e2 : ¬ x1 = (2 : Int32) := ne 2 (by decide)
    have e3 : ¬ x1 = (3 : Int32) := ne 3 (by decide)
    have e4 : ¬ x1 = (4 : Int32) := ne 4 (by decide)
    have e5 : ¬ x1 = (5 : Int32) := ne 5 (by decide)
    have e6 : ¬ x1 = (6 : Int32) := ne 6 (by decide)
    have e7 : ¬ x1 = (7 : Int32) := ne 7 (by decide)
    have e8 : ¬ x1 = (8 : Int32) := ne 8 (by decide)
    have e9 : ¬ x1 = (9 : Int32) := ne 9 (by decide)
    simp only [e0, e1, e2, e3, e4, e5, e6, e7, e8, e9, ↓reduceIte]
    exact RS_stay hG (Nat.le_refl _) (r := -1) rfl rfl
  · have ne := ix_ne (n := 10) (by decide) (Or.inr q)
    have e0 : ¬ x1 = (0 : Int32) := ne 0 (by decide)
    have e1 : ¬ x1 = (1 : Int32) := ne 1 (by decide)
    have e2 : ¬ x1 = (2 : Int32) := ne 2 (by decide)
    have e3 : ¬ x1 = (3 : Int32) := ne 3 (by decide)
    have e4 : ¬ x1 = (4 : Int32) := ne 4 (by decide)
    have e5 : ¬ x1 = (5 : Int32) := ne 5 (by decide)
    have e6 : ¬ x1 = (6 : Int32) := ne 6 (by decide)
    have e7 : ¬ x1 = (7 : Int32) := ne 7 (by decide)
    have e8 : ¬ x1 = (8 : Int32) := ne 8 (by decide)
    have e9 : ¬ x1 = (9 : Int32) := ne 9 (by decide)
    simp only [e0, e1, e2, e3, e4, e5, e6, e7, e8, e9, ↓reduceIte]
    exact RS_stay hG (Nat.le_refl _) (r := -1) rfl rfl
  · rcases (show k = 0 ∨ k = 1 ∨ k = 2 ∨ k = 3 ∨ k = 4 ∨ k = 5 ∨ k = 6 ∨ k = 7 ∨ k = 8 ∨ k = 9 by omega) with rfl | rfl | rfl | rfl | rfl | rfl | rfl | rfl | rfl | rfl <;> simp (decide := true) only [↓reduceIte]
    · exact RS_stay hG (Nat.le_refl _) (by rw [hc.2.1]) (by rw [hm.2.1])
    · exact RS_stay hG (Nat.le_refl _) (by rw [hc.1]) (by rw [hm.1])
    · rw [bd_eq (show fX3_get (611 : Int32) u = some (u 6 611, u) from C_get (k := 611) u (by omega)), hc.2.2.2.2.2.1.2.1, gi_eq (by decide), show ((0 : Int32)).toNatClampNeg = 0 from rfl, hm.2.2.2.2.1.1]
      exact RS_stay hG (Nat.le_refl _) rfl rfl
    · unfold fX6_count_73
      rw [bd_eq (show fX3_get (608 : Int32) u = some (u 6 608, u) from C_get (k := 608) u (by omega)), gi_eq (by decide), show (((7 : Int32) + nI 3 - (3 : Int32))).toNatClampNeg = 7 from by decide, hs 0 (by decide)]
      exact RS_stay hG (Nat.le_refl _) rfl rfl
    · unfold fX6_count_73
      rw [bd_eq (show fX3_get (609 : Int32) u = some (u 6 609, u) from C_get (k := 609) u (by omega)), gi_eq (by decide), show (((7 : Int32) + nI 4 - (3 : Int32))).toNatClampNeg = 8 from by decide, hs 1 (by decide)]
      exact RS_stay hG (Nat.le_refl _) rfl rfl
    · unfold fX6_count_73
      rw [bd_eq (show fX3_get (610 : Int32) u = some (u 6 610, u) from C_get (k := 610) u (by omega)), gi_eq (by decide), show (((7 : Int32) + nI 5 - (3 : Int32))).toNatClampNeg = 9 from by decide, hs 2 (by decide)]
      exact RS_stay hG (Nat.le_refl _) rfl rfl
    · rw [bd_eq (C_su hcc hc.2.1 g6), bd_eq (M_su hmc), su_eq g2 g6 (ST_z inv.2.1)]
      exact RS_stay hG (Nat.le_refl _) rfl rfl
    · rw [bd_eq (show fX3_howMany (2 : Int32) u = some (nI (hmN (H kept) 2 n 0), u) from C_hm 2 hcc hc.2.1 g6 b0 (by decide)), bd_eq (show fX6_ofMode (2 : Int32) v = some (nI (hmN (H kept) 2 n 0), v) from M_hm 2 hmc hm.2.1 g6 b0 (by decide))]
      exact RS_stay hG (Nat.le_refl _) rfl rfl
    · rw [bd_eq (show fX3_howMany (1 : Int32) u = some (nI (hmN (H kept) 1 n 0), u) from C_hm 1 hcc hc.2.1 g6 b0 (by decide)), bd_eq (show fX6_ofMode (1 : Int32) v = some (nI (hmN (H kept) 1 n 0), v) from M_hm 1 hmc hm.2.1 g6 b0 (by decide))]
      exact RS_stay hG (Nat.le_refl _) rfl rfl
    · exact RS_stay hG (Nat.le_refl _) (by rw [hc.2.2.2.2.2.2.2.2.1]) (by rw [hm.2.2.2.2.2.2.1])
