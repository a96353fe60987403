-- both sides together: comings, runs
/-- the pairs that have letters under way, in order -/
def bzI (x : XS) (i : Nat) (rest : List Nat) : Nat → Nat → List Nat
  | 0, _ => rest
  | d + 1, j => if 0 < (lt x (i * 6 + j)).length then (i * 6 + j) :: bzI x i rest d (j + 1) else bzI x i rest d (j + 1)
def bzO (x : XS) (n : Nat) : Nat → Nat → List Nat
  | 0, _ => []
  | d + 1, i => bzI x i (bzO x n d (i + 1)) n 0
theorem bzI_len (x : XS) (i : Nat) (rest : List Nat) : ∀ d j, (bzI x i rest d j).length ≤ rest.length + d
  | 0, _ => Nat.le_refl _
  | d + 1, j => by
    unfold bzI
    have := bzI_len x i rest d (j + 1)
    split
    · rw [List.length_cons]; omega
    · omega
theorem bzO_len (x : XS) {n : Nat} (hn : n ≤ 6) : ∀ d i, (bzO x n d i).length ≤ 6 * d
  | 0, _ => Nat.le_refl _
  | d + 1, i => by
    unfold bzO
    have := bzI_len x i (bzO x n d (i + 1)) n 0
    have := bzO_len x hn d (i + 1)
    omega
theorem bzI_mem {x : XS} {i : Nat} {rest : List Nat} {q : Nat} : ∀ d j, q ∈ bzI x i rest d j → q ∈ rest ∨ ∃ b, b < j + d ∧ q = i * 6 + b ∧ lt x q ≠ []
  | 0, _, h => Or.inl h
  | d + 1, j, h => by
    unfold bzI at h
    have ih := fun h => bzI_mem (x := x) (i := i) (rest := rest) (q := q) d (j + 1) h
    have go : q ∈ bzI x i rest d (j + 1) → q ∈ rest ∨ ∃ b, b < j + (d + 1) ∧ q = i * 6 + b ∧ lt x q ≠ [] := fun h => by
      rcases ih h with h | ⟨b, h1, h2⟩
      · exact Or.inl h
      · exact Or.inr ⟨b, by omega, h2⟩
    split at h
    · rename_i e
      rcases List.mem_cons.mp h with h | h
      · refine Or.inr ⟨j, by omega, h, ?_⟩
        rw [h]
        exact List.ne_nil_of_length_pos e
      · exact go h
    · exact go h
theorem bzO_mem {x : XS} {n : Nat} {q : Nat} : ∀ d i, q ∈ bzO x n d i → ∃ a b, a < i + d ∧ b < n ∧ q = a * 6 + b ∧ lt x q ≠ []
  | 0, _, h => by cases h
  | d + 1, i, h => by
    unfold bzO at h
    rcases bzI_mem n 0 h with h | ⟨b, h1, h2⟩
    · obtain ⟨a, b, h1, h2⟩ := bzO_mem d (i + 1) h
      exact ⟨a, b, by omega, h2⟩
    · exact ⟨i, b, by omega, by omega, h2⟩
theorem CC_len {x : XS} {r : Nat → Int32} (h : CC x r) {q : Nat} (hq : q < 36) : r (140 + q * 13) = nI (lt x q).length ∧ (lt x q).length ≤ 12 := by
  have := h.2.2.2.2 q hq
  exact ⟨by rw [this.1, List.length_map], by have := this.2.1; rw [List.length_map] at this; exact this⟩
theorem MC_len {w n : Nat} {x : XS} {r : Nat → Int32} (h : MC w n x r) {q : Nat} (hq : q < 36) : r (140 + 25 * q) = nI (lt x q).length ∧ (lt x q).length ≤ 12 := by
  have := h.2.2.2.2.2.2 q hq
  exact ⟨this.1, this.2.1⟩
theorem C_bsI {x : XS} {u : Wo} {n i : Nat} {rest : List Nat} (hc : CC x (u 6)) (hu : u 1 2 = nI n) (hn : n ≤ 6) (hi : i < n) {k : Int32 → Int32 → Wo → Re} (hk : ∀ b, k (nI b) (nI i) u = some (nI (b + rest.length), u)) : ∀ d m j b, j + d = n → d < m → fX3_busyPairs_14 k m (nI b) (nI i) (nI j) u = some (nI (b + (bzI x i rest d j).length), u)
  | 0, m, j, b, hj, hm => by
    obtain ⟨m, rfl⟩ : ∃ z, m = z + 1 := ⟨m - 1, by omega⟩
    rw [fX3_busyPairs_14.eq_2, hu, if_pos (nI_le (by omega) (by omega))]
    exact hk b
  | d + 1, m, j, b, hj, hm => by
    obtain ⟨m, rfl⟩ : ∃ z, m = z + 1 := ⟨m - 1, by omega⟩
    have ih := C_bsI hc hu hn hi hk d m (j + 1)
    obtain ⟨l1, l2⟩ := CC_len hc (q := i * 6 + j) (by omega)
    rw [fX3_busyPairs_14.eq_2, hu, if_neg (nI_ge (by omega) (by omega)), bd_eq (C_underWay u (by omega) (by omega)), l1]
    unfold bzI fX3_busyPairs_37
    by_cases e : 0 < (lt x (i * 6 + j)).length
    · rw [if_pos e, if_neg (nI_nle e (by omega)), nI_1, nI_1, ih (b + 1) (by omega) (by omega), List.length_cons, Nat.add_assoc, Nat.add_comm 1]
    · rw [if_neg e, show (lt x (i * 6 + j)).length = 0 by omega, if_pos (by decide), nI_1, n0, nI_add, ih (b + 0) (by omega) (by omega), Nat.add_zero]
theorem C_bsO {x : XS} {u : Wo} {n : Nat} (hc : CC x (u 6)) (hu : u 1 2 = nI n) (hn : n ≤ 6) : ∀ d m i b, i + d = n → d < m → fX3_busyPairs_4 fX3_busyPairs_51 m (nI b) (nI i) u = some (nI (b + (bzO x n d i).length), u)
  | 0, m, i, b, hj, hm => by
    obtain ⟨m, rfl⟩ : ∃ z, m = z + 1 := ⟨m - 1, by omega⟩
    rw [fX3_busyPairs_4.eq_2, hu, if_pos (nI_le (by omega) (by omega))]
    rfl
  | d + 1, m, i, b, hj, hm => by
    obtain ⟨m, rfl⟩ : ∃ z, m = z + 1 := ⟨m - 1, by omega⟩
    have hF := FU_ge
    rw [fX3_busyPairs_4.eq_2, hu, if_neg (nI_ge (by omega) (by omega)), n0]
    exact C_bsI hc hu hn (by omega) (rest := bzO x n d (i + 1)) (fun b => by
      unfold fX3_busyPairs_45
      rw [nI_1]
      exact C_bsO hc hu hn d m (i + 1) b (by omega) (by omega)) n FU 0 b (by omega) (by omega)
theorem C_bs {x : XS} {u : Wo} {n : Nat} (hc : CC x (u 6)) (hu : u 1 2 = nI n) (hn : n ≤ 6) : fX3_busyPairs u = some (nI (bzO x n n 0).length, u) := by
  have hF := FU_ge
  unfold fX3_busyPairs
  rw [n0, C_bsO hc hu hn n FU 0 0 (by omega) (by omega), Nat.zero_add]
theorem C_bpI {x : XS} {u : Wo} {n i : Nat} {rest : List Nat} (hc : CC x (u 6)) (hu : u 1 2 = nI n) (hn : n ≤ 6) (hi : i < n) {k56 : Int32 → Int32 → Int32 → Wo → Re} (hk : ∀ b k, b + k < 2 ^ 31 → k < rest.length → k56 (nI (b + k)) (nI b) (nI i) u = some (nI (rest.getD k 0), u)) : ∀ d m j b k, j + d = n → d < m → b + k < 2 ^ 31 → k < (bzI x i rest d j).length → fX3_busyPair_15 fX3_busyPair_42 k56 m (nI (b + k)) (nI b) (nI i) (nI j) u = some (nI ((bzI x i rest d j).getD k 0), u)
  | 0, m, j, b, k, hj, hm, hb, hl => by
    obtain ⟨m, rfl⟩ : ∃ z, m = z + 1 := ⟨m - 1, by omega⟩
    rw [fX3_busyPair_15.eq_2, hu, if_pos (nI_le (by omega) (by omega))]
    exact hk b k hb hl
  | d + 1, m, j, b, k, hj, hm, hb, hl => by
    obtain ⟨m, rfl⟩ : ∃ z, m = z + 1 := ⟨m - 1, by omega⟩
    have ih := C_bpI hc hu hn hi hk d m (j + 1)
    obtain ⟨l1, l2⟩ := CC_len hc (q := i * 6 + j) (by omega)
    rw [fX3_busyPair_15.eq_2, hu, if_neg (nI_ge (by omega) (by omega)), bd_eq (C_underWay u (by omega) (by omega)), l1]
    unfold bzI at hl ⊢
    unfold fX3_busyPair_50
    by_cases e : 0 < (lt x (i * 6 + j)).length
    · rw [if_pos e] at hl ⊢
      rw [if_neg (nI_nle e (by omega))]
      cases k with
      | zero =>
        rw [if_pos (by rw [Nat.add_zero])]
        unfold fX3_busyPair_42
        rw [n6, nI_mul, nI_add]
        rfl
      | succ k =>
        rw [List.length_cons] at hl
        rw [if_neg (fun q => by have := nI_inj (by omega) (by omega) q; omega), nI_1, nI_1, show b + (k + 1) = b + 1 + k by omega, ih (b + 1) k (by omega) (by omega) (by omega) (by omega)]
        rfl
    · rw [if_neg e] at hl ⊢
      rw [show (lt x (i * 6 + j)).length = 0 by omega, if_pos (by decide), nI_1]
      exact ih b k (by omega) (by omega) hb hl
theorem C_bpO {x : XS} {u : Wo} {n : Nat} (hc : CC x (u 6)) (hu : u 1 2 = nI n) (hn : n ≤ 6) : ∀ d m i b k, i + d = n → d < m → b + k < 2 ^ 31 → k < (bzO x n d i).length → fX3_busyPair_4 fX3_busyPair_42 fX3_busyPair_62 m (nI (b + k)) (nI b) (nI i) u = some (nI ((bzO x n d i).getD k 0), u)
  | 0, m, i, b, k, hj, hm, hb, hl => by cases hl
  | d + 1, m, i, b, k, hj, hm, hb, hl => by
    obtain ⟨m, rfl⟩ : ∃ z, m = z + 1 := ⟨m - 1, by omega⟩
    have hF := FU_ge
    rw [fX3_busyPair_4.eq_2, hu, if_neg (nI_ge (by omega) (by omega)), n0]
    exact C_bpI hc hu hn (by omega) (rest := bzO x n d (i + 1)) (fun b k h1 h2 => by
      unfold fX3_busyPair_56
      rw [nI_1]
      exact C_bpO hc hu hn d m (i + 1) b k (by omega) (by omega) h1 h2) n FU 0 b k (by omega) (by omega) hb hl
theorem C_bp {x : XS} {u : Wo} {n k : Nat} (hc : CC x (u 6)) (hu : u 1 2 = nI n) (hn : n ≤ 6) (hk : k < (bzO x n n 0).length) : fX3_busyPair (nI k) u = some (nI ((bzO x n n 0).getD k 0), u) := by
  have hF := FU_ge
  have hl := bzO_len x hn n 0
  unfold fX3_busyPair
  have := C_bpO hc hu hn n FU 0 0 k (by omega) (by omega) (by omega) hk
  rw [Nat.zero_add] at this
  exact this
theorem nI_nm1 {b : Nat} (h : b < 2 ^ 31) : ¬ nI b = -1 := fun q => nI_pos h (by rw [q]; decide)
theorem M_pmI {w : Nat} {x : XS} {v : Wo} {n i : Nat} {rest : List Nat} (hc : MC w n x (v 2)) (hv : v 0 1 = nI n) (hn : n ≤ 6) (hi : i < n) {k61 : Int32 → Int32 → Int32 → Wo → Re} (hk : ∀ b, b + rest.length < 2 ^ 31 → k61 (-1) (nI b) (nI i) v = some (nI (b + rest.length), v)) : ∀ d m j b, j + d = n → d < m → b + (bzI x i rest d j).length < 2 ^ 31 → fX6_pairOf_15 fX6_pairOf_44 k61 m (-1) (nI b) (nI i) (nI j) v = some (nI (b + (bzI x i rest d j).length), v)
  | 0, m, j, b, hj, hm, hb => by
    obtain ⟨m, rfl⟩ : ∃ z, m = z + 1 := ⟨m - 1, by omega⟩
    rw [fX6_pairOf_15.eq_2, hv, if_pos (nI_le (by omega) (by omega))]
    exact hk b hb
  | d + 1, m, j, b, hj, hm, hb => by
    obtain ⟨m, rfl⟩ : ∃ z, m = z + 1 := ⟨m - 1, by omega⟩
    have ih := M_pmI hc hv hn hi hk d m (j + 1)
    obtain ⟨l1, l2⟩ := MC_len hc (q := i * 6 + j) (by omega)
    rw [fX6_pairOf_15.eq_2, hv, if_neg (nI_ge (by omega) (by omega)), bd_eq (M_pairAt v i j), gi_eq (inb_nI (by omega) (by decide)), nI_clamp (by omega), l1]
    unfold bzI at hb ⊢
    unfold fX6_pairOf_55
    by_cases e : 0 < (lt x (i * 6 + j)).length
    · rw [if_pos e] at hb ⊢
      rw [List.length_cons] at hb ⊢
      rw [if_neg (nI_nle e (by omega)), if_neg (nI_nm1 (by omega)), nI_1, nI_1, ih (b + 1) (by omega) (by omega) (by omega), Nat.add_assoc, Nat.add_comm 1]
    · rw [if_neg e] at hb ⊢
      rw [show (lt x (i * 6 + j)).length = 0 by omega, if_pos (by decide), nI_1, ih b (by omega) (by omega) hb]
theorem M_pmO {w : Nat} {x : XS} {v : Wo} {n : Nat} (hc : MC w n x (v 2)) (hv : v 0 1 = nI n) (hn : n ≤ 6) : ∀ d m i b, i + d = n → d < m → b + (bzO x n d i).length < 2 ^ 31 → fX6_pairOf_4 fX6_pairOf_44 fX6_pairOf_67 m (-1) (nI b) (nI i) v = some (nI (b + (bzO x n d i).length), v)
  | 0, m, i, b, hj, hm, hb => by
    obtain ⟨m, rfl⟩ : ∃ z, m = z + 1 := ⟨m - 1, by omega⟩
    rw [fX6_pairOf_4.eq_2, hv, if_pos (nI_le (by omega) (by omega))]
    rfl
  | d + 1, m, i, b, hj, hm, hb => by
    obtain ⟨m, rfl⟩ : ∃ z, m = z + 1 := ⟨m - 1, by omega⟩
    have hF := FU_ge
    rw [fX6_pairOf_4.eq_2, hv, if_neg (nI_ge (by omega) (by omega)), n0]
    exact M_pmI hc hv hn (by omega) (rest := bzO x n d (i + 1)) (fun b h1 => by
      unfold fX6_pairOf_61
      rw [nI_1]
      exact M_pmO hc hv hn d m (i + 1) b (by omega) (by omega) h1) n FU 0 b (by omega) (by omega) hb
theorem M_pm {w : Nat} {x : XS} {v : Wo} {n : Nat} (hc : MC w n x (v 2)) (hv : v 0 1 = nI n) (hn : n ≤ 6) : fX6_pairOf (-1) v = some (nI (bzO x n n 0).length, v) := by
  have hF := FU_ge
  have hl := bzO_len x hn n 0
  unfold fX6_pairOf
  rw [n0, M_pmO hc hv hn n FU 0 0 (by omega) (by omega) (by omega), Nat.zero_add]
theorem M_ppI {w : Nat} {x : XS} {v : Wo} {n i : Nat} {rest : List Nat} (hc : MC w n x (v 2)) (hv : v 0 1 = nI n) (hn : n ≤ 6) (hi : i < n) {k61 : Int32 → Int32 → Int32 → Wo → Re} (hk : ∀ b k, b + k < 2 ^ 31 → k < rest.length → k61 (nI (b + k)) (nI b) (nI i) v = some (nI (rest.getD k 0), v)) : ∀ d m j b k, j + d = n → d < m → b + k < 2 ^ 31 → k < (bzI x i rest d j).length → fX6_pairOf_15 fX6_pairOf_44 k61 m (nI (b + k)) (nI b) (nI i) (nI j) v = some (nI ((bzI x i rest d j).getD k 0), v)
  | 0, m, j, b, k, hj, hm, hb, hl => by
    obtain ⟨m, rfl⟩ : ∃ z, m = z + 1 := ⟨m - 1, by omega⟩
    rw [fX6_pairOf_15.eq_2, hv, if_pos (nI_le (by omega) (by omega))]
    exact hk b k hb hl
  | d + 1, m, j, b, k, hj, hm, hb, hl => by
    obtain ⟨m, rfl⟩ : ∃ z, m = z + 1 := ⟨m - 1, by omega⟩
    have ih := M_ppI hc hv hn hi hk d m (j + 1)
    obtain ⟨l1, l2⟩ := MC_len hc (q := i * 6 + j) (by omega)
    rw [fX6_pairOf_15.eq_2, hv, if_neg (nI_ge (by omega) (by omega)), bd_eq (M_pairAt v i j), gi_eq (inb_nI (by omega) (by decide)), nI_clamp (by omega), l1]
    unfold bzI at hl ⊢
    unfold fX6_pairOf_55
    by_cases e : 0 < (lt x (i * 6 + j)).length
    · rw [if_pos e] at hl ⊢
      rw [if_neg (nI_nle e (by omega))]
      cases k with
      | zero =>
        rw [if_pos (by rw [Nat.add_zero])]
        unfold fX6_pairOf_44
        rw [n6, nI_mul, nI_add, Nat.mul_comm 6]
        rfl
      | succ k =>
        rw [List.length_cons] at hl
        rw [if_neg (fun q => by have := nI_inj (by omega) (by omega) q; omega), nI_1, nI_1, show b + (k + 1) = b + 1 + k by omega, ih (b + 1) k (by omega) (by omega) (by omega) (by omega)]
        rfl
    · rw [if_neg e] at hl ⊢
      rw [show (lt x (i * 6 + j)).length = 0 by omega, if_pos (by decide), nI_1]
      exact ih b k (by omega) (by omega) hb hl
theorem M_ppO {w : Nat} {x : XS} {v : Wo} {n : Nat} (hc : MC w n x (v 2)) (hv : v 0 1 = nI n) (hn : n ≤ 6) : ∀ d m i b k, i + d = n → d < m → b + k < 2 ^ 31 → k < (bzO x n d i).length → fX6_pairOf_4 fX6_pairOf_44 fX6_pairOf_67 m (nI (b + k)) (nI b) (nI i) v = some (nI ((bzO x n d i).getD k 0), v)
  | 0, m, i, b, k, hj, hm, hb, hl => by cases hl
  | d + 1, m, i, b, k, hj, hm, hb, hl => by
    obtain ⟨m, rfl⟩ : ∃ z, m = z + 1 := ⟨m - 1, by omega⟩
    have hF := FU_ge
    rw [fX6_pairOf_4.eq_2, hv, if_neg (nI_ge (by omega) (by omega)), n0]
    exact M_ppI hc hv hn (by omega) (rest := bzO x n d (i + 1)) (fun b k h1 h2 => by
      unfold fX6_pairOf_61
      rw [nI_1]
      exact M_ppO hc hv hn d m (i + 1) b k (by omega) (by omega) h1 h2) n FU 0 b k (by omega) (by omega) hb hl
theorem M_pp {w : Nat} {x : XS} {v : Wo} {n k : Nat} (hc : MC w n x (v 2)) (hv : v 0 1 = nI n) (hn : n ≤ 6) (hk : k < (bzO x n n 0).length) : fX6_pairOf (nI k) v = some (nI ((bzO x n n 0).getD k 0), v) := by
  have hF := FU_ge
  have hl := bzO_len x hn n 0
  unfold fX6_pairOf
  have := M_ppO hc hv hn n FU 0 0 k (by omega) (by omega) (by omega) hk
  rw [Nat.zero_add] at this
  exact this
theorem come_both {B : Nat} {u v : Wo} (hB : B < 268435454) {w n : Nat} {H : Nat → XS} {kept : Nat} {L : Nat → Nat → Int32} {ac : Int32} (ha : AG w n B H kept L ac) (hc : CG w n H kept L ac u) (hm : MG w n H kept ac v) (h5 : u 0 5 = v 0 8) (hb : ∃ b, b ≤ 10 ∧ u 0 5 = nI b) (h6 : u 0 6 = v 0 9) (hp : ∃ p, p ≤ 15 ∧ u 0 6 = nI p) (ht : ∀ k, k < 7 → u 13 k = v 8 k) {i j : Nat} (hi : i < n) (hj : j < n) (hl : lt (H kept) (i * 6 + j) ≠ []) :
    ∃ r u3 v3, fX5_bring (nI i) (nI j) u = some (r, u3) ∧ fX6_come (nI i) (nI j) v = some (r, v3) ∧ (r = -3 ∨ 0 ≤ r) ∧ GG (B + 1) u3 v3 := by
  have g6 := ha.2.2.1
  have inv := ha.2.2.2.2.2.1 kept (Nat.le_refl _)
  have hd : i ≠ j := by
    cases e : lt (H kept) (i * 6 + j) with
    | nil => exact (hl e).elim
    | cons a t => exact (ST_lt inv.2.1 (by omega) e).2.2
  obtain ⟨r, u3, v3, v1, r3, v2, a1, a2, a3, ⟨z, a4, a5⟩, a6, a7⟩ := op_bring hB ha hc hm h5 hb h6 hp ht hi hj hl
  have n2 := ha.2.1
  refine ⟨r, u3, v3, a1, ?_, a6, a7⟩
  obtain ⟨l1, l2⟩ := MC_len hm.2.2.2.1 (q := i * 6 + j) (by omega)
  have hlen : 0 < (lt (H kept) (i * 6 + j)).length := List.length_pos_iff.mpr hl
  have k1 : fX6_isKeeper (nI i) v = some (1, v) := by
    rcases isk ⟨by omega, g6⟩ (nI i) hc.2.1 hm.2.1 with ⟨_, _, _, _, k2⟩ | ⟨q, _, _⟩
    · exact k2
    · exact (q i hi rfl).elim
  have k2 : fX6_isKeeper (nI j) v = some (1, v) := by
    rcases isk ⟨by omega, g6⟩ (nI j) hc.2.1 hm.2.1 with ⟨_, _, _, _, k2⟩ | ⟨q, _, _⟩
    · exact k2
    · exact (q j hj rfl).elim
  unfold fX6_come
  rw [bd_eq k1, if_neg (by decide), bd_eq k2, if_neg (by decide), if_neg (fun q => hd (nI_inj (by omega) (by omega) q)), bd_eq (M_pairAt v i j), gi_eq (inb_nI (by omega) (by decide)), nI_clamp (by omega), l1, if_neg (nI_ne0 hlen (by omega)), bd_eq a2, bd_eq a3, bd_eq a4]
  rcases a5 with ⟨q1, q2⟩ | ⟨q1, q2⟩
  · rw [if_pos q1, q2]; rfl
  · rw [if_neg q1, q2]; rfl
theorem op_come {B : Nat} {u v : Wo} (hB : B < 268435454) (h : GG B u v) (x1 x2 : Int32) : RS (B + 1) (fX5_come x1 x2 u) (fX6_come x1 x2 v) := by
  have hG := h
  obtain ⟨w, n, H, kept, L, ac, ha, hc, hm, h5, hb, h6, hp, ht⟩ := h
  have g2 := ha.2.1
  have g6 := ha.2.2.1
  have inv := ha.2.2.2.2.2.1 kept (Nat.le_refl _)
  rcases isk ⟨by omega, g6⟩ x1 hc.2.1 hm.2.1 with ⟨i, hi, rfl, k1, k2⟩ | ⟨-, k1, k2⟩
  · rcases isk ⟨by omega, g6⟩ x2 hc.2.1 hm.2.1 with ⟨j, hj, rfl, k3, k4⟩ | ⟨-, k3, k4⟩
    · by_cases e : nI i = nI j
      · unfold fX5_come fX6_come fX3_isPair
        rw [bd_eq k2, if_neg (by decide), bd_eq k4, if_neg (by decide), if_pos e]
        refine RS_stay hG (Nat.le_succ B) ?_ rfl
        rw [bd_eq (show bd (fX3_isKeeper (nI i) u) _ = some (0, u) from by rw [bd_eq k1, if_neg (by decide), bd_eq k3, if_neg (by decide), if_pos e]; rfl), if_pos rfl]
      · have ep : fX3_isPair (nI i) (nI j) u = some (1, u) := by
          unfold fX3_isPair
          rw [bd_eq k1, if_neg (by decide), bd_eq k3, if_neg (by decide), if_neg e]; rfl
        obtain ⟨l1, l2⟩ := MC_len hm.2.2.2.1 (q := i * 6 + j) (by omega)
        obtain ⟨c1, c2⟩ := CC_len hc.2.2.2.2.1 (q := i * 6 + j) (by omega)
        by_cases el : lt (H kept) (i * 6 + j) = []
        · rw [el] at l1 c1
          unfold fX5_come fX6_come
          rw [bd_eq ep, if_neg (by decide), bd_eq (C_underWay u (by omega) (by omega)), c1, if_pos (show nI ([] : List (Nat × Nat)).length = 0 from rfl), bd_eq k2, if_neg (by decide), bd_eq k4, if_neg (by decide), if_neg e, bd_eq (M_pairAt v i j), gi_eq (inb_nI (by omega) (by decide)), nI_clamp (by omega), l1, if_pos (show nI ([] : List (Nat × Nat)).length = 0 from rfl)]
          exact RS_stay hG (Nat.le_succ B) rfl rfl
        · obtain ⟨r, u3, v3, a1, a2, -, a4⟩ := come_both hB ha hc hm h5 hb h6 hp ht hi hj el
          have hlen : 0 < (lt (H kept) (i * 6 + j)).length := List.length_pos_iff.mpr el
          refine ⟨r, u3, v3, ?_, a2, a4⟩
          unfold fX5_come
          rw [bd_eq ep, if_neg (by decide), bd_eq (C_underWay u (by omega) (by omega)), c1, if_neg (nI_ne0 hlen (by omega)), bd_eq a1]
    · unfold fX5_come fX6_come fX3_isPair
      rw [bd_eq k2, if_neg (by decide), bd_eq k4, if_pos rfl]
      refine RS_stay hG (Nat.le_succ B) ?_ rfl
      rw [bd_eq (show bd (fX3_isKeeper (nI i) u) _ = some (0, u) from by rw [bd_eq k1, if_neg (by decide), bd_eq k3, if_pos rfl]; rfl), if_pos rfl]
  · unfold fX5_come fX6_come fX3_isPair
    rw [bd_eq k2, if_pos rfl]
    refine RS_stay hG (Nat.le_succ B) ?_ rfl
    rw [bd_eq (show bd (fX3_isKeeper x1 u) _ = some (0, u) from by rw [bd_eq k1, if_pos rfl]; rfl), if_pos rfl]
theorem seed_next {a : Nat} (ha : a < 2 ^ 31) : ((((lN a * (1103515245 : Int64)) + (12345 : Int64)) - ((lN a * (1103515245 : Int64)) + (12345 : Int64)) / (2147483648 : Int64) * (2147483648 : Int64)) / (8 : Int64)) = lN ((a * 1103515245 + 12345) % 2147483648 / 8) := by
  have h : a * 1103515245 + 12345 < 2 ^ 63 := by omega
  rw [show (1103515245 : Int64) = lN 1103515245 from rfl, show (12345 : Int64) = lN 12345 from rfl, show (2147483648 : Int64) = lN 2147483648 from rfl, show (8 : Int64) = lN 8 from rfl, lN_mul, lN_add, pk_lRem h (by decide) (by decide), pk_lDiv (by omega) (by decide) (by decide)]
theorem gD_mem : ∀ (l : List Nat) (k : Nat), k < l.length → l.getD k 0 ∈ l
  | [], k, h => by cases h
  | a :: l, 0, _ => List.mem_cons_self
  | a :: l, k + 1, h => List.mem_cons_of_mem _ (gD_mem l k (by rw [List.length_cons] at h; omega))
theorem run_loop : ∀ (d m1 m2 a c k : Nat) (B : Nat) (u v : Wo), a < 2 ^ 31 → c + d = k → k ≤ 100 → d < m1 → d + 1 < m2 → B + d < 268435454 → GG B u v → RS (B + d) (fX5_run_23 fX5_run_107 m1 (nI k) (lN a) (nI c) u) (fX6_run_25 fX6_run_132 m2 (nI k) (lN a) (nI c) 1 v)
  | 0, m1, m2, a, c, k, B, u, v, ha, hk, hk2, hm1, hm2, hB, hG => by
    obtain ⟨m1, rfl⟩ : ∃ z, m1 = z + 1 := ⟨m1 - 1, by omega⟩
    obtain ⟨m2, rfl⟩ : ∃ z, m2 = z + 1 := ⟨m2 - 1, by omega⟩
    obtain rfl : c = k := by omega
    rw [fX5_run_23.eq_2, fX6_run_25.eq_2, if_pos (nI_le (by omega) (by omega)), if_pos (nI_le (by omega) (by omega))]
    exact RS_stay hG (Nat.le_refl _) rfl rfl
  | d + 1, m1, m2, a, c, k, B, u, v, hla, hk, hk2, hm1, hm2, hB, hG => by
    obtain ⟨m1, rfl⟩ : ∃ z, m1 = z + 1 := ⟨m1 - 1, by omega⟩
    obtain ⟨m2, rfl⟩ : ∃ z, m2 = z + 2 := ⟨m2 - 2, by omega⟩
    have hG2 := hG
    obtain ⟨w, n, H, kept, L, ac, ha, hc, hm, h5, hb, h6, hp, ht⟩ := hG
    have g2 := ha.2.1
    have g6 := ha.2.2.1
    have hlen := bzO_len (H kept) g6 n 0
    have nk : ¬ nI k ≤ nI c := nI_ge (by omega) (by omega)
    rw [fX5_run_23.eq_2, fX6_run_25.eq_2, if_neg nk, if_neg nk, if_neg (by decide), bd_eq (C_bs hc.2.2.2.2.1 hc.2.1 g6), bd_eq (M_pm hm.2.2.2.1 hm.2.1 g6)]
    by_cases e0 : 0 < (bzO (H kept) n n 0).length
    · rw [if_pos (show (0 : Int32) < nI (bzO (H kept) n n 0).length from by rw [n0]; exact nI_lt e0 (by omega)), if_neg (nI_nle e0 (by omega))]
      unfold fX6_run_53
      rw [if_neg (by decide)]
      have hne : decide (¬ (nI (bzO (H kept) n n 0).length).toInt64 = (0 : Int64)) = true := by
        rw [nI_l (by omega)]
        refine decide_eq_true (fun q => ?_)
        have := (lN_eq (a := (bzO (H kept) n n 0).length) (b := 0) (by omega) (by decide)).mp q
        omega
      have hix : (lN a - lN a / (nI (bzO (H kept) n n 0).length).toInt64 * (nI (bzO (H kept) n n 0).length).toInt64).toInt32 = nI (a % (bzO (H kept) n n 0).length) := by
        rw [nI_l (by omega), pk_lRem (by omega) e0 (by omega), lN_i]
      have hlt := Nat.mod_lt a e0
      rw [gi_eq hne, gi_eq hne, hix, bd_eq (C_bp hc.2.2.2.2.1 hc.2.1 g6 hlt), bd_eq (M_pp hm.2.2.2.1 hm.2.1 g6 hlt)]
      have hmem : (bzO (H kept) n n 0).getD (a % (bzO (H kept) n n 0).length) 0 ∈ bzO (H kept) n n 0 := by
        exact gD_mem _ _ hlt
      obtain ⟨i, j, hi, hj, eq, hl⟩ := bzO_mem n 0 hmem
      rw [eq] at hl ⊢
      have d6 : nI (i * 6 + j) / (6 : Int32) = nI i := by
        rw [n6, pk_div (by omega) (by decide) (by decide), show (i * 6 + j) / 6 = i by omega]
      have r6 : nI (i * 6 + j) - nI i * (6 : Int32) = nI j := by
        rw [n6, nI_mul, nI_sub (by omega), show i * 6 + j - i * 6 = j by omega]
      rw [d6, r6]
      obtain ⟨r, u3, v3, a1, a2, a3, a4⟩ := come_both (by omega) ha hc hm h5 hb h6 hp ht (by omega) hj hl
      rw [bd_eq a1, bd_eq a2]
      by_cases er : r = -3
      · rw [if_pos er, if_pos (by rw [er]; decide)]
        unfold fX6_run_94
        rw [if_pos rfl]
        unfold fX6_run_108 fX6_run_129
        rw [show nI c + (0 : Int32) = nI c from by rw [n0, nI_add, Nat.add_zero], fX6_run_25.eq_2, if_neg nk, if_pos rfl]
        exact RS_stay a4 (by omega) rfl rfl
      · have hr : 0 ≤ r := by
          rcases a3 with q | q
          · exact (er q).elim
          · exact q
        rw [if_neg er, if_neg (by intro q; exact Int32.not_le.mpr q hr)]
        unfold fX6_run_94
        rw [if_neg (by decide)]
        unfold fX6_run_108 fX6_run_129
        rw [seed_next hla, nI_1]
        have := run_loop d m1 (m2 + 1) ((a * 1103515245 + 12345) % 2147483648 / 8) (c + 1) k (B + 1) u3 v3 (by omega) (by omega) hk2 (by omega) (by omega) (by omega) a4
        rw [show B + (d + 1) = B + 1 + d by omega]
        exact this
    · rw [show (bzO (H kept) n n 0).length = 0 by omega, if_neg (by decide), if_pos (by decide)]
      unfold fX6_run_53
      rw [if_pos rfl]
      unfold fX6_run_129
      rw [fX6_run_25.eq_2, if_neg nk, if_pos rfl]
      exact RS_stay hG2 (by omega) rfl rfl
theorem op_run {B : Nat} {u v : Wo} (hB : B < 268435000) (h : GG B u v) (x1 x2 : Int32) : RS (B + 100) (fX5_run x1 x2 u) (fX6_run x1 x2 v) := by
  have hF := FU_ge
  unfold fX5_run fX6_run fX6_in
  by_cases e1 : x1 < 1
  · rw [if_pos e1, if_pos e1]
    exact RS_stay h (by omega) rfl rfl
  · rw [if_neg e1, if_neg e1]
    by_cases e2 : (100 : Int32) < x1
    · rw [if_pos e2, if_pos e2]
      exact RS_stay h (by omega) rfl rfl
    · rw [if_neg e2, if_neg e2]
      have e0 : ¬ x1 < 0 := fun q => e1 (Int32.lt_trans q (by decide))
      obtain ⟨k, hk, rfl⟩ := nI_of e0
      have hk1 : 1 ≤ k := by
        rcases Nat.eq_zero_or_pos k with q | q
        · subst q; exact (e1 (by decide)).elim
        · exact q
      have hk2 : k ≤ 100 := by
        rcases Nat.lt_or_ge 100 k with q | q
        · exact (e2 (nI_lt q (by omega))).elim
        · exact q
      by_cases e3 : (0 : Int32) ≤ x2
      · obtain ⟨a, ha, rfl⟩ := nI_of (show ¬ x2 < 0 from Int32.not_lt.mpr e3)
        rw [if_pos e3]
        have := run_loop k FU FU a 0 k B u v ha (by omega) hk2 (by omega) (by omega) (by omega) h
        obtain ⟨r, u3, v3, z1, z2, z3⟩ := this
        refine ⟨r, u3, v3, ?_, ?_, GG_mono z3 (by omega)⟩
        · rw [nI_l ha]; exact z1
        · rw [bd_eq (show fX6_in_15 1 v = some (1, v) from rfl), if_neg (by decide), if_pos e3, nI_l ha]; exact z2
      · rw [if_neg e3]
        exact RS_stay h (by omega) rfl (by rw [bd_eq (show fX6_in_15 1 v = some (1, v) from rfl), if_neg (by decide), if_neg e3]; rfl)
