-- plain facts: numbers, worlds, and a small logic of runs that answer
theorem n0 : (0 : Int32) = nI 0 := Int32.toBitVec_inj.mp rfl
theorem n1 : (1 : Int32) = nI 1 := Int32.toBitVec_inj.mp rfl
theorem n2 : (2 : Int32) = nI 2 := Int32.toBitVec_inj.mp rfl
theorem n3 : (3 : Int32) = nI 3 := Int32.toBitVec_inj.mp rfl
theorem n4 : (4 : Int32) = nI 4 := Int32.toBitVec_inj.mp rfl
theorem n5 : (5 : Int32) = nI 5 := Int32.toBitVec_inj.mp rfl
theorem n6 : (6 : Int32) = nI 6 := Int32.toBitVec_inj.mp rfl
theorem n7 : (7 : Int32) = nI 7 := Int32.toBitVec_inj.mp rfl
theorem n8 : (8 : Int32) = nI 8 := Int32.toBitVec_inj.mp rfl
theorem n9 : (9 : Int32) = nI 9 := Int32.toBitVec_inj.mp rfl
theorem n10 : (10 : Int32) = nI 10 := Int32.toBitVec_inj.mp rfl
theorem n11 : (11 : Int32) = nI 11 := Int32.toBitVec_inj.mp rfl
theorem n12 : (12 : Int32) = nI 12 := Int32.toBitVec_inj.mp rfl
theorem n13 : (13 : Int32) = nI 13 := Int32.toBitVec_inj.mp rfl
theorem n14 : (14 : Int32) = nI 14 := Int32.toBitVec_inj.mp rfl
theorem n15 : (15 : Int32) = nI 15 := Int32.toBitVec_inj.mp rfl
theorem n18 : (18 : Int32) = nI 18 := Int32.toBitVec_inj.mp rfl
theorem n21 : (21 : Int32) = nI 21 := Int32.toBitVec_inj.mp rfl
theorem n23 : (23 : Int32) = nI 23 := Int32.toBitVec_inj.mp rfl
theorem n24 : (24 : Int32) = nI 24 := Int32.toBitVec_inj.mp rfl
theorem n25 : (25 : Int32) = nI 25 := Int32.toBitVec_inj.mp rfl
theorem n30 : (30 : Int32) = nI 30 := Int32.toBitVec_inj.mp rfl
theorem n31 : (31 : Int32) = nI 31 := Int32.toBitVec_inj.mp rfl
theorem n36 : (36 : Int32) = nI 36 := Int32.toBitVec_inj.mp rfl
theorem n37 : (37 : Int32) = nI 37 := Int32.toBitVec_inj.mp rfl
theorem n38 : (38 : Int32) = nI 38 := Int32.toBitVec_inj.mp rfl
theorem n44 : (44 : Int32) = nI 44 := Int32.toBitVec_inj.mp rfl
theorem n59 : (59 : Int32) = nI 59 := Int32.toBitVec_inj.mp rfl
theorem n60 : (60 : Int32) = nI 60 := Int32.toBitVec_inj.mp rfl
theorem n80 : (80 : Int32) = nI 80 := Int32.toBitVec_inj.mp rfl
theorem n86 : (86 : Int32) = nI 86 := Int32.toBitVec_inj.mp rfl
theorem n90 : (90 : Int32) = nI 90 := Int32.toBitVec_inj.mp rfl
theorem n92 : (92 : Int32) = nI 92 := Int32.toBitVec_inj.mp rfl
theorem n98 : (98 : Int32) = nI 98 := Int32.toBitVec_inj.mp rfl
theorem n100 : (100 : Int32) = nI 100 := Int32.toBitVec_inj.mp rfl
theorem n126 : (126 : Int32) = nI 126 := Int32.toBitVec_inj.mp rfl
theorem n127 : (127 : Int32) = nI 127 := Int32.toBitVec_inj.mp rfl
theorem n133 : (133 : Int32) = nI 133 := Int32.toBitVec_inj.mp rfl
theorem n134 : (134 : Int32) = nI 134 := Int32.toBitVec_inj.mp rfl
theorem n139 : (139 : Int32) = nI 139 := Int32.toBitVec_inj.mp rfl
theorem n140 : (140 : Int32) = nI 140 := Int32.toBitVec_inj.mp rfl
theorem n190 : (190 : Int32) = nI 190 := Int32.toBitVec_inj.mp rfl
theorem n270 : (270 : Int32) = nI 270 := Int32.toBitVec_inj.mp rfl
theorem n300 : (300 : Int32) = nI 300 := Int32.toBitVec_inj.mp rfl
theorem n608 : (608 : Int32) = nI 608 := Int32.toBitVec_inj.mp rfl
theorem n609 : (609 : Int32) = nI 609 := Int32.toBitVec_inj.mp rfl
theorem n610 : (610 : Int32) = nI 610 := Int32.toBitVec_inj.mp rfl
theorem n611 : (611 : Int32) = nI 611 := Int32.toBitVec_inj.mp rfl
theorem n612 : (612 : Int32) = nI 612 := Int32.toBitVec_inj.mp rfl
theorem n618 : (618 : Int32) = nI 618 := Int32.toBitVec_inj.mp rfl
theorem n1023 : (1023 : Int32) = nI 1023 := Int32.toBitVec_inj.mp rfl
theorem n1024 : (1024 : Int32) = nI 1024 := Int32.toBitVec_inj.mp rfl
theorem n1040 : (1040 : Int32) = nI 1040 := Int32.toBitVec_inj.mp rfl
theorem n1230 : (1230 : Int32) = nI 1230 := Int32.toBitVec_inj.mp rfl
theorem n19158 : (19158 : Int32) = nI 19158 := Int32.toBitVec_inj.mp rfl
theorem n35670 : (35670 : Int32) = nI 35670 := Int32.toBitVec_inj.mp rfl
theorem n182400 : (182400 : Int32) = nI 182400 := Int32.toBitVec_inj.mp rfl
theorem nI_mul (a b : Nat) : nI a * nI b = nI (a * b) := by
  apply Int32.toBitVec_inj.mp
  show BitVec.ofNat 32 a * BitVec.ofNat 32 b = BitVec.ofNat 32 (a * b)
  exact (BitVec.ofNat_mul ..).symm
theorem nI_sub {a b : Nat} (h : b ≤ a) : nI a - nI b = nI (a - b) := by
  have h1 : nI (a - b) + nI b = nI a := by rw [nI_add, Nat.sub_add_cancel h]
  rw [← h1]
  exact Int32.add_sub_cancel _ _
theorem nI_inj {a b : Nat} (ha : a < 2 ^ 31) (hb : b < 2 ^ 31) (h : nI a = nI b) : a = b := (nI_eq ha hb).mp h
theorem inb_nI {k n : Nat} (h : k < n) (hn : n ≤ 1000000) : inb (nI k) n = true := by
  simp only [inb, Bool.and_eq_true, decide_eq_true_eq]
  exact ⟨nI_pos (by omega), by rw [nI_clamp (by omega)]; exact h⟩
theorem upd_same (f : Nat → Int32) (k : Nat) (v : Int32) : upd f k v k = v := if_pos rfl
theorem upd_ne (f : Nat → Int32) {k j : Nat} (v : Int32) (h : j ≠ k) : upd f k v j = f j := if_neg h
theorem wr_same (u : Wo) (c k : Nat) (v : Int32) : wr u c k v c = upd (u c) k v := if_pos rfl
theorem wr_ne (u : Wo) {c d : Nat} (k : Nat) (v : Int32) (h : d ≠ c) : wr u c k v d = u d := if_neg h
/-- a run answers, and P holds of its answer and of the numbers behind it -/
def Gd (x : Re) (P : Int32 → Wo → Prop) : Prop := ∃ (r : Int32) (u : Wo), x = some (r, u) ∧ P r u
theorem gd_bd {x : Re} {f : Int32 → Wo → Re} {P Q : Int32 → Wo → Prop} (h : Gd x P) (k : ∀ r u, P r u → Gd (f r u) Q) : Gd (bd x f) Q := by
  obtain ⟨r, u, rfl, h⟩ := h
  exact k r u h
theorem gd_eq {x : Re} {f : Int32 → Wo → Re} {r : Int32} {u : Wo} {Q : Int32 → Wo → Prop} (h : x = some (r, u)) (k : Gd (f r u) Q) : Gd (bd x f) Q := by
  subst h
  exact k
theorem gd_bw {u : Wo} {f : Wo → Re} {Q : Int32 → Wo → Prop} (k : Gd (f u) Q) : Gd (bw u f) Q := k
theorem gd_bn {e : Int32} {f : Int32 → Re} {Q : Int32 → Wo → Prop} (k : Gd (f e) Q) : Gd (bn e f) Q := k
theorem gd_gi {b : Bool} {x : Re} {Q : Int32 → Wo → Prop} (h : b = true) (k : Gd x Q) : Gd (gi b x) Q := by
  subst h
  exact k
theorem gd_ret {r : Int32} {u : Wo} {Q : Int32 → Wo → Prop} (h : Q r u) : Gd (some (r, u)) Q := ⟨r, u, rfl, h⟩
theorem gd_if {c : Prop} [Decidable c] {x y : Re} {Q : Int32 → Wo → Prop} (h1 : c → Gd x Q) (h2 : ¬ c → Gd y Q) : Gd (if c then x else y) Q := by
  by_cases h : c
  · rw [if_pos h]; exact h1 h
  · rw [if_neg h]; exact h2 h
theorem gd_ip {c : Prop} [Decidable c] {x y : Re} {Q : Int32 → Wo → Prop} (h : c) (k : Gd x Q) : Gd (if c then x else y) Q := by rw [if_pos h]; exact k
theorem gd_in {c : Prop} [Decidable c] {x y : Re} {Q : Int32 → Wo → Prop} (h : ¬ c) (k : Gd y Q) : Gd (if c then x else y) Q := by rw [if_neg h]; exact k
theorem gd_mono {x : Re} {P Q : Int32 → Wo → Prop} (h : Gd x P) (k : ∀ r u, P r u → Q r u) : Gd x Q := by
  obtain ⟨r, u, e, h⟩ := h
  exact ⟨r, u, e, k r u h⟩
theorem gd_of {x : Re} {r : Int32} {u : Wo} (h : x = some (r, u)) : Gd x (fun r1 u1 => r1 = r ∧ u1 = u) := ⟨r, u, h, rfl, rfl⟩
theorem gd_st {x : Re} {r : Int32} {u : Wo} {P : Int32 → Wo → Prop} (h : Gd x P) (e : x = some (r, u)) : P r u := by
  obtain ⟨r1, u1, e1, h1⟩ := h
  rw [e] at e1
  injection e1 with e1
  injection e1 with e1 e2
  subst e1; subst e2
  exact h1
/-- a loop: s is what it carries, d how many turns are left at most -/
theorem lp_post {σ : Type} (F : Nat → σ → Re) (P : Nat → σ → Prop) (Q : Re → Prop) (h0 : ∀ n s, P 0 s → Q (F (n + 1) s)) (hs : ∀ n d s, P (d + 1) s → Q (F (n + 1) s) ∨ ∃ t, F (n + 1) s = F n t ∧ P d t) : ∀ (d m : Nat) (s : σ), d < m → P d s → Q (F m s) := by
  intro d
  induction d with
  | zero =>
    intro m s hm hp
    obtain ⟨n, rfl⟩ : ∃ n, m = n + 1 := ⟨m - 1, by omega⟩
    exact h0 n s hp
  | succ d ih =>
    intro m s hm hp
    obtain ⟨n, rfl⟩ : ∃ n, m = n + 1 := ⟨m - 1, by omega⟩
    rcases hs n d s hp with h | ⟨t, e, ht⟩
    · exact h
    · rw [e]
      exact ih n t (by omega) ht
/-- a loop that ends in k only -/
theorem lp_gd {σ : Type} (F : Nat → σ → Re) (P : Nat → σ → Prop) (Q : Int32 → Wo → Prop) (h0 : ∀ n s, P 0 s → Gd (F (n + 1) s) Q) (hs : ∀ n d s, P (d + 1) s → Gd (F (n + 1) s) Q ∨ ∃ t, F (n + 1) s = F n t ∧ P d t) {d m : Nat} {s : σ} (hd : d < m) (hp : P d s) : Gd (F m s) Q := lp_post F P (fun x => Gd x Q) h0 hs d m s hd hp
theorem bd_eq {x : Re} {f : Int32 → Wo → Re} {r : Int32} {u : Wo} (h : x = some (r, u)) : bd x f = f r u := by subst h; rfl
theorem gi_eq {b : Bool} {x : Re} (h : b = true) : gi b x = x := by subst h; rfl
-- the smallest methods of Stand
theorem C_get (u : Wo) {k : Nat} (h : k < 618) : fX3_get (nI k) u = some (u 6 k, u) := by
  unfold fX3_get fX3_get_23
  rw [if_neg (nI_pos (by omega)), if_neg (show ¬ (618 : Int32) ≤ nI k from nI_ge (b := 618) h (by decide)), gi_eq (inb_nI h (by omega)), nI_clamp (by omega)]
theorem C_put (u : Wo) {k : Nat} (v : Int32) (h : k < 618) : fX3_put (nI k) v u = some (0, wr u 6 k v) := by
  unfold fX3_put fX3_put_20
  rw [if_neg (nI_pos (by omega)), if_neg (show ¬ (618 : Int32) ≤ nI k from nI_ge (b := 618) h (by decide)), gi_eq (inb_nI h (by omega)), nI_clamp (by omega)]
  rfl
theorem C_of (u : Wo) {i f : Nat} (h : f + i < 618) : fX3_of (nI i) (nI f) u = some (u 6 (f + i), u) := by
  unfold fX3_of
  rw [nI_add, bd_eq (C_get u h)]
theorem C_set (u : Wo) {i f : Nat} (v : Int32) (h : f + i < 618) : fX3_set (nI i) (nI f) v u = some (0, wr u 6 (f + i) v) := by
  unfold fX3_set
  rw [nI_add, bd_eq (C_put u v h)]
theorem C_known (u : Wo) {i j : Nat} (hi : i < 6) (hj : j < 6) : fX3_known (nI i) (nI j) u = some (u 6 (44 + i * 6 + j), u) := by
  unfold fX3_known
  rw [n44, n6, nI_mul, nI_add, nI_add, bd_eq (C_get u (by omega))]
theorem C_setKnown (u : Wo) {i j : Nat} (v : Int32) (hi : i < 6) (hj : j < 6) : fX3_setKnown (nI i) (nI j) v u = some (0, wr u 6 (44 + i * 6 + j) v) := by
  unfold fX3_setKnown
  rw [n44, n6, nI_mul, nI_add, nI_add, bd_eq (C_put u v (by omega))]
theorem C_queueOf (u : Wo) (i : Nat) : fX3_queueOf (nI i) u = some (nI (98 + i * 7), u) := by
  unfold fX3_queueOf
  rw [n98, n7, nI_mul, nI_add]
theorem C_lettersOf (u : Wo) (i j : Nat) : fX3_lettersOf (nI i) (nI j) u = some (nI (140 + (i * 6 + j) * 13), u) := by
  unfold fX3_lettersOf
  rw [n140, n6, n13, nI_mul, nI_add, nI_mul, nI_add]
theorem C_underWay (u : Wo) {i j : Nat} (hi : i < 6) (hj : j < 6) : fX3_underWay (nI i) (nI j) u = some (u 6 (140 + (i * 6 + j) * 13), u) := by
  unfold fX3_underWay
  rw [bd_eq (C_lettersOf u i j), bd_eq (C_get u (by omega))]
theorem C_letterAt (u : Wo) {i j k : Nat} (hi : i < 6) (hj : j < 6) (hk : k < 12) : fX3_letterAt (nI i) (nI j) (nI k) u = some (u 6 (140 + (i * 6 + j) * 13 + 1 + k), u) := by
  unfold fX3_letterAt
  rw [bd_eq (C_lettersOf u i j), n1, nI_add, nI_add, bd_eq (C_get u (by omega))]
theorem C_sentInAll (u : Wo) : fX3_sentInAll u = some (u 6 608 + u 6 609 + u 6 610, u) := by
  unfold fX3_sentInAll
  rw [n608, n609, n610, bd_eq (C_get u (by omega)), bd_eq (C_get u (by omega)), bd_eq (C_get u (by omega))]
theorem bw_eq {u : Wo} {f : Wo → Re} : bw u f = f u := rfl
theorem bn_eq {e : Int32} {f : Int32 → Re} : bn e f = f e := rfl
