-- states alike: what the rows tell
theorem le_n : ∀ (l1 l2 : List Nat), l1.length = l2.length → (∀ k, k < l1.length → l1.getD k 0 = l2.getD k 0) → l1 = l2
  | [], [], _, _ => rfl
  | [], b :: l2, h, _ => by cases h
  | a :: l1, [], h, _ => by cases h
  | a :: l1, b :: l2, h, g => by
    have e := g 0 (Nat.succ_pos _)
    have e : a = b := e
    rw [e, le_n l1 l2 (Nat.succ.inj h) (fun k hk => g (k + 1) (Nat.succ_lt_succ hk))]
theorem le_p : ∀ (l1 l2 : List (Nat × Nat)), l1.length = l2.length → (∀ k, k < l1.length → l1.getD k (0, 0) = l2.getD k (0, 0)) → l1 = l2
  | [], [], _, _ => rfl
  | [], b :: l2, h, _ => by cases h
  | a :: l1, [], h, _ => by cases h
  | a :: l1, b :: l2, h, g => by
    have e := g 0 (Nat.succ_pos _)
    have e : a = b := e
    rw [e, le_p l1 l2 (Nat.succ.inj h) (fun k hk => g (k + 1) (Nat.succ_lt_succ hk))]
theorem isL_inj {r1 r2 : Nat → Int32} {b m : Nat} {l1 l2 : List Nat} (h1 : isL r1 b m l1) (h2 : isL r2 b m l2) (hm : m < 100) (v1 : ∀ q ∈ l1, q < 2 ^ 31) (v2 : ∀ q ∈ l2, q < 2 ^ 31) (e : ∀ q, b ≤ q → q ≤ b + l1.length → r1 q = r2 q) : l1 = l2 := by
  have el : l1.length = l2.length := by
    have := e b (Nat.le_refl _) (by omega)
    rw [h1.1, h2.1] at this
    have a := h1.2.1
    have c := h2.2.1
    exact nI_inj (by omega) (by omega) this
  refine le_n l1 l2 el (fun k hk => ?_)
  have := e (b + 1 + k) (by omega) (by omega)
  have a := h1.2.1
  rw [h1.2.2 k (by omega), h2.2.2 k (by omega)] at this
  exact nI_inj (v1 _ (gD_mem l1 k hk)) (v2 _ (gD_mem l2 k (by omega))) this
theorem pk_map : ∀ (l1 l2 : List (Nat × Nat)), (∀ p ∈ l1, p.1 < 3) → (∀ p ∈ l2, p.1 < 3) → l1.map pk = l2.map pk → l1 = l2
  | [], [], _, _, _ => rfl
  | [], b :: l2, _, _, h => by cases h
  | a :: l1, [], _, _, h => by cases h
  | (a1, a2) :: l1, (b1, b2) :: l2, h1, h2, h => by
    rw [List.map_cons, List.map_cons] at h
    obtain ⟨e1, e2⟩ := List.cons.inj h
    have g1 := h1 (a1, a2) List.mem_cons_self
    have g2 := h2 (b1, b2) List.mem_cons_self
    dsimp only at g1 g2
    have e1 : 4 * a2 + a1 = 4 * b2 + b1 := e1
    rw [pk_map l1 l2 (fun p hp => h1 p (List.mem_cons_of_mem _ hp)) (fun p hp => h2 p (List.mem_cons_of_mem _ hp)) e2, show a1 = b1 by omega, show a2 = b2 by omega]
theorem isM_inj {r1 r2 : Nat → Int32} {b : Nat} {l1 l2 : List (Nat × Nat)} (h1 : isM r1 b l1) (h2 : isM r2 b l2) (v1 : ∀ q ∈ l1, q.1 < 2 ^ 31 ∧ q.2 < 2 ^ 31) (v2 : ∀ q ∈ l2, q.1 < 2 ^ 31 ∧ q.2 < 2 ^ 31) (e : ∀ q, b ≤ q → q < b + 25 → r1 q = r2 q) : l1 = l2 := by
  have a := h1.2.1
  have c := h2.2.1
  have el : l1.length = l2.length := by
    have := e b (Nat.le_refl _) (by omega)
    rw [h1.1, h2.1] at this
    exact nI_inj (by omega) (by omega) this
  refine le_p l1 l2 el (fun k hk => ?_)
  have w1 := v1 _ (gD_memP l1 k hk)
  have w2 := v2 _ (gD_memP l2 k (by omega))
  have g1 := e (b + 1 + 2 * k) (by omega) (by omega)
  have g2 := e (b + 2 + 2 * k) (by omega) (by omega)
  rw [(h1.2.2 k (by omega)).1, (h2.2.2 k (by omega)).1] at g1
  rw [(h1.2.2 k (by omega)).2, (h2.2.2 k (by omega)).2] at g2
  have g1 := nI_inj w1.1 w2.1 g1
  have g2 := nI_inj w1.2 w2.2 g2
  exact Prod.ext g1 g2
theorem MC_inj {w n B : Nat} {x y : XS} {r1 r2 : Nat → Int32} (hw : w < 3) (hn : n ≤ 6) (hB : B < 268435456) (hx : INV w n B x) (hy : INV w n B y) (h1 : MC w n x r1) (h2 : MC w n y r2) (e : ∀ q, q < 1040 → r1 q = r2 q) : LK w x y := by
  have wx := INV_WF hx hn hB
  have wy := INV_WF hy hn hB
  obtain ⟨a1, a2, a3, a4, a5, a6, a7⟩ := h1
  obtain ⟨b1, b2, b3, b4, b5, b6, b7⟩ := h2
  refine ⟨fun f i hf hi => ?_, ?_, fun i hi => ?_, fun q hq => ?_⟩
  · have hl := lM_low hf hi
    have := e (lM f i) (by omega)
    rw [a1 f i hf hi, b1 f i hf hi] at this
    have p := wx.1 f i
    have q := wy.1 f i
    exact nI_inj (by omega) (by omega) this
  · have := e 126 (by decide)
    rw [a4, b4] at this
    have p := hx.2.1.2.2.2.2.2
    have q := hy.2.1.2.2.2.2.2
    by_cases c : fd y 5 6 < 6
    · rw [show plM (fd y 5 6) = nI (fd y 5 6) from if_pos c] at this
      exact (plM_eq c).mp this
    · by_cases c2 : fd x 5 6 < 6
      · rw [show plM (fd x 5 6) = nI (fd x 5 6) from if_pos c2] at this
        exact ((plM_eq c2).mp this.symm).symm
      · omega
  · by_cases c : i = 6
    · subst c
      exact isL_inj a5 b5 (by decide) (fun q hq => by have := wx.2.2.2.1 6 q hq; omega) (fun q hq => by have := wy.2.2.2.1 6 q hq; omega) (fun q q1 q2 => e q (by have := a5.2.1; omega))
    · exact isL_inj (a6 i (by omega)) (b6 i (by omega)) (by decide) (fun q hq => by have := wx.2.2.2.1 i q hq; omega) (fun q hq => by have := wy.2.2.2.1 i q hq; omega) (fun q q1 q2 => e q (by have := (a6 i (by omega)).2.1; omega))
  · exact isM_inj (a7 q hq) (b7 q hq) (fun p hp => by have := wx.2.2.2.2.1 q p hp; omega) (fun p hp => by have := wy.2.2.2.2.1 q p hp; omega) (fun z z1 z2 => e z (by omega))
def wfr (w : Nat) : Nat := if w = 0 then 6 else if w = 1 then 30 else 80
def wto (w : Nat) : Nat := if w = 0 then 30 else if w = 1 then 80 else 140
/-- what the class compares -/
def PA (w n : Nat) (y : XS) (r1 r2 : Nat → Int32) : Prop := (∀ q, q < 6 → r1 q = r2 q) ∧ (∀ q, wfr w ≤ q → q < wto w → r1 q = r2 q) ∧ ∀ i, i < n → ∀ j, j < n → ∀ q, 140 + (i * 6 + j) * 13 ≤ q → q ≤ 140 + (i * 6 + j) * 13 + (lt y (i * 6 + j)).length → r1 q = r2 q
theorem ia_gave {n : Nat} {x y : XS} (hn : n ≤ 6) (hx : IA n x) (hy : IA n y) (sx : ∀ i, i < 6 → fd x 7 i < 64) (sy : ∀ i, i < 6 → fd y 7 i < 64) (h : LK 0 x y) : ∀ i, i < 6 → fd x 7 i = fd y 7 i := by
  obtain ⟨l1, l2, l3, l4⟩ := h
  intro i hi
  by_cases c : i < n
  · have m0 := l1 0 i rfl hi
    by_cases m : fd x 0 i = 1
    · refine bt_ext ⟨_, sx i hi⟩ ⟨_, sy i hi⟩ (fun j => ?_)
      dsimp only
      by_cases cj : j.1 = i ∨ n ≤ j.1
      · rw [(hx.2.2.1 i c j.1 j.2 cj).1, (hy.2.2.1 i c j.1 j.2 cj).1]
      · have e1 := hx.1 i c j.1 (by omega) (by omega)
        have e2 := hy.1 i c j.1 (by omega) (by omega)
        rw [if_pos m] at e1
        rw [if_pos (by omega)] at e2
        have k1 : ck x 0 i j.1 = ck y 0 i j.1 := by unfold ck; rw [l4 _ (by omega)]
        have k2 : ck x 1 j.1 i = ck y 1 j.1 i := by unfold ck; rw [l4 _ (by omega)]
        have k3 := l1 4 j.1 rfl (by omega)
        have d1 := bt_lt (fd x 7 i) j.1
        have d2 := bt_lt (fd y 7 i) j.1
        rw [k1, k2, k3] at e1
        omega
    · rw [(hx.2.2.2.1 i c m).2, (hy.2.2.2.1 i c (by omega)).2, l1 2 i rfl hi]
  · rw [(hx.2.2.2.2 i hi (by omega)).2, (hy.2.2.2.2 i hi (by omega)).2]
theorem ia_miss {n : Nat} {x y : XS} (hn : n ≤ 6) (hx : IA n x) (hy : IA n y) (m0 : ∀ i, i < 6 → fd x 0 i = fd y 0 i) (m7 : ∀ i, i < 6 → fd x 7 i = fd y 7 i) : ∀ i, i < 6 → fd x 3 i = fd y 3 i := by
  intro i hi
  by_cases c : i < n
  · by_cases m : fd x 0 i = 1
    · have e1 := (hx.2.1 i c m).1
      have e2 := (hy.2.1 i c (by rw [← m0 i hi]; exact m)).1
      rw [m7 i hi] at e1
      omega
    · rw [(hx.2.2.2.1 i c m).1, (hy.2.2.2.1 i c (by rw [← m0 i hi]; exact m)).1]
  · rw [(hx.2.2.2.2 i hi (by omega)).1, (hy.2.2.2.2 i hi (by omega)).1]
theorem LK_rows {w n B : Nat} {x y : XS} {r1 r2 : Nat → Int32} (hw : w < 3) (hn : n ≤ 6) (hx : INV w n B x) (hy : INV w n B y) (h14 : ∀ i, i < 6 → fd x 14 i = fd y 14 i) (h1 : CC x r1) (h2 : CC y r2) (h : LK w x y) : ∀ q, q < 608 → r1 q = r2 q := by
  have h0 := h
  obtain ⟨l1, l2, l3, l4⟩ := h
  refine CC_same h1 h2 (fun f i hf hi => ?_) l2 l3 l4
  have hk := okC_lt hf
  by_cases c14 : f = 14
  · subst c14; exact h14 i hi
  · by_cases c7 : f = 7
    · subst c7
      by_cases ew : w = 0
      · subst ew
        exact ia_gave hn (hx.2.2.2.1 rfl) (hy.2.2.2.1 rfl) (fun i hi => (hx.2.1.2.1 i hi).2) (fun i hi => (hy.2.1.2.1 i hi).2) h0 i hi
      · rw [(hx.2.2.1.1 ew i hi).2.2.2.2, (hy.2.2.1.1 ew i hi).2.2.2.2]
    · by_cases c5 : f = 5 ∧ w ≠ 2
      · rw [c5.1, (hx.2.2.1.2.2 c5.2 i hi).1, (hy.2.2.1.2.2 c5.2 i hi).1]
      · refine l1 f i ?_ hi
        simp only [okC, okM, Bool.or_eq_true, Bool.and_eq_true, beq_iff_eq, decide_eq_true_eq] at hf ⊢
        omega
