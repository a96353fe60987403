-- what the acts leave true: all ways
theorem ZR_fs {w : Nat} {x : XS} (h : ZR w x) {f i v : Nat} (h0 : w ≠ 0 → i < 6 → f ≠ 1 ∧ f ≠ 2 ∧ f ≠ 3 ∧ f ≠ 4 ∧ f ≠ 7) (h1 : w ≠ 1 → (i < 6 → f ≠ 9 ∧ ¬ (20 ≤ f ∧ f < 26)) ∧ ¬ (f = 5 ∧ i = 6)) (h2 : w ≠ 2 → i < 6 → f ≠ 5 ∧ f ≠ 6) : ZR w (fs x f i v) := by
  obtain ⟨a, b, c⟩ := h
  refine ⟨fun q j hj => ?_, fun q => ⟨fun j hj => ⟨?_, fun k hk => ?_⟩, ?_, (b q).2.2⟩, fun q j hj => ⟨?_, ?_, (c q j hj).2.2⟩⟩
  · have z := h0 q
    simp only [fd_fs]
    rw [if_neg (by omega), if_neg (by omega), if_neg (by omega), if_neg (by omega), if_neg (by omega)]
    exact a q j hj
  · have z := h1 q
    rw [fd_fs, if_neg (by omega)]; exact ((b q).1 j hj).1
  · have z := h1 q
    rw [fd_fs, if_neg (by omega)]; exact ((b q).1 j hj).2 k hk
  · have z := h1 q
    rw [fd_fs, if_neg (by omega)]; exact (b q).2.1
  · have z := h2 q
    rw [fd_fs, if_neg (by omega)]; exact (c q j hj).1
  · have z := h2 q
    rw [fd_fs, if_neg (by omega)]; exact (c q j hj).2.1
theorem ZR_f0 {w : Nat} {x : XS} (h : ZR w x) (i v : Nat) : ZR w (fs x 0 i v) := ZR_fs h (fun _ _ => by omega) (fun _ => by omega) (fun _ _ => by omega)
theorem ZR_f13 {w : Nat} {x : XS} (h : ZR w x) (v : Nat) : ZR w (fs x 13 0 v) := ZR_fs h (fun _ _ => by omega) (fun _ => by omega) (fun _ _ => by omega)
theorem ZR_ent {w : Nat} {x : XS} (h : ZR w x) (i : Nat) : ZR w (ent x i) := (ZR_f0 h i 2 : ZR w (fs x 0 i 2))
theorem ZR_snd {w : Nat} {x : XS} (h : ZR w x) (i j kd nm : Nat) : ZR w (snd x i j kd nm) := by
  unfold snd
  split
  · exact h
  · exact ZR_f13 (ZR_bs h _ _) 1
theorem ZR_sno {w : Nat} {x : XS} (h : ZR w x) (i kd nm : Nat) : ∀ j, ZR w (sno x i kd nm j)
  | 0 => h
  | j + 1 => by
    unfold sno
    split
    · exact ZR_sno h i kd nm j
    · exact ZR_snd (ZR_sno h i kd nm j) _ _ _ _
theorem ZR_gvo {w m : Nat} {x : XS} (h : ZR w x) (i : Nat) : ∀ j, ZR w (gvo m x i j)
  | 0 => h
  | j + 1 => by
    unfold gvo
    split
    · exact ZR_snd (ZR_gvo h i j) _ _ _ _
    · exact ZR_gvo h i j
theorem ZR1_row {x y : XS} (h : ZR 1 x) (e1 : fd y = fd x) (e2 : ∀ k, k ≠ 6 → qu y k = qu x k) : ZR 1 y := by
  obtain ⟨a, b, c⟩ := h
  exact ⟨fun q j hj => by rw [e1]; exact a q j hj, fun q => (q rfl).elim, fun q j hj => by rw [e1, e2 j (by omega)]; exact c q j hj⟩
/-- by ASKING: what one that waits has still to get is asked, put off, given or there -/
def IA (n : Nat) (x : XS) : Prop := (∀ i, i < n → ∀ j, j < n → i ≠ j → ck x 0 i j + fd x 4 j / 2 ^ i % 2 + ck x 1 j i = if fd x 0 i = 1 then 1 - fd x 7 i / 2 ^ j % 2 else 0) ∧ (∀ i, i < n → fd x 0 i = 1 → fd x 3 i + pc6 (fd x 7 i) + 1 = n ∧ 1 ≤ fd x 3 i ∧ 1 ≤ fd x 2 i) ∧ (∀ i, i < n → ∀ j, j < 6 → j = i ∨ n ≤ j → fd x 7 i / 2 ^ j % 2 = 0 ∧ fd x 4 i / 2 ^ j % 2 = 0) ∧ (∀ i, i < n → fd x 0 i ≠ 1 → fd x 3 i = 0 ∧ fd x 7 i = if fd x 2 i = 0 then 0 else 2 ^ n - 1 - 2 ^ i) ∧ ∀ i, i < 6 → n ≤ i → fd x 3 i = 0 ∧ fd x 7 i = 0
/-- by TOKEN: one token, in a place or in a letter; a place that is not in it passes it when it can -/
def IT (n : Nat) (x : XS) : Prop := (∀ q, (qu x 6).count q ≤ 1) ∧ (∀ a b, a < n → b < n → 1 ≤ ck x 2 a b → fd x 5 6 = 6 ∧ (qu x 6).count b = 0 ∧ ∀ c d, c < n → d < n → ck x 2 c d = if c = a ∧ d = b then 1 else 0) ∧ (fd x 5 6 < 6 → (qu x 6).count (fd x 5 6) = 0 ∧ (fd x 0 (fd x 5 6) ≠ 2 → qu x 6 = [])) ∧ ∀ i, i < n → fd x 0 i = 2 → fd x 5 6 = i
theorem IT_c {n : Nat} {x y : XS} (h : IT n x) (e1 : qu y 6 = qu x 6) (e2 : ∀ a b, a < n → b < n → ck y 2 a b = ck x 2 a b) (e3 : fd y 5 6 = fd x 5 6) (e4 : ∀ i, fd y 0 i = 2 ↔ fd x 0 i = 2) : IT n y := by
  obtain ⟨t1, t2, t3, t4⟩ := h
  refine ⟨fun q => by rw [e1]; exact t1 q, fun a b ha hb hc => ?_, fun hp => ?_, fun i hi hm => ?_⟩
  · rw [e2 a b ha hb] at hc
    rw [e3, e1]
    obtain ⟨g1, g2, g3⟩ := t2 a b ha hb hc
    exact ⟨g1, g2, fun c d hc hd => by rw [e2 c d hc hd]; exact g3 c d hc hd⟩
  · rw [e3] at hp ⊢
    rw [e1]
    exact ⟨(t3 hp).1, fun q => (t3 hp).2 (fun z => q ((e4 _).mpr z))⟩
  · rw [e3]; exact t4 i hi ((e4 i).mp hm)
theorem IT_none {n : Nat} {x : XS} (h : IT n x) (hp : fd x 5 6 < 6) (a b : Nat) (ha : a < n) (hb : b < n) : ck x 2 a b = 0 := by
  rcases Nat.eq_zero_or_pos (ck x 2 a b) with q | q
  · exact q
  · have := (h.2.1 a b ha hb q).1; omega
theorem IT_pas {n : Nat} {x : XS} {i f : Nat} (hn : n ≤ 6) (hi : i < n) (hf : f < n) (h1 : ∀ q, (qu x 6).count q ≤ 1) (h2 : ∀ c d, c < n → d < n → ck x 2 c d = 0) (h3 : (qu x 6).count f = 0) (h4 : ∀ c, c < n → fd x 0 c ≠ 2) (ho : fd (pas x i f) 13 0 = 0) : IT n (pas x i f) := by
  have FK : ∀ c d, c < n → d < n → ck (pas x i f) 2 c d = if c = i ∧ d = f then 1 else 0 := fun c d hc hd => by
    have := ck_snd (x := fs x 5 6 6) (i := i) (j := f) (kd := 2) (nm := 0) ho (by omega) 2 c (show d < 6 by omega)
    rw [ck_fs, h2 c d hc hd] at this
    show ck (snd (fs x 5 6 6) i f 2 0) 2 c d = _
    rw [this]
    by_cases e : c = i ∧ d = f
    · rw [if_pos ⟨e.1, e.2, rfl⟩, if_pos e]
    · rw [if_neg (fun q => e ⟨q.1, q.2.1⟩), if_neg e]
  have F5 : fd (pas x i f) 5 6 = 6 := by
    show fd (snd (fs x 5 6 6) i f 2 0) 5 6 = 6
    rw [fd_snd _ _ _ _ _ _ (by decide), fd_fs, if_pos ⟨rfl, rfl⟩]
  have FQ : qu (pas x i f) 6 = qu x 6 := by
    show qu (snd (fs x 5 6 6) i f 2 0) 6 = _
    rw [qu_snd]; rfl
  have F0 : ∀ c, fd (pas x i f) 0 c = fd x 0 c := fun c => by
    show fd (snd (fs x 5 6 6) i f 2 0) 0 c = _
    rw [fd_snd _ _ _ _ _ _ (by decide), fd_fs, if_neg (by omega)]
  refine ⟨fun q => by rw [FQ]; exact h1 q, fun a b ha hb hc => ?_, fun q => by omega, fun c hc q => (h4 c hc (by rw [← F0]; exact q)).elim⟩
  rw [FK a b ha hb] at hc
  have e : a = i ∧ b = f := by
    by_cases q : a = i ∧ b = f
    · exact q
    · rw [if_neg q] at hc; omega
  rw [e.1, e.2, FQ]
  exact ⟨F5, h3, FK⟩
def INV (w n B : Nat) (x : XS) : Prop := NB B x ∧ ST w n x ∧ ZR w x ∧ (w = 0 → IA n x) ∧ (w = 1 → IT n x) ∧ (w = 2 → IR n x) ∧ fd x 13 0 = 0
theorem INV_WF {w n B : Nat} {x : XS} (h : INV w n B x) (hn : n ≤ 6) (hB : B < 268435456) : WF x := by
  obtain ⟨nb, st, -⟩ := h
  exact ⟨fun f i => Nat.lt_of_le_of_lt (nb.1 f i) hB, fun i hi => Nat.lt_of_lt_of_le (st.1 i hi) hn, st.2.1, fun i q hq => Nat.lt_of_lt_of_le (st.2.2.1 i q hq) hn, fun p q hq => ⟨(st.2.2.2.1 p q hq).1, Nat.lt_of_le_of_lt (nb.2.1 p q hq) hB⟩, Nat.lt_of_le_of_lt nb.2.2 hB⟩
theorem ST_lt {w n : Nat} {x : XS} (h : ST w n x) {i j : Nat} (hj : j < 6) {a : Nat × Nat} {t : List (Nat × Nat)} (hl : lt x (i * 6 + j) = a :: t) : i < n ∧ j < n ∧ i ≠ j := by
  have := h.2.2.2.2.1 i j hj
  refine ⟨?_, ?_, fun e => ?_⟩
  · rcases Nat.lt_or_ge i n with q | q
    · exact q
    · rw [this (Or.inl q)] at hl; cases hl
  · rcases Nat.lt_or_ge j n with q | q
    · exact q
    · rw [this (Or.inr (Or.inl q))] at hl; cases hl
  · rw [this (Or.inr (Or.inr e))] at hl; cases hl
theorem bt_orN {m i j : Nat} (hm : m < 64) (hi : i < 6) (hj : j < 6) : (m ||| 2 ^ i) / 2 ^ j % 2 = if j = i then 1 else m / 2 ^ j % 2 := bt_or ⟨m, hm⟩ ⟨i, hi⟩ ⟨j, hj⟩
theorem pc_orN {m i : Nat} (hm : m < 64) (hi : i < 6) : pc6 (m ||| 2 ^ i) + m / 2 ^ i % 2 = pc6 m + 1 := pc_or ⟨m, hm⟩ ⟨i, hi⟩
theorem bt_lt (m j : Nat) : m / 2 ^ j % 2 < 2 := Nat.mod_lt _ (by decide)
theorem bt_zero (j : Nat) : 0 / 2 ^ j % 2 = 0 := by rw [Nat.zero_div]
theorem pc_zero : pc6 0 = 0 := rfl
/-- what comings need: a letter that gives comes to one that waits for it -/
theorem IA_need {n B : Nat} {x : XS} (h : INV 0 n B x) (hn : n ≤ 6) {i j nm : Nat} {t : List (Nat × Nat)} (hj6 : j < 6) (hl : lt x (i * 6 + j) = (1, nm) :: t) : fd x 0 j = 1 ∧ fd x 7 j / 2 ^ i % 2 = 0 ∧ pc6 (fd x 7 j ||| 2 ^ i) + fd x 3 j = n ∧ 1 ≤ fd x 3 j := by
  obtain ⟨nb, st, zr, ia, -⟩ := h
  obtain ⟨hi, hj, hd⟩ := ST_lt st hj6 hl
  have A := (ia rfl).1 j hj i hi (Ne.symm hd)
  have hc : 1 ≤ ck x 1 i j := by
    unfold ck
    rw [hl, List.countP_cons, if_pos (by simp)]
    omega
  have hm : fd x 0 j = 1 := by
    rcases Nat.decEq (fd x 0 j) 1 with q | q
    · rw [if_neg q] at A; omega
    · exact q
  rw [if_pos hm] at A
  have b2 := bt_lt (fd x 7 j) i
  have A2 := (ia rfl).2.1 j hj hm
  have pc := pc_orN (st.2.1 j hj6).2 (show i < 6 by omega)
  exact ⟨hm, by omega, by omega, A2.2.1⟩
theorem IA_wan {n : Nat} {x : XS} (h : IA n x) (hn : n ≤ 6) (h2 : 2 ≤ n) {i T : Nat} (hi : i < n) (hm : fd x 0 i = 0) (h4 : ∀ i, i < 6 → fd x 4 i < 64 ∧ fd x 7 i < 64) (hT : 1 ≤ T) (k : Int32) (z : Nat) (ho : fd (sno (fs (fs (fs (fs (bs (fs x 0 i 1) z k) 1 i T) 2 i T) 3 i (n - 1)) 7 i 0) i 0 T n) 13 0 = 0) : IA n (sno (fs (fs (fs (fs (bs (fs x 0 i 1) z k) 1 i T) 2 i T) 3 i (n - 1)) 7 i 0) i 0 T n) := by
  obtain ⟨a1, a2, a3, a4, a5⟩ := h
  have FK : ∀ k1 a b, b < 6 → ck (sno (fs (fs (fs (fs (bs (fs x 0 i 1) z k) 1 i T) 2 i T) 3 i (n - 1)) 7 i 0) i 0 T n) k1 a b = ck x k1 a b + if a = i ∧ b ≠ i ∧ b < n ∧ k1 = 0 then 1 else 0 := fun k1 a b hb => ck_sno (by omega) hn ho k1 a hb
  have F : ∀ g j, g ≠ 13 → fd (sno (fs (fs (fs (fs (bs (fs x 0 i 1) z k) 1 i T) 2 i T) 3 i (n - 1)) 7 i 0) i 0 T n) g j = if g = 7 ∧ j = i then 0 else if g = 3 ∧ j = i then n - 1 else if g = 2 ∧ j = i then T else if g = 1 ∧ j = i then T else if g = 0 ∧ j = i then 1 else fd x g j := fun g j hg => by
    rw [fd_sno _ _ _ _ _ hg, fd_fs, fd_fs, fd_fs, fd_fs, fd_bs, fd_fs]
  have F0 : ∀ j, fd (sno (fs (fs (fs (fs (bs (fs x 0 i 1) z k) 1 i T) 2 i T) 3 i (n - 1)) 7 i 0) i 0 T n) 0 j = if j = i then 1 else fd x 0 j := fun j => by rw [F _ _ (by decide)]; simp
  have F2 : ∀ j, fd (sno (fs (fs (fs (fs (bs (fs x 0 i 1) z k) 1 i T) 2 i T) 3 i (n - 1)) 7 i 0) i 0 T n) 2 j = if j = i then T else fd x 2 j := fun j => by rw [F _ _ (by decide)]; simp
  have F3 : ∀ j, fd (sno (fs (fs (fs (fs (bs (fs x 0 i 1) z k) 1 i T) 2 i T) 3 i (n - 1)) 7 i 0) i 0 T n) 3 j = if j = i then n - 1 else fd x 3 j := fun j => by rw [F _ _ (by decide)]; simp
  have F4 : ∀ j, fd (sno (fs (fs (fs (fs (bs (fs x 0 i 1) z k) 1 i T) 2 i T) 3 i (n - 1)) 7 i 0) i 0 T n) 4 j = fd x 4 j := fun j => by rw [F _ _ (by decide)]; simp
  have F7 : ∀ j, fd (sno (fs (fs (fs (fs (bs (fs x 0 i 1) z k) 1 i T) 2 i T) 3 i (n - 1)) 7 i 0) i 0 T n) 7 j = if j = i then 0 else fd x 7 j := fun j => by rw [F _ _ (by decide)]; simp
  generalize sno (fs (fs (fs (fs (bs (fs x 0 i 1) z k) 1 i T) 2 i T) 3 i (n - 1)) 7 i 0) i 0 T n = y at FK F0 F2 F3 F4 F7 ⊢
  refine ⟨fun a ha b hb hab => ?_, fun a ha => ?_, fun a ha b hb hc => ?_, fun a ha => ?_, fun a ha hc => ?_⟩
  · rw [FK 0 a b (by omega), FK 1 b a (by omega), F4, F0, F7]
    have A := a1 a ha b hb hab
    by_cases e : a = i
    · subst e
      rw [if_neg (by omega)] at A
      rw [if_pos rfl, if_pos rfl, if_pos rfl, bt_zero, if_pos (by omega), if_neg (by omega)]
      omega
    · rw [if_neg e, if_neg e, if_neg (by omega), if_neg (by omega)]; exact A
  · rw [F0, F3, F7, F2]
    by_cases e : a = i
    · rw [if_pos e, if_pos e, if_pos e, if_pos e, pc_zero]; omega
    · rw [if_neg e, if_neg e, if_neg e, if_neg e]; exact a2 a ha
  · rw [F7, F4]
    have := a3 a ha b hb hc
    by_cases e : a = i
    · rw [if_pos e, bt_zero]; exact ⟨rfl, this.2⟩
    · rw [if_neg e]; exact this
  · rw [F0, F3, F7, F2]
    by_cases e : a = i
    · rw [if_pos e]; intro q; omega
    · rw [if_neg e, if_neg e, if_neg e, if_neg e]; exact a4 a ha
  · rw [F3, F7, if_neg (by omega), if_neg (by omega)]
    exact a5 a ha hc
theorem IA_lef {n : Nat} {x : XS} (h : IA n x) (hn : n ≤ 6) {i : Nat} (hi : i < n) (hm : fd x 0 i = 2) (ho : fd (gvo (fd x 4 i) (fs (fs x 0 i 0) 4 i 0) i n) 13 0 = 0) : IA n (gvo (fd x 4 i) (fs (fs x 0 i 0) 4 i 0) i n) := by
  obtain ⟨a1, a2, a3, a4, a5⟩ := h
  have FK : ∀ k1 a b, b < 6 → ck (gvo (fd x 4 i) (fs (fs x 0 i 0) 4 i 0) i n) k1 a b = ck x k1 a b + if a = i ∧ b < n ∧ fd x 4 i / 2 ^ b % 2 = 1 ∧ k1 = 1 then 1 else 0 := fun k1 a b hb => ck_gvo (by omega) hn ho k1 a hb
  have F : ∀ g j, g ≠ 13 → fd (gvo (fd x 4 i) (fs (fs x 0 i 0) 4 i 0) i n) g j = if g = 4 ∧ j = i then 0 else if g = 0 ∧ j = i then 0 else fd x g j := fun g j hg => by
    rw [fd_gvo _ _ _ _ hg, fd_fs, fd_fs]
  have F0 : ∀ j, fd (gvo (fd x 4 i) (fs (fs x 0 i 0) 4 i 0) i n) 0 j = if j = i then 0 else fd x 0 j := fun j => by rw [F _ _ (by decide)]; simp
  have F2 : ∀ j, fd (gvo (fd x 4 i) (fs (fs x 0 i 0) 4 i 0) i n) 2 j = fd x 2 j := fun j => by rw [F _ _ (by decide)]; simp
  have F3 : ∀ j, fd (gvo (fd x 4 i) (fs (fs x 0 i 0) 4 i 0) i n) 3 j = fd x 3 j := fun j => by rw [F _ _ (by decide)]; simp
  have F4 : ∀ j, fd (gvo (fd x 4 i) (fs (fs x 0 i 0) 4 i 0) i n) 4 j = if j = i then 0 else fd x 4 j := fun j => by rw [F _ _ (by decide)]; simp
  have F7 : ∀ j, fd (gvo (fd x 4 i) (fs (fs x 0 i 0) 4 i 0) i n) 7 j = fd x 7 j := fun j => by rw [F _ _ (by decide)]; simp
  generalize gvo (fd x 4 i) (fs (fs x 0 i 0) 4 i 0) i n = y at FK F0 F2 F3 F4 F7 ⊢
  refine ⟨fun a ha b hb hab => ?_, fun a ha => ?_, fun a ha b hb hc => ?_, fun a ha => ?_, fun a ha hc => ?_⟩
  · rw [FK 0 a b (by omega), FK 1 b a (by omega), F4, F0, F7]
    have A := a1 a ha b hb hab
    have hb2 := bt_lt (fd x 4 i) a
    by_cases e : a = i
    · subst e
      rw [if_neg (by omega)] at A
      rw [if_neg (by omega), if_neg (by omega), if_neg (by omega), if_pos rfl, if_neg (by omega)]
      omega
    · rw [if_neg (show ¬ a = i from e), if_neg (show ¬ (a = i ∧ b < n ∧ fd x 4 i / 2 ^ b % 2 = 1 ∧ 0 = 1) by omega)]
      by_cases eb : b = i
      · subst eb
        rw [if_pos rfl, bt_zero]
        by_cases eo : fd x 4 b / 2 ^ a % 2 = 1
        · rw [if_pos ⟨rfl, ha, eo, rfl⟩]; omega
        · rw [if_neg (fun q => eo q.2.2.1)]; omega
      · rw [if_neg eb, if_neg (fun q => eb q.1)]; exact A
  · rw [F0, F3, F7, F2]
    by_cases e : a = i
    · rw [if_pos e]; intro q; omega
    · rw [if_neg e]; exact a2 a ha
  · rw [F7, F4]
    have := a3 a ha b hb hc
    by_cases e : a = i
    · rw [if_pos e, bt_zero]; exact ⟨this.1, rfl⟩
    · rw [if_neg e]; exact this
  · rw [F0, F3, F7, F2]
    by_cases e : a = i
    · subst e; intro _; exact a4 a ha (by omega)
    · rw [if_neg e]; exact a4 a ha
  · rw [F3, F7]
    exact a5 a ha hc
