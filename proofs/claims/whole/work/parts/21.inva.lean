-- what the acts leave true: letters counted by kinds, closed forms of the sendings
def ck (x : XS) (k i j : Nat) : Nat := (lt x (i * 6 + j)).countP (fun q => q.1 == k)
theorem ck_fs (x : XS) (f i v k a b : Nat) : ck (fs x f i v) k a b = ck x k a b := rfl
theorem ck_qs (x : XS) (i : Nat) (l : List Nat) (k a b : Nat) : ck (qs x i l) k a b = ck x k a b := rfl
theorem ck_bs (x : XS) (i : Nat) (v : Int32) (k a b : Nat) : ck (bs x i v) k a b = ck x k a b := rfl
theorem ck_ent (x : XS) (i k a b : Nat) : ck (ent x i) k a b = ck x k a b := rfl
theorem pr_inj {a b i j : Nat} (hb : b < 6) (hj : j < 6) : a * 6 + b = i * 6 + j ↔ a = i ∧ b = j := by omega
theorem ck_cons (x : XS) {i j kd nm : Nat} {t : List (Nat × Nat)} (hj : j < 6) (h : lt x (i * 6 + j) = (kd, nm) :: t) (k a : Nat) {b : Nat} (hb : b < 6) : ck x k a b = ck (ls x (i * 6 + j) t) k a b + if a = i ∧ b = j ∧ k = kd then 1 else 0 := by
  unfold ck
  rw [lt_ls]
  by_cases e : a * 6 + b = i * 6 + j
  · obtain ⟨rfl, rfl⟩ := (pr_inj hb hj).mp e
    rw [if_pos rfl, h, List.countP_cons]
    by_cases ek : kd = k
    · rw [if_pos (by simp [ek]), if_pos ⟨rfl, rfl, ek.symm⟩]
    · rw [if_neg (by simp [ek]), if_neg (fun q => ek q.2.2.symm)]
  · rw [if_neg e, if_neg (fun q => e ((pr_inj hb hj).mpr ⟨q.1, q.2.1⟩))]
    rfl
theorem snd_ok {x : XS} {i j kd nm : Nat} (h : fd (snd x i j kd nm) 13 0 = 0) : fd x 13 0 = 0 ∧ (lt x (i * 6 + j)).length < 12 := by
  unfold snd at h
  by_cases hc : (lt x (i * 6 + j)).length < 12
  · rw [if_pos hc] at h; exact ⟨h, hc⟩
  · rw [if_neg hc, fd_fs, if_pos ⟨rfl, rfl⟩] at h; cases h
theorem lt_snd {x : XS} {i j kd nm : Nat} (h : fd (snd x i j kd nm) 13 0 = 0) (q : Nat) : lt (snd x i j kd nm) q = if q = i * 6 + j then lt x q ++ [(kd, nm)] else lt x q := by
  have hc := (snd_ok h).2
  unfold snd
  rw [if_pos hc, lt_ls]
  by_cases e : q = i * 6 + j
  · rw [if_pos e, if_pos e, e]
  · rw [if_neg e, if_neg e]; rfl
theorem ck_snd {x : XS} {i j kd nm : Nat} (h : fd (snd x i j kd nm) 13 0 = 0) (hj : j < 6) (k a : Nat) {b : Nat} (hb : b < 6) : ck (snd x i j kd nm) k a b = ck x k a b + if a = i ∧ b = j ∧ k = kd then 1 else 0 := by
  unfold ck
  rw [lt_snd h]
  by_cases e : a * 6 + b = i * 6 + j
  · obtain ⟨rfl, rfl⟩ := (pr_inj hb hj).mp e
    rw [if_pos rfl, List.countP_append, List.countP_singleton]
    by_cases ek : kd = k
    · rw [if_pos (by simp [ek]), if_pos ⟨rfl, rfl, ek.symm⟩]
    · rw [if_neg (by simp [ek]), if_neg (fun q => ek q.2.2.symm)]
  · rw [if_neg e, if_neg (fun q => e ((pr_inj hb hj).mpr ⟨q.1, q.2.1⟩))]
    rfl
theorem bbv_snd (x : XS) (i j kd nm : Nat) : ev (snd x i j kd nm) = ev x ∧ lg (snd x i j kd nm) = lg x := by
  unfold snd
  by_cases hc : (lt x (i * 6 + j)).length < 12
  · rw [if_pos hc]; exact ⟨rfl, rfl⟩
  · rw [if_neg hc]; exact ⟨rfl, rfl⟩
theorem ov_snd {x : XS} {i j kd nm : Nat} (h : fd x 13 0 ≤ 1) : fd (snd x i j kd nm) 13 0 ≤ 1 ∧ (fd x 13 0 = 1 → fd (snd x i j kd nm) 13 0 = 1) := by
  unfold snd
  by_cases hc : (lt x (i * 6 + j)).length < 12
  · rw [if_pos hc]; exact ⟨h, fun q => q⟩
  · rw [if_neg hc, fd_fs, if_pos ⟨rfl, rfl⟩]; exact ⟨Nat.le_refl _, fun _ => rfl⟩
theorem fd_sno (x : XS) (i kd nm : Nat) {g : Nat} (k : Nat) (hg : g ≠ 13) : ∀ j, fd (sno x i kd nm j) g k = fd x g k
  | 0 => rfl
  | j + 1 => by
    unfold sno
    by_cases e : j = i
    · rw [if_pos e]; exact fd_sno x i kd nm k hg j
    · rw [if_neg e, fd_snd _ _ _ _ _ _ hg]; exact fd_sno x i kd nm k hg j
theorem qu_sno (x : XS) (i kd nm : Nat) : ∀ j, qu (sno x i kd nm j) = qu x
  | 0 => rfl
  | j + 1 => by
    unfold sno
    by_cases e : j = i
    · rw [if_pos e]; exact qu_sno x i kd nm j
    · rw [if_neg e, qu_snd]; exact qu_sno x i kd nm j
theorem ev_sno (x : XS) (i kd nm : Nat) : ∀ j, ev (sno x i kd nm j) = ev x ∧ lg (sno x i kd nm j) = lg x
  | 0 => ⟨rfl, rfl⟩
  | j + 1 => by
    unfold sno
    by_cases e : j = i
    · rw [if_pos e]; exact ev_sno x i kd nm j
    · rw [if_neg e]
      have := bbv_snd (sno x i kd nm j) i j kd nm
      rw [this.1, this.2]
      exact ev_sno x i kd nm j
theorem sno_lt {x : XS} {i kd nm : Nat} (hi : i < 6) : ∀ j, j ≤ 6 → fd (sno x i kd nm j) 13 0 = 0 → fd x 13 0 = 0 ∧ ∀ a b, b < 6 → lt (sno x i kd nm j) (a * 6 + b) = if a = i ∧ b ≠ i ∧ b < j then lt x (a * 6 + b) ++ [(kd, nm)] else lt x (a * 6 + b)
  | 0, _, h => ⟨h, fun a b hb => by rw [if_neg (by omega)]; rfl⟩
  | j + 1, hj, h => by
    by_cases e : j = i
    · have es : sno x i kd nm (j + 1) = sno x i kd nm j := by show (if j = i then _ else _) = _; rw [if_pos e]
      rw [es] at h ⊢
      obtain ⟨h1, h2⟩ := sno_lt hi j (by omega) h
      refine ⟨h1, fun a b hb => ?_⟩
      rw [h2 a b hb]
      by_cases c : a = i ∧ b ≠ i ∧ b < j
      · rw [if_pos c, if_pos (by omega)]
      · rw [if_neg c, if_neg (by omega)]
    · have es : sno x i kd nm (j + 1) = snd (sno x i kd nm j) i j kd nm := by show (if j = i then _ else _) = _; rw [if_neg e]
      rw [es] at h ⊢
      obtain ⟨h1, h2⟩ := sno_lt hi j (by omega) (snd_ok h).1
      refine ⟨h1, fun a b hb => ?_⟩
      rw [lt_snd h, h2 a b hb]
      by_cases c : a * 6 + b = i * 6 + j
      · obtain ⟨rfl, rfl⟩ := (pr_inj hb (by omega)).mp c
        rw [if_pos rfl, if_neg (by omega), if_pos (by omega)]
      · have : ¬ (a = i ∧ b = j) := fun q => c ((pr_inj hb (by omega)).mpr q)
        rw [if_neg c]
        by_cases c2 : a = i ∧ b ≠ i ∧ b < j
        · rw [if_pos c2, if_pos (by omega)]
        · rw [if_neg c2, if_neg (by omega)]
theorem ck_sno {x : XS} {i kd nm n : Nat} (hi : i < 6) (hn : n ≤ 6) (h : fd (sno x i kd nm n) 13 0 = 0) (k a : Nat) {b : Nat} (hb : b < 6) : ck (sno x i kd nm n) k a b = ck x k a b + if a = i ∧ b ≠ i ∧ b < n ∧ k = kd then 1 else 0 := by
  unfold ck
  rw [(sno_lt hi n hn h).2 a b hb]
  by_cases c : a = i ∧ b ≠ i ∧ b < n
  · rw [if_pos c, List.countP_append, List.countP_singleton]
    by_cases ek : kd = k
    · rw [if_pos (by simp [ek]), if_pos ⟨c.1, c.2.1, c.2.2, ek.symm⟩]
    · rw [if_neg (by simp [ek]), if_neg (fun q => ek q.2.2.2.symm)]
  · rw [if_neg c, if_neg (fun q => c ⟨q.1, q.2.1, q.2.2.1⟩)]
    rfl
theorem fd_gvo (m : Nat) (x : XS) (i : Nat) {g : Nat} (k : Nat) (hg : g ≠ 13) : ∀ j, fd (gvo m x i j) g k = fd x g k
  | 0 => rfl
  | j + 1 => by
    unfold gvo
    by_cases e : m / 2 ^ j % 2 = 1
    · rw [if_pos e, fd_snd _ _ _ _ _ _ hg]; exact fd_gvo m x i k hg j
    · rw [if_neg e]; exact fd_gvo m x i k hg j
theorem qu_gvo (m : Nat) (x : XS) (i : Nat) : ∀ j, qu (gvo m x i j) = qu x
  | 0 => rfl
  | j + 1 => by
    unfold gvo
    by_cases e : m / 2 ^ j % 2 = 1
    · rw [if_pos e, qu_snd]; exact qu_gvo m x i j
    · rw [if_neg e]; exact qu_gvo m x i j
theorem ev_gvo (m : Nat) (x : XS) (i : Nat) : ∀ j, ev (gvo m x i j) = ev x ∧ lg (gvo m x i j) = lg x
  | 0 => ⟨rfl, rfl⟩
  | j + 1 => by
    unfold gvo
    by_cases e : m / 2 ^ j % 2 = 1
    · rw [if_pos e]
      have := bbv_snd (gvo m x i j) i j 1 0
      rw [this.1, this.2]
      exact ev_gvo m x i j
    · rw [if_neg e]; exact ev_gvo m x i j
theorem gvo_lt {m : Nat} {x : XS} {i : Nat} (hi : i < 6) : ∀ j, j ≤ 6 → fd (gvo m x i j) 13 0 = 0 → fd x 13 0 = 0 ∧ ∀ a b, b < 6 → lt (gvo m x i j) (a * 6 + b) = if a = i ∧ b < j ∧ m / 2 ^ b % 2 = 1 then lt x (a * 6 + b) ++ [(1, 0)] else lt x (a * 6 + b)
  | 0, _, h => ⟨h, fun a b hb => by rw [if_neg (by omega)]; rfl⟩
  | j + 1, hj, h => by
    by_cases e : m / 2 ^ j % 2 = 1
    · have es : gvo m x i (j + 1) = snd (gvo m x i j) i j 1 0 := by show (if _ then _ else _) = _; rw [if_pos e]
      rw [es] at h ⊢
      obtain ⟨h1, h2⟩ := gvo_lt hi j (by omega) (snd_ok h).1
      refine ⟨h1, fun a b hb => ?_⟩
      rw [lt_snd h, h2 a b hb]
      by_cases c : a * 6 + b = i * 6 + j
      · obtain ⟨rfl, rfl⟩ := (pr_inj hb (by omega)).mp c
        rw [if_pos rfl, if_neg (by omega), if_pos ⟨rfl, by omega, e⟩]
      · have : ¬ (a = i ∧ b = j) := fun q => c ((pr_inj hb (by omega)).mpr q)
        rw [if_neg c]
        by_cases c2 : a = i ∧ b < j ∧ m / 2 ^ b % 2 = 1
        · rw [if_pos c2, if_pos ⟨c2.1, by omega, c2.2.2⟩]
        · rw [if_neg c2, if_neg (fun q => c2 ⟨q.1, by omega, q.2.2⟩)]
    · have es : gvo m x i (j + 1) = gvo m x i j := by show (if _ then _ else _) = _; rw [if_neg e]
      rw [es] at h ⊢
      obtain ⟨h1, h2⟩ := gvo_lt hi j (by omega) h
      refine ⟨h1, fun a b hb => ?_⟩
      rw [h2 a b hb]
      by_cases c : a = i ∧ b < j ∧ m / 2 ^ b % 2 = 1
      · rw [if_pos c, if_pos ⟨c.1, by omega, c.2.2⟩]
      · rw [if_neg c, if_neg (fun q => c ⟨q.1, by have : b ≠ j := fun eb => e (eb ▸ q.2.2); omega, q.2.2⟩)]
theorem ck_gvo {m : Nat} {x : XS} {i n : Nat} (hi : i < 6) (hn : n ≤ 6) (h : fd (gvo m x i n) 13 0 = 0) (k a : Nat) {b : Nat} (hb : b < 6) : ck (gvo m x i n) k a b = ck x k a b + if a = i ∧ b < n ∧ m / 2 ^ b % 2 = 1 ∧ k = 1 then 1 else 0 := by
  unfold ck
  rw [(gvo_lt hi n hn h).2 a b hb]
  by_cases c : a = i ∧ b < n ∧ m / 2 ^ b % 2 = 1
  · rw [if_pos c, List.countP_append, List.countP_singleton]
    by_cases ek : k = 1
    · subst ek; rw [if_pos (by simp), if_pos ⟨c.1, c.2.1, c.2.2, rfl⟩]
    · rw [if_neg (by simp; omega), if_neg (fun q => ek q.2.2.2)]
  · rw [if_neg c, if_neg (fun q => c ⟨q.1, q.2.1, q.2.2.1⟩)]
    rfl
theorem fd_rwo (x : XS) (i : Nat) : ∀ j, fd (rwo x i j) = fd x
  | 0 => rfl
  | j + 1 => by
    unfold rwo
    by_cases e : ¬ j ∈ qu (rwo x i j) 6 ∧ fd (rwo x i j) (20 + i) j = fd (rwo x i j) 9 j + 1
    · rw [if_pos e]; exact fd_rwo x i j
    · rw [if_neg e]; exact fd_rwo x i j
theorem lt_rwo (x : XS) (i : Nat) : ∀ j, lt (rwo x i j) = lt x ∧ (rwo x i j).2 = x.2 ∧ ∀ k, k ≠ 6 → qu (rwo x i j) k = qu x k
  | 0 => ⟨rfl, rfl, fun _ _ => rfl⟩
  | j + 1 => by
    unfold rwo
    obtain ⟨h1, h2, h3⟩ := lt_rwo x i j
    by_cases e : ¬ j ∈ qu (rwo x i j) 6 ∧ fd (rwo x i j) (20 + i) j = fd (rwo x i j) 9 j + 1
    · rw [if_pos e]; exact ⟨h1, h2, fun k hk => by rw [qu_qs, if_neg hk]; exact h3 k hk⟩
    · rw [if_neg e]; exact ⟨h1, h2, h3⟩
theorem rwo_row {x : XS} {i n : Nat} (h1 : ∀ q, (qu x 6).count q ≤ 1) (h2 : ∀ q ∈ qu x 6, q < n) : ∀ j, j ≤ n → (∀ q, (qu (rwo x i j) 6).count q ≤ 1) ∧ ∀ q ∈ qu (rwo x i j) 6, q < n
  | 0, _ => ⟨h1, h2⟩
  | j + 1, hj => by
    obtain ⟨a, b⟩ := rwo_row h1 h2 (i := i) j (by omega)
    unfold rwo
    by_cases e : ¬ j ∈ qu (rwo x i j) 6 ∧ fd (rwo x i j) (20 + i) j = fd (rwo x i j) 9 j + 1
    · rw [if_pos e]
      refine ⟨fun q => ?_, fun q hq => ?_⟩
      · rw [qu_qs, if_pos rfl, List.count_append, List.count_singleton]
        by_cases eq : q = j
        · subst eq
          rw [List.count_eq_zero.mpr e.1]
          split <;> omega
        · have := a q
          rw [if_neg (by simp; omega)]; omega
      · rw [qu_qs, if_pos rfl] at hq
        rcases List.mem_append.mp hq with hq | hq
        · exact b q hq
        · rw [List.mem_singleton.mp hq]; omega
    · rw [if_neg e]; exact ⟨a, b⟩
theorem len_cnt : ∀ l : List Nat, (∀ q ∈ l, q < 6) → l.length = l.count 0 + l.count 1 + l.count 2 + l.count 3 + l.count 4 + l.count 5
  | [], _ => rfl
  | a :: l, h => by
    have ih := len_cnt l (fun q hq => h q (List.mem_cons_of_mem _ hq))
    have ha := h a List.mem_cons_self
    simp only [List.length_cons, List.count_cons, ih, beq_iff_eq]
    rcases (show a = 0 ∨ a = 1 ∨ a = 2 ∨ a = 3 ∨ a = 4 ∨ a = 5 by omega) with rfl | rfl | rfl | rfl | rfl | rfl <;> simp <;> omega
theorem len_lt {l : List Nat} {j : Nat} (hj : j < 6) (h : ∀ q ∈ l, q < 6) (hc : ∀ q, q < 6 → l.count q ≤ 1) (hn : l.count j = 0) : l.length < 6 := by
  have e := len_cnt l h
  have c0 := hc 0 (by omega)
  have c1 := hc 1 (by omega)
  have c2 := hc 2 (by omega)
  have c3 := hc 3 (by omega)
  have c4 := hc 4 (by omega)
  have c5 := hc 5 (by omega)
  rcases (show j = 0 ∨ j = 1 ∨ j = 2 ∨ j = 3 ∨ j = 4 ∨ j = 5 by omega) with rfl | rfl | rfl | rfl | rfl | rfl <;> omega
theorem bt_or : ∀ (m : Fin 64) (i j : Fin 6), (m.1 ||| 2 ^ i.1) / 2 ^ j.1 % 2 = if j.1 = i.1 then 1 else m.1 / 2 ^ j.1 % 2 := by decide +kernel
theorem pc_or : ∀ (m : Fin 64) (i : Fin 6), pc6 (m.1 ||| 2 ^ i.1) + m.1 / 2 ^ i.1 % 2 = pc6 m.1 + 1 := by decide +kernel
theorem pc_full : ∀ (n : Fin 7) (i : Fin 6) (m : Fin 64), i.1 < n.1 → (∀ j : Fin 6, (j.1 = i.1 ∨ n.1 ≤ j.1) → m.1 / 2 ^ j.1 % 2 = 0) → pc6 m.1 + 1 = n.1 → m.1 = 2 ^ n.1 - 1 - 2 ^ i.1 := by decide +kernel
theorem bt_full : ∀ (n : Fin 7) (i j : Fin 6), i.1 < n.1 → (2 ^ n.1 - 1 - 2 ^ i.1) / 2 ^ j.1 % 2 = if j.1 ≠ i.1 ∧ j.1 < n.1 then 1 else 0 := by decide +kernel
theorem bt_ext : ∀ (m k : Fin 64), (∀ j : Fin 6, m.1 / 2 ^ j.1 % 2 = k.1 / 2 ^ j.1 % 2) → m.1 = k.1 := by decide +kernel
