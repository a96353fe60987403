-- what the acts leave true: sizes, places; by TREE
def NB (B : Nat) (x : XS) : Prop := (∀ f i, fd x f i ≤ B) ∧ (∀ p, ∀ q ∈ lt x p, q.2 ≤ B) ∧ ev x ≤ B
def ST (w n : Nat) (x : XS) : Prop := (∀ i, i < 6 → fd x 5 i < n) ∧ (∀ i, i < 6 → fd x 4 i < 64 ∧ fd x 7 i < 64) ∧ (∀ i, ∀ q ∈ qu x i, q < n) ∧ (∀ p, ∀ q ∈ lt x p, q.1 < 3 ∧ (w = 0 → q.1 ≤ 1) ∧ (w ≠ 0 → q.1 ≠ 1)) ∧ (∀ a b, b < 6 → n ≤ a ∨ n ≤ b ∨ a = b → lt x (a * 6 + b) = []) ∧ fd x 5 6 ≤ 6
/-- what the other ways have is as at first -/
def ZR (w : Nat) (x : XS) : Prop := (w ≠ 0 → ∀ i, i < 6 → fd x 1 i = 0 ∧ fd x 2 i = 0 ∧ fd x 3 i = 0 ∧ fd x 4 i = 0 ∧ fd x 7 i = 0) ∧ (w ≠ 1 → (∀ i, i < 6 → fd x 9 i = 0 ∧ ∀ j, j < 6 → fd x (20 + i) j = 0) ∧ fd x 5 6 = 0 ∧ qu x 6 = []) ∧ (w ≠ 2 → ∀ i, i < 6 → fd x 5 i = 0 ∧ fd x 6 i = 0 ∧ qu x i = [])
theorem NB_mono {B C : Nat} {x : XS} (h : NB B x) (hc : B ≤ C) : NB C x := ⟨fun f i => Nat.le_trans (h.1 f i) hc, fun p q hq => Nat.le_trans (h.2.1 p q hq) hc, Nat.le_trans h.2.2 hc⟩
theorem NB_fs {B : Nat} {x : XS} (h : NB B x) {f i v : Nat} (hv : v ≤ B) : NB B (fs x f i v) := by
  refine ⟨fun g j => ?_, h.2⟩
  rw [fd_fs]
  split
  · exact hv
  · exact h.1 g j
theorem NB_qs {B : Nat} {x : XS} (h : NB B x) (i : Nat) (l : List Nat) : NB B (qs x i l) := h
theorem NB_bs {B : Nat} {x : XS} (h : NB B x) (k : Nat) (v : Int32) : NB B (bs x k v) := h
theorem NB_ls {B : Nat} {x : XS} (h : NB B x) {p : Nat} {l : List (Nat × Nat)} (hl : ∀ q ∈ l, q.2 ≤ B) : NB B (ls x p l) := by
  refine ⟨h.1, fun j q hq => ?_, h.2.2⟩
  rw [lt_ls] at hq
  split at hq
  · exact hl q hq
  · exact h.2.1 j q hq
theorem NB_snd {B : Nat} {x : XS} (h : NB B x) {i j kd nm : Nat} (hm : nm ≤ B) (h1 : 1 ≤ B) : NB B (snd x i j kd nm) := by
  unfold snd
  split
  · refine NB_ls h (fun q hq => ?_)
    rcases List.mem_append.mp hq with hq | hq
    · exact h.2.1 _ q hq
    · rw [List.mem_singleton.mp hq]; exact hm
  · exact NB_fs h h1
theorem NB_ent {B : Nat} {x : XS} (h : NB B x) {i : Nat} (he : ev x + 1 ≤ B) (h2 : 2 ≤ B) : NB B (ent x i) := ⟨(NB_fs h h2 : NB B (fs x 0 i 2)).1, h.2.1, he⟩
theorem NB_sno {B : Nat} {x : XS} (h : NB B x) {i kd nm : Nat} (hm : nm ≤ B) (h1 : 1 ≤ B) : ∀ j, NB B (sno x i kd nm j)
  | 0 => h
  | j + 1 => by
    unfold sno
    split
    · exact NB_sno h hm h1 j
    · exact NB_snd (NB_sno h hm h1 j) hm h1
theorem NB_gvo {B m : Nat} {x : XS} (h : NB B x) {i : Nat} (h1 : 1 ≤ B) : ∀ j, NB B (gvo m x i j)
  | 0 => h
  | j + 1 => by
    unfold gvo
    split
    · exact NB_snd (NB_gvo h h1 j) (Nat.zero_le _) h1
    · exact NB_gvo h h1 j
theorem NB_rwo {B : Nat} {x : XS} (h : NB B x) (i j : Nat) : NB B (rwo x i j) := by
  obtain ⟨h1, h2, -⟩ := lt_rwo x i j
  exact ⟨fun f k => by rw [fd_rwo]; exact h.1 f k, fun p q hq => h.2.1 p q (by rw [← h1]; exact hq), by unfold ev; rw [h2]; exact h.2.2⟩
theorem NB_ru1 {B : Nat} {x : XS} (h : NB B x) {i : Nat} (he : ev x + 1 ≤ B) (h2 : 6 ≤ B) (hq : ∀ q ∈ qu x i, q < 6) : NB B (ru1 x i) ∧ ev (ru1 x i) ≤ ev x + 1 := by
  by_cases hc : fd x 5 i = i ∧ fd x 0 i ≠ 2
  · cases hl : qu x i with
    | nil => rw [ru1_nil hl]; exact ⟨h, by omega⟩
    | cons f t =>
      rw [ru1_cons hl hc.1 hc.2]
      have hf : f < 6 := hq f (by rw [hl]; exact List.mem_cons_self)
      have h3 : NB B (fs (fs (qs x i t) 5 i f) 6 i 0) := NB_fs (NB_fs (NB_qs h i t) (by omega)) (by omega)
      split
      · exact ⟨NB_ent h3 he (by omega), Nat.le_refl _⟩
      · refine ⟨NB_snd h3 (Nat.zero_le _) (by omega), ?_⟩
        rw [(bbv_snd _ i f 2 0).1]
        show ev x ≤ _
        omega
  · rw [ru1_no hc]; exact ⟨h, by omega⟩
theorem NB_ru2 {B : Nat} {x : XS} (h : NB B x) {i : Nat} (h1 : 1 ≤ B) : NB B (ru2 x i) := by
  unfold ru2
  split
  · exact NB_fs (NB_snd h (Nat.zero_le _) h1) h1
  · exact h
theorem ST_fs {w n : Nat} {x : XS} (h : ST w n x) {f i v : Nat} (h5 : f = 5 → if i < 6 then v < n else v ≤ 6) (h4 : f = 4 ∨ f = 7 → i < 6 → v < 64) : ST w n (fs x f i v) := by
  obtain ⟨a, b, c⟩ := h
  refine ⟨fun j hj => ?_, fun j hj => ⟨?_, ?_⟩, c.1, c.2.1, c.2.2.1, ?_⟩
  · rw [fd_fs]
    by_cases e : 5 = f ∧ j = i
    · rw [if_pos e]
      have := h5 e.1.symm
      rw [if_pos (e.2 ▸ hj)] at this
      exact this
    · rw [if_neg e]; exact a j hj
  · rw [fd_fs]
    by_cases e : 4 = f ∧ j = i
    · rw [if_pos e]; exact h4 (Or.inl e.1.symm) (e.2 ▸ hj)
    · rw [if_neg e]; exact (b j hj).1
  · rw [fd_fs]
    by_cases e : 7 = f ∧ j = i
    · rw [if_pos e]; exact h4 (Or.inr e.1.symm) (e.2 ▸ hj)
    · rw [if_neg e]; exact (b j hj).2
  · rw [fd_fs]
    by_cases e : 5 = f ∧ 6 = i
    · rw [if_pos e]
      have := h5 e.1.symm
      rw [if_neg (by omega)] at this
      exact this
    · rw [if_neg e]; exact c.2.2.2
theorem ST_qs {w n : Nat} {x : XS} (h : ST w n x) {i : Nat} {l : List Nat} (hl : ∀ q ∈ l, q < n) : ST w n (qs x i l) := by
  refine ⟨h.1, h.2.1, fun j q hq => ?_, h.2.2.2⟩
  rw [qu_qs] at hq
  split at hq
  · exact hl q hq
  · exact h.2.2.1 j q hq
theorem ST_bs {w n : Nat} {x : XS} (h : ST w n x) (k : Nat) (v : Int32) : ST w n (bs x k v) := h
theorem ST_tl {w n : Nat} {x : XS} (h : ST w n x) {i j : Nat} {a : Nat × Nat} {t : List (Nat × Nat)} (hj : j < 6) (hl : lt x (i * 6 + j) = a :: t) : ST w n (ls x (i * 6 + j) t) := by
  refine ⟨h.1, h.2.1, h.2.2.1, fun p q hq => ?_, fun c b hb hc => ?_, h.2.2.2.2.2⟩
  · rw [lt_ls] at hq
    split at hq
    · exact h.2.2.2.1 (i * 6 + j) q (by rw [hl]; exact List.mem_cons_of_mem _ hq)
    · exact h.2.2.2.1 p q hq
  · have := h.2.2.2.2.1 c b hb hc
    rw [lt_ls]
    split
    · rename_i e
      rw [e, hl] at this
      cases this
    · exact this
theorem ST_snd {w n : Nat} {x : XS} (h : ST w n x) {i j kd nm : Nat} (hi : i < n) (hj : j < n) (hn : n ≤ 6) (hk : kd < 3 ∧ (w = 0 → kd ≤ 1) ∧ (w ≠ 0 → kd ≠ 1)) (hd : i ≠ j) : ST w n (snd x i j kd nm) := by
  unfold snd
  split
  · refine ⟨h.1, h.2.1, h.2.2.1, fun p q hq => ?_, fun a b hb hc => ?_, h.2.2.2.2.2⟩
    · rw [lt_ls] at hq
      split at hq
      · rcases List.mem_append.mp hq with hq | hq
        · exact h.2.2.2.1 _ q hq
        · rw [List.mem_singleton.mp hq]; exact hk
      · exact h.2.2.2.1 p q hq
    · rw [lt_ls, if_neg (fun q => ?_)]
      · exact h.2.2.2.2.1 a b hb hc
      · obtain ⟨rfl, rfl⟩ := (pr_inj hb (by omega)).mp q
        rcases hc with hc | hc | hc
        · omega
        · omega
        · exact hd hc
  · exact ST_fs h (fun q => by omega) (fun q => by omega)
theorem ST_ent {w n : Nat} {x : XS} (h : ST w n x) (i : Nat) : ST w n (ent x i) := (ST_fs h (fun q => by omega) (fun q => by omega) : ST w n (fs x 0 i 2))
theorem ST_sno {w n : Nat} {x : XS} (h : ST w n x) {i nm : Nat} (hi : i < n) (hn : n ≤ 6) : ∀ j, j ≤ n → ST w n (sno x i 0 nm j)
  | 0, _ => h
  | j + 1, hj => by
    unfold sno
    split
    · exact ST_sno h hi hn j (by omega)
    · rename_i e
      exact ST_snd (ST_sno h hi hn j (by omega)) hi (by omega) hn ⟨by omega, fun _ => by omega, fun _ => by omega⟩ (fun q => e q.symm)
theorem ST_ru1 {n : Nat} {x : XS} (h : ST 2 n x) {i : Nat} (hi : i < n) (hn : n ≤ 6) : ST 2 n (ru1 x i) := by
  by_cases hc : fd x 5 i = i ∧ fd x 0 i ≠ 2
  · cases hl : qu x i with
    | nil => rw [ru1_nil hl]; exact h
    | cons f t =>
      rw [ru1_cons hl hc.1 hc.2]
      have hf : f < n := h.2.2.1 i f (by rw [hl]; exact List.mem_cons_self)
      have h3 : ST 2 n (fs (fs (qs x i t) 5 i f) 6 i 0) := ST_fs (ST_fs (ST_qs h (fun q hq => h.2.2.1 i q (by rw [hl]; exact List.mem_cons_of_mem _ hq))) (fun _ => by rw [if_pos (by omega)]; exact hf) (fun q => by omega)) (fun q => by omega) (fun q => by omega)
      split
      · exact ST_ent h3 i
      · rename_i e
        exact ST_snd h3 hi hf hn ⟨by omega, fun q => by omega, fun _ => by omega⟩ (fun q => e q.symm)
  · rw [ru1_no hc]; exact h
theorem ST_ru2 {n : Nat} {x : XS} (h : ST 2 n x) {i : Nat} (hi : i < n) (hn : n ≤ 6) : ST 2 n (ru2 x i) := by
  unfold ru2
  split
  · rename_i e
    exact ST_fs (ST_snd h hi (h.1 i (by omega)) hn ⟨by omega, fun q => by omega, fun _ => by omega⟩ (fun q => e.1 q.symm)) (fun q => by omega) (fun q => by omega)
  · exact h
theorem ZR2_fs {x : XS} (h : ZR 2 x) {f i v : Nat} (hf : f = 0 ∨ f = 6 ∨ f = 13 ∨ (f = 5 ∧ i < 6)) : ZR 2 (fs x f i v) := by
  obtain ⟨a, b, c⟩ := h
  refine ⟨fun q j hj => ?_, fun q => ⟨fun j hj => ⟨?_, fun k hk => ?_⟩, ?_, (b q).2.2⟩, fun q => (q rfl).elim⟩
  · simp only [fd_fs]
    rw [if_neg (by omega), if_neg (by omega), if_neg (by omega), if_neg (by omega), if_neg (by omega)]
    exact a q j hj
  · rw [fd_fs, if_neg (by omega)]; exact ((b q).1 j hj).1
  · rw [fd_fs, if_neg (by omega)]; exact ((b q).1 j hj).2 k hk
  · rw [fd_fs, if_neg (by omega)]; exact (b q).2.1
theorem ZR2_qs {x : XS} (h : ZR 2 x) {i : Nat} {l : List Nat} (hi : i < 6) : ZR 2 (qs x i l) := by
  obtain ⟨a, b, c⟩ := h
  exact ⟨a, fun q => ⟨(b q).1, (b q).2.1, by rw [qu_qs, if_neg (by omega)]; exact (b q).2.2⟩, fun q => (q rfl).elim⟩
theorem ZR_bs {w : Nat} {x : XS} (h : ZR w x) (k : Nat) (v : Int32) : ZR w (bs x k v) := h
theorem ZR_ls {w : Nat} {x : XS} (h : ZR w x) (p : Nat) (l : List (Nat × Nat)) : ZR w (ls x p l) := h
theorem ZR2_ent {x : XS} (h : ZR 2 x) (i : Nat) : ZR 2 (ent x i) := (ZR2_fs h (Or.inl rfl) : ZR 2 (fs x 0 i 2))
theorem ZR2_snd {x : XS} (h : ZR 2 x) (i j kd nm : Nat) : ZR 2 (snd x i j kd nm) := by
  unfold snd
  split
  · exact h
  · exact ZR2_fs (ZR_bs h _ _) (Or.inr (Or.inr (Or.inl rfl)))
theorem ZR2_ru1 {x : XS} (h : ZR 2 x) {i : Nat} (hi : i < 6) : ZR 2 (ru1 x i) := by
  by_cases hc : fd x 5 i = i ∧ fd x 0 i ≠ 2
  · cases hl : qu x i with
    | nil => rw [ru1_nil hl]; exact h
    | cons f t =>
      rw [ru1_cons hl hc.1 hc.2]
      have h3 : ZR 2 (fs (fs (qs x i t) 5 i f) 6 i 0) := ZR2_fs (ZR2_fs (ZR2_qs h hi) (Or.inr (Or.inr (Or.inr ⟨rfl, hi⟩)))) (Or.inr (Or.inl rfl))
      split
      · exact ZR2_ent h3 i
      · exact ZR2_snd h3 _ _ _ _
  · rw [ru1_no hc]; exact h
theorem ZR2_ru2 {x : XS} (h : ZR 2 x) {i : Nat} : ZR 2 (ru2 x i) := by
  unfold ru2
  split
  · exact ZR2_fs (ZR2_snd h _ _ _ _) (Or.inr (Or.inl rfl))
  · exact h
/-- by TREE: who has asked stands once in its holder's queue, or its asking is under way there, or the token to it -/
def IR (n : Nat) (x : XS) : Prop := (∀ i, i < n → ∀ j, j < n → j ≠ i → (qu x i).count j + ck x 0 j i + ck x 2 i j = if fd x 5 j = i ∧ fd x 6 j = 1 then 1 else 0) ∧ (∀ j, j < n → fd x 6 j ≤ 1) ∧ ∀ i, i < n → (qu x i).count i = if fd x 0 i = 1 then 1 else 0
theorem ov_ru2 {x : XS} {i : Nat} (h : fd (ru2 x i) 13 0 = 0) : fd x 13 0 = 0 := by
  unfold ru2 at h
  split at h
  · rw [fd_fs, if_neg (by omega)] at h; exact (snd_ok h).1
  · exact h
theorem ov_ru1 {x : XS} {i : Nat} (h : fd (ru1 x i) 13 0 = 0) : fd x 13 0 = 0 := by
  by_cases hc : fd x 5 i = i ∧ fd x 0 i ≠ 2
  · cases hl : qu x i with
    | nil => rw [ru1_nil hl] at h; exact h
    | cons f t =>
      rw [ru1_cons hl hc.1 hc.2] at h
      have e : fd (fs (fs (qs x i t) 5 i f) 6 i 0) 13 0 = fd x 13 0 := by rw [fd_fs, if_neg (by omega), fd_fs, if_neg (by omega)]; rfl
      split at h
      · rw [fd_ent, if_neg (by omega)] at h; rw [← e]; exact h
      · rw [← e]; exact (snd_ok h).1
  · rw [ru1_no hc] at h; exact h
theorem F_sfs (x : XS) (i j kd nm f k v g z : Nat) (hg : g ≠ 13) : fd (fs (snd x i j kd nm) f k v) g z = if g = f ∧ z = k then v else fd x g z := by
  rw [fd_fs]
  split
  · rfl
  · exact fd_snd _ _ _ _ _ _ hg
theorem IR_ru2 {n : Nat} {x : XS} (h : IR n x) {i : Nat} (hi : i < n) (hn : n ≤ 6) (hh : fd x 5 i < n) (ho : fd (ru2 x i) 13 0 = 0) : IR n (ru2 x i) := by
  unfold ru2 at ho ⊢
  split
  · rename_i hc
    rw [if_pos hc, fd_fs, if_neg (by omega)] at ho
    obtain ⟨t1, t2, t3⟩ := h
    have F5 : ∀ j, fd (fs (snd x i (fd x 5 i) 0 0) 6 i 1) 5 j = fd x 5 j := fun j => by rw [F_sfs _ _ _ _ _ _ _ _ _ _ (by decide), if_neg (by omega)]
    have F0 : ∀ j, fd (fs (snd x i (fd x 5 i) 0 0) 6 i 1) 0 j = fd x 0 j := fun j => by rw [F_sfs _ _ _ _ _ _ _ _ _ _ (by decide), if_neg (by omega)]
    have F6 : ∀ j, fd (fs (snd x i (fd x 5 i) 0 0) 6 i 1) 6 j = if j = i then 1 else fd x 6 j := fun j => by
      rw [F_sfs _ _ _ _ _ _ _ _ _ _ (by decide)]
      by_cases e : j = i
      · rw [if_pos ⟨rfl, e⟩, if_pos e]
      · rw [if_neg (fun q => e q.2), if_neg e]
    have FK : ∀ k a b, b < 6 → ck (fs (snd x i (fd x 5 i) 0 0) 6 i 1) k a b = ck x k a b + if a = i ∧ b = fd x 5 i ∧ k = 0 then 1 else 0 := fun k a b hb => ck_snd ho (by omega) k a hb
    refine ⟨fun a ha j hj hja => ?_, fun j hj => ?_, fun a ha => ?_⟩
    · rw [qu_fs, qu_snd, FK 0 j a (by omega), FK 2 a j (by omega), F5, F6]
      have := t1 a ha j hj hja
      by_cases e : j = i
      · subst e
        rw [if_pos (rfl : j = j)]
        (repeat' split at this) <;> (repeat' split) <;> omega
      · rw [if_neg e]
        (repeat' split at this) <;> (repeat' split) <;> omega
    · rw [F6]
      split
      · omega
      · exact t2 j hj
    · rw [qu_fs, qu_snd, F0]
      exact t3 a ha
  · exact h
theorem IR_ru1 {n : Nat} {x : XS} (h : IR n x) {i : Nat} (hi : i < n) (hn : n ≤ 6) (hq : ∀ q ∈ qu x i, q < n) (ho : fd (ru1 x i) 13 0 = 0) : IR n (ru1 x i) := by
  by_cases hc : fd x 5 i = i ∧ fd x 0 i ≠ 2
  · cases hl : qu x i with
    | nil => rw [ru1_nil hl]; exact h
    | cons f t =>
      rw [ru1_cons hl hc.1 hc.2] at ho ⊢
      have hf : f < n := hq f (by rw [hl]; exact List.mem_cons_self)
      obtain ⟨t1, t2, t3⟩ := h
      have cc : ∀ a, (qu x i).count a = t.count a + if a = f then 1 else 0 := fun a => by
        rw [hl, List.count_cons]
        by_cases e : f = a
        · rw [if_pos (by simp [e]), if_pos e.symm]
        · rw [if_neg (by simp [e]), if_neg (fun q => e q.symm)]
      obtain ⟨y, hy⟩ : ∃ y, y = fs (fs (qs x i t) 5 i f) 6 i 0 := ⟨_, rfl⟩
      have Y5 : ∀ j, fd y 5 j = if j = i then f else fd x 5 j := fun j => by
        rw [hy, fd_fs, if_neg (by omega), fd_fs, fd_qs]
        by_cases e : j = i
        · rw [if_pos ⟨rfl, e⟩, if_pos e]
        · rw [if_neg (fun q => e q.2), if_neg e]
      have Y6 : ∀ j, fd y 6 j = if j = i then 0 else fd x 6 j := fun j => by
        rw [hy, fd_fs]
        by_cases e : j = i
        · rw [if_pos ⟨rfl, e⟩, if_pos e]
        · rw [if_neg (fun q => e q.2), if_neg e, fd_fs, if_neg (by omega), fd_qs]
      have Y0 : ∀ j, fd y 0 j = fd x 0 j := fun j => by rw [hy, fd_fs, if_neg (by omega), fd_fs, if_neg (by omega), fd_qs]
      have YQ : ∀ j, qu y j = if j = i then t else qu x j := fun j => by rw [hy]; rfl
      have YK : ∀ k a b, ck y k a b = ck x k a b := fun k a b => by rw [hy]; rfl
      rw [← hy] at ho ⊢
      by_cases ef : f = i
      · rw [if_pos ef] at ho ⊢
        have F0 : ∀ j, fd (ent y i) 0 j = if j = i then 2 else fd x 0 j := fun j => by
          rw [fd_ent]
          by_cases e : j = i
          · rw [if_pos ⟨rfl, e⟩, if_pos e]
          · rw [if_neg (fun q => e q.2), if_neg e, Y0]
        have F5 : ∀ j, fd (ent y i) 5 j = if j = i then f else fd x 5 j := fun j => by rw [fd_ent, if_neg (by omega), Y5]
        have F6 : ∀ j, fd (ent y i) 6 j = if j = i then 0 else fd x 6 j := fun j => by rw [fd_ent, if_neg (by omega), Y6]
        refine ⟨fun a ha j hj hja => ?_, fun j hj => ?_, fun a ha => ?_⟩
        · rw [qu_ent, YQ, ck_ent, ck_ent, YK, YK, F5, F6]
          have := t1 a ha j hj hja
          by_cases ea : a = i
          · rw [if_pos ea, if_neg (show ¬ j = i by omega), if_neg (show ¬ j = i by omega)]
            have c2 := cc j
            rw [← ea] at c2
            (repeat' split at this) <;> (repeat' split at c2) <;> (repeat' split) <;> omega
          · rw [if_neg ea]
            by_cases ej : j = i
            · rw [if_pos ej, if_pos ej]
              subst ej
              (repeat' split at this) <;> (repeat' split) <;> omega
            · rw [if_neg ej, if_neg ej]; exact this
        · rw [F6]
          split
          · omega
          · exact t2 j hj
        · rw [qu_ent, YQ, F0]
          have c2 := cc a
          have := t3 a ha
          by_cases ea : a = i
          · subst ea
            rw [if_pos rfl, if_pos rfl, if_neg (by decide)]
            (repeat' split at this) <;> (repeat' split at c2) <;> omega
          · rw [if_neg ea, if_neg ea]; exact this
      · rw [if_neg ef] at ho ⊢
        have F0 : ∀ j, fd (snd y i f 2 0) 0 j = fd x 0 j := fun j => by rw [fd_snd _ _ _ _ _ _ (by decide), Y0]
        have F5 : ∀ j, fd (snd y i f 2 0) 5 j = if j = i then f else fd x 5 j := fun j => by rw [fd_snd _ _ _ _ _ _ (by decide), Y5]
        have F6 : ∀ j, fd (snd y i f 2 0) 6 j = if j = i then 0 else fd x 6 j := fun j => by rw [fd_snd _ _ _ _ _ _ (by decide), Y6]
        have FK : ∀ k a b, b < 6 → ck (snd y i f 2 0) k a b = ck x k a b + if a = i ∧ b = f ∧ k = 2 then 1 else 0 := fun k a b hb => by rw [ck_snd ho (by omega) k a hb, YK]
        refine ⟨fun a ha j hj hja => ?_, fun j hj => ?_, fun a ha => ?_⟩
        · rw [qu_snd, YQ, FK 0 j a (by omega), FK 2 a j (by omega), F5, F6]
          have := t1 a ha j hj hja
          by_cases ea : a = i
          · rw [if_pos ea, if_neg (show ¬ j = i by omega), if_neg (show ¬ j = i by omega)]
            have c2 := cc j
            rw [← ea] at c2
            (repeat' split at this) <;> (repeat' split at c2) <;> (repeat' split) <;> omega
          · rw [if_neg ea]
            by_cases ej : j = i
            · rw [if_pos ej, if_pos ej]
              subst ej
              (repeat' split at this) <;> (repeat' split) <;> omega
            · rw [if_neg ej, if_neg ej]
              (repeat' split at this) <;> (repeat' split) <;> omega
        · rw [F6]
          split
          · omega
          · exact t2 j hj
        · rw [qu_snd, YQ, F0]
          have c2 := cc a
          have := t3 a ha
          by_cases ea : a = i
          · subst ea
            rw [if_pos rfl]
            (repeat' split at this) <;> (repeat' split at c2) <;> (repeat' split) <;> omega
          · rw [if_neg ea]; exact this
  · rw [ru1_no hc]; exact h
