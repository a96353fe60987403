-- the reference holds the state, and its methods do the acts
theorem gi_t (x : Re) : gi true x = x := gi_eq rfl
def lM (f i : Nat) : Nat := if 20 ≤ f then 21 * (f - 20) + 14 + i else if f = 9 then 127 + i else 21 * i + f
def okM (w f : Nat) : Bool := f == 0 || f == 1 || f == 2 || f == 3 || f == 4 || f == 6 || (f == 5 && w == 2) || f == 9 || (decide (20 ≤ f) && decide (f < 26))
theorem okM_c {w f : Nat} (h : okM w f = true) : (f ≤ 6 ∧ (f = 5 → w = 2)) ∨ f = 9 ∨ (20 ≤ f ∧ f < 26) := by
  simp only [okM, Bool.or_eq_true, beq_iff_eq, Bool.and_eq_true, decide_eq_true_eq] at h
  omega
theorem lM_l {f : Nat} (i : Nat) (h : f ≤ 6) : lM f i = 21 * i + f := by rw [lM, if_neg (by omega), if_neg (by omega)]
theorem lM_9 (i : Nat) : lM 9 i = 127 + i := rfl
theorem lM_k (k i : Nat) : lM (20 + k) i = 21 * k + 14 + i := by rw [lM, if_pos (by omega), Nat.add_sub_cancel_left]
theorem lM_far {w f g i j : Nat} (hf : okM w f = true) (hg : okM w g = true) (hi : i < 6) (hj : j < 6) (h : ¬ (g = f ∧ j = i)) : lM g j ≠ lM f i := by
  intro e
  unfold lM at e
  rcases okM_c hf with q | q | q <;> rcases okM_c hg with z | z | z <;> (repeat' split at e) <;> omega
theorem lM_low {w f i : Nat} (hf : okM w f = true) (hi : i < 6) : lM f i < 133 ∧ lM f i ≠ 126 ∧ (∀ j, ¬ (21 * j + 7 ≤ lM f i ∧ lM f i ≤ 21 * j + 13) ∨ 126 < lM f i) ∧ (∀ j, j < 6 → lM f i ≠ 21 * j + 20) ∧ (w ≠ 2 → ∀ j, j < 6 → lM f i ≠ 21 * j + 5) := by
  unfold lM
  rcases okM_c hf with q | q | q <;> (repeat' split) <;> refine ⟨by omega, by omega, fun j => by omega, fun j hj => by omega, fun hw j hj => by omega⟩
def hc (n i : Nat) : Nat := if 0 < i ∧ i < n then (i - 1) / 2 else 0
/-- the letters of a pair, as the reference keeps them -/
def isM (r : Nat → Int32) (b : Nat) (l : List (Nat × Nat)) : Prop := r b = nI l.length ∧ l.length ≤ 12 ∧ ∀ k, k < 12 → r (b + 1 + 2 * k) = nI (l.getD k (0, 0)).1 ∧ r (b + 2 + 2 * k) = nI (l.getD k (0, 0)).2
theorem isM_congr {r r1 : Nat → Int32} {b : Nat} {l : List (Nat × Nat)} (h : isM r b l) (e : ∀ k, b ≤ k → k ≤ b + 24 → r1 k = r k) : isM r1 b l :=
  ⟨by rw [e b (Nat.le_refl _) (by omega)]; exact h.1, h.2.1, fun k hk => ⟨by rw [e _ (by omega) (by omega)]; exact (h.2.2 k hk).1, by rw [e _ (by omega) (by omega)]; exact (h.2.2 k hk).2⟩⟩
def MC (w n : Nat) (x : XS) (r : Nat → Int32) : Prop := (∀ f i, okM w f = true → i < 6 → r (lM f i) = nI (fd x f i)) ∧ (w ≠ 2 → ∀ i, i < 6 → r (21 * i + 5) = nI (hc n i)) ∧ (∀ i, i < 6 → r (21 * i + 20) = nI 0) ∧ r 126 = plM (fd x 5 6) ∧ isL r 133 6 (qu x 6) ∧ (∀ i, i < 6 → isL r (21 * i + 7) 6 (qu x i)) ∧ ∀ q, q < 36 → isM r (140 + 25 * q) (lt x q)
theorem MC_field {w n : Nat} {x : XS} {r : Nat → Int32} (h : MC w n x r) {f i : Nat} (v : Nat) (hf : okM w f = true) (hi : i < 6) : MC w n (fs x f i v) (upd r (lM f i) (nI v)) := by
  have hl := lM_low hf hi
  obtain ⟨h1, h2, h3, h4, h5, h6, h7⟩ := h
  refine ⟨fun g j hg hj => ?_, fun hw j hj => ?_, fun j hj => ?_, ?_, ?_, fun j hj => ?_, fun q hq => ?_⟩
  · rw [fd_fs]
    by_cases e : g = f ∧ j = i
    · rw [e.1, e.2, upd_same, if_pos ⟨rfl, rfl⟩]
    · rw [upd_ne _ _ (lM_far hf hg hi hj e), if_neg e]
      exact h1 g j hg hj
  · rw [upd_ne _ _ (Ne.symm (hl.2.2.2.2 hw j hj))]; exact h2 hw j hj
  · rw [upd_ne _ _ (Ne.symm (hl.2.2.2.1 j hj))]; exact h3 j hj
  · rw [upd_ne _ _ (Ne.symm hl.2.1), fd_fs, if_neg (fun q => by omega)]; exact h4
  · exact isL_congr h5 (fun k _ _ => upd_ne _ _ (by omega))
  · have := hl.2.2.1 j
    exact isL_congr (h6 j hj) (fun k _ _ => upd_ne _ _ (by omega))
  · exact isM_congr (h7 q hq) (fun k _ _ => upd_ne _ _ (by omega))
theorem MC_place {w n : Nat} {x : XS} {r : Nat → Int32} (h : MC w n x r) (v : Nat) : MC w n (fs x 5 6 v) (upd r 126 (plM v)) := by
  obtain ⟨h1, h2, h3, h4, h5, h6, h7⟩ := h
  refine ⟨fun g j hg hj => ?_, fun hw j hj => ?_, fun j hj => ?_, ?_, ?_, fun j hj => ?_, fun q hq => ?_⟩
  · have hl := lM_low hg hj
    rw [fd_fs, upd_ne _ _ hl.2.1, if_neg (fun q => by omega)]
    exact h1 g j hg hj
  · rw [upd_ne _ _ (by omega)]; exact h2 hw j hj
  · rw [upd_ne _ _ (by omega)]; exact h3 j hj
  · rw [upd_same, fd_fs, if_pos ⟨rfl, rfl⟩]
  · exact isL_congr h5 (fun k _ _ => upd_ne _ _ (by omega))
  · exact isL_congr (h6 j hj) (fun k _ _ => upd_ne _ _ (by omega))
  · exact isM_congr (h7 q hq) (fun k _ _ => upd_ne _ _ (by omega))
theorem MC_free {w n : Nat} {x : XS} {r : Nat → Int32} (h : MC w n x r) {f i v : Nat} (hf : okM w f = false) (h5 : f ≠ 5) : MC w n (fs x f i v) r := by
  obtain ⟨h1, h2, h3, h4, h5', h6, h7⟩ := h
  refine ⟨fun g j hg hj => ?_, h2, h3, ?_, h5', h6, h7⟩
  · rw [fd_fs, if_neg (fun q => by rw [q.1, hf] at hg; cases hg)]
    exact h1 g j hg hj
  · rw [fd_fs, if_neg (fun q => h5 q.1.symm)]; exact h4
theorem MC_qu {w n : Nat} {x : XS} {r r1 : Nat → Int32} (h : MC w n x r) {i : Nat} {l : List Nat} (hi : i < 6) (e : ∀ k, k < 21 * i + 7 ∨ 21 * i + 13 < k → r1 k = r k) (hl : isL r1 (21 * i + 7) 6 l) : MC w n (qs x i l) r1 := by
  obtain ⟨h1, h2, h3, h4, h5, h6, h7⟩ := h
  refine ⟨fun g j hg hj => ?_, fun hw j hj => ?_, fun j hj => ?_, ?_, ?_, fun j hj => ?_, fun q hq => ?_⟩
  · have := (lM_low hg hj).2.2.1 i
    rw [e _ (by omega)]; exact h1 g j hg hj
  · rw [e _ (by omega)]; exact h2 hw j hj
  · rw [e _ (by omega)]; exact h3 j hj
  · rw [e _ (by omega)]; exact h4
  · rw [qu_qs, if_neg (by omega)]
    exact isL_congr h5 (fun k _ _ => e _ (by omega))
  · rw [qu_qs]
    by_cases ej : j = i
    · subst ej; rw [if_pos rfl]; exact hl
    · rw [if_neg ej]; exact isL_congr (h6 j hj) (fun k _ _ => e _ (by omega))
  · exact isM_congr (h7 q hq) (fun k _ _ => e _ (by omega))
theorem MC_row {w n : Nat} {x : XS} {r r1 : Nat → Int32} (h : MC w n x r) {l : List Nat} (e : ∀ k, k < 133 ∨ 139 < k → r1 k = r k) (hl : isL r1 133 6 l) : MC w n (qs x 6 l) r1 := by
  obtain ⟨h1, h2, h3, h4, h5, h6, h7⟩ := h
  refine ⟨fun g j hg hj => ?_, fun hw j hj => ?_, fun j hj => ?_, ?_, ?_, fun j hj => ?_, fun q hq => ?_⟩
  · have := (lM_low hg hj).1
    rw [e _ (by omega)]; exact h1 g j hg hj
  · rw [e _ (by omega)]; exact h2 hw j hj
  · rw [e _ (by omega)]; exact h3 j hj
  · rw [e _ (by omega)]; exact h4
  · rw [qu_qs, if_pos rfl]; exact hl
  · rw [qu_qs, if_neg (by omega)]
    exact isL_congr (h6 j hj) (fun k _ _ => e _ (by omega))
  · exact isM_congr (h7 q hq) (fun k _ _ => e _ (by omega))
theorem MC_let {w n : Nat} {x : XS} {r r1 : Nat → Int32} (h : MC w n x r) {p : Nat} {l : List (Nat × Nat)} (hp : p < 36) (e : ∀ k, k < 140 + 25 * p ∨ 140 + 25 * p + 24 < k → r1 k = r k) (hl : isM r1 (140 + 25 * p) l) : MC w n (ls x p l) r1 := by
  obtain ⟨h1, h2, h3, h4, h5, h6, h7⟩ := h
  refine ⟨fun g j hg hj => ?_, fun hw j hj => ?_, fun j hj => ?_, ?_, ?_, fun j hj => ?_, fun q hq => ?_⟩
  · have := (lM_low hg hj).1
    rw [e _ (by omega)]; exact h1 g j hg hj
  · rw [e _ (by omega)]; exact h2 hw j hj
  · rw [e _ (by omega)]; exact h3 j hj
  · rw [e _ (by omega)]; exact h4
  · exact isL_congr h5 (fun k _ _ => e _ (by omega))
  · exact isL_congr (h6 j hj) (fun k _ _ => e _ (by omega))
  · rw [lt_ls]
    by_cases ej : q = p
    · subst ej; rw [if_pos rfl]; exact hl
    · rw [if_neg ej]; exact isM_congr (h7 q hq) (fun k _ _ => e _ (by omega))
/-- the reference's counts and the latest 60 entries -/
def MB (x : XS) (r : Nat → Int32) : Prop := r 0 = nI (ev x) ∧ (∀ k, 1 ≤ k → k < 10 → r k = bb x k) ∧ ∀ k, k < 60 → k < ev x → ∀ w, w < 3 → r (10 + 3 * k + w) = lg x (ev x - 1 - k) w
def RM (V : Wo) (w n : Nat) (x : XS) (v : Wo) : Prop := (∀ c, c ≠ 0 → c ≠ 2 → c ≠ 3 → v c = V c) ∧ (∀ k, k ≠ 5 → v 0 k = V 0 k) ∧ V 0 0 = nI w ∧ V 0 1 = nI n ∧ v 0 5 = nI (fd x 13 0) ∧ MC w n x (v 2) ∧ (V 0 6 = 1 → fd x 13 0 = 0 → MB x (v 3)) ∧ (V 0 6 = 0 → v 3 = V 3)
theorem RM_row {V : Wo} {w n : Nat} {x y : XS} {u v : Wo} (h : RM V w n x u) (e : ∀ c, c ≠ 2 → v c = u c) (hc : MC w n y (v 2)) (ho : fd y 13 0 = fd x 13 0) (hy : y.2 = x.2) : RM V w n y v := by
  obtain ⟨h1, h2, h3, h4, h5, h6, h7, h8⟩ := h
  refine ⟨fun c c1 c2 c3 => by rw [e c c2]; exact h1 c c1 c2 c3, fun k hk => by rw [e 0 (by decide)]; exact h2 k hk, h3, h4, by rw [e 0 (by decide), ho]; exact h5, hc, fun q1 q2 => ?_, fun q => by rw [e 3 (by decide)]; exact h8 q⟩
  rw [ho] at q2
  have := h7 q1 q2
  rw [e 3 (by decide)]
  unfold MB ev bb lg
  rw [hy]
  exact this
section MS
variable {V u : Wo} {w n : Nat} {x : XS}
theorem M_way (h : RM V w n x u) : u 0 0 = nI w := (h.2.1 0 (by decide)).trans h.2.2.1
theorem M_n (h : RM V w n x u) : u 0 1 = nI n := (h.2.1 1 (by decide)).trans h.2.2.2.1
theorem M_rec (h : RM V w n x u) : u 0 6 = V 0 6 := h.2.1 6 (by decide)
theorem M_rd (h : RM V w n x u) {f i : Nat} (hf : okM w f = true) (hi : i < 6) : u 2 (lM f i) = nI (fd x f i) := h.2.2.2.2.2.1.1 f i hf hi
theorem M_r0 (h : RM V w n x u) {i : Nat} (hi : i < 6) : u 2 (21 * i) = nI (fd x 0 i) := M_rd h (f := 0) rfl hi
theorem M_r1 (h : RM V w n x u) {i : Nat} (hi : i < 6) : u 2 (21 * i + 1) = nI (fd x 1 i) := M_rd h (f := 1) rfl hi
theorem M_r2 (h : RM V w n x u) {i : Nat} (hi : i < 6) : u 2 (21 * i + 2) = nI (fd x 2 i) := M_rd h (f := 2) rfl hi
theorem M_r3 (h : RM V w n x u) {i : Nat} (hi : i < 6) : u 2 (21 * i + 3) = nI (fd x 3 i) := M_rd h (f := 3) rfl hi
theorem M_r4 (h : RM V w n x u) {i : Nat} (hi : i < 6) : u 2 (21 * i + 4) = nI (fd x 4 i) := M_rd h (f := 4) rfl hi
theorem M_r5 (h : RM V 2 n x u) {i : Nat} (hi : i < 6) : u 2 (21 * i + 5) = nI (fd x 5 i) := M_rd h (f := 5) rfl hi
theorem M_r6 (h : RM V w n x u) {i : Nat} (hi : i < 6) : u 2 (21 * i + 6) = nI (fd x 6 i) := M_rd h (f := 6) rfl hi
theorem M_r9 (h : RM V w n x u) {i : Nat} (hi : i < 6) : u 2 (127 + i) = nI (fd x 9 i) := M_rd h (f := 9) rfl hi
theorem M_rk (h : RM V w n x u) {i j : Nat} (hi : i < 6) (hj : j < 6) : u 2 (21 * i + 14 + j) = nI (fd x (20 + i) j) := by
  rw [← lM_k]
  exact M_rd h (by simp [okM]; omega) hj
theorem M_st (h : RM V w n x u) {f i : Nat} (v : Nat) (hf : okM w f = true) (hi : i < 6) : RM V w n (fs x f i v) (wr u 2 (lM f i) (nI v)) := by
  refine RM_row h (fun c hc => wr_ne _ _ _ hc) ?_ ?_ rfl
  · rw [wr_same]; exact MC_field h.2.2.2.2.2.1 v hf hi
  · rw [fd_fs, if_neg (fun q => by rw [← q.1] at hf; cases w <;> cases hf)]
theorem M_s0 (h : RM V w n x u) {i : Nat} (v : Nat) (hi : i < 6) : RM V w n (fs x 0 i v) (wr u 2 (21 * i) (nI v)) := M_st h (f := 0) v rfl hi
theorem M_s1 (h : RM V w n x u) {i : Nat} (v : Nat) (hi : i < 6) : RM V w n (fs x 1 i v) (wr u 2 (21 * i + 1) (nI v)) := M_st h (f := 1) v rfl hi
theorem M_s2 (h : RM V w n x u) {i : Nat} (v : Nat) (hi : i < 6) : RM V w n (fs x 2 i v) (wr u 2 (21 * i + 2) (nI v)) := M_st h (f := 2) v rfl hi
theorem M_s3 (h : RM V w n x u) {i : Nat} (v : Nat) (hi : i < 6) : RM V w n (fs x 3 i v) (wr u 2 (21 * i + 3) (nI v)) := M_st h (f := 3) v rfl hi
theorem M_s4 (h : RM V w n x u) {i : Nat} (v : Nat) (hi : i < 6) : RM V w n (fs x 4 i v) (wr u 2 (21 * i + 4) (nI v)) := M_st h (f := 4) v rfl hi
theorem M_s5 (h : RM V 2 n x u) {i : Nat} (v : Nat) (hi : i < 6) : RM V 2 n (fs x 5 i v) (wr u 2 (21 * i + 5) (nI v)) := M_st h (f := 5) v rfl hi
theorem M_s6 (h : RM V w n x u) {i : Nat} (v : Nat) (hi : i < 6) : RM V w n (fs x 6 i v) (wr u 2 (21 * i + 6) (nI v)) := M_st h (f := 6) v rfl hi
theorem M_s9 (h : RM V w n x u) {i : Nat} (v : Nat) (hi : i < 6) : RM V w n (fs x 9 i v) (wr u 2 (127 + i) (nI v)) := M_st h (f := 9) v rfl hi
theorem M_sk (h : RM V w n x u) {i j : Nat} (v : Nat) (hi : i < 6) (hj : j < 6) : RM V w n (fs x (20 + i) j v) (wr u 2 (21 * i + 14 + j) (nI v)) := by
  rw [← lM_k]
  exact M_st h v (by simp [okM]; omega) hj
theorem M_sp (h : RM V w n x u) (v : Nat) : RM V w n (fs x 5 6 v) (wr u 2 126 (plM v)) := by
  refine RM_row h (fun c hc => wr_ne _ _ _ hc) ?_ ?_ rfl
  · rw [wr_same]; exact MC_place h.2.2.2.2.2.1 v
  · rw [fd_fs, if_neg (fun q => by omega)]
theorem RM_free (h : RM V w n x u) {f i : Nat} (v : Nat) (hf : okM w f = false) (h5 : f ≠ 5) (h13 : f ≠ 13) : RM V w n (fs x f i v) u :=
  RM_row h (fun _ _ => rfl) (MC_free h.2.2.2.2.2.1 hf h5) (by rw [fd_fs, if_neg (fun q => h13 q.1.symm)]) rfl
theorem RM_over (h : RM V w n x u) : RM V w n (fs x 13 0 1) (wr u 0 5 (nI 1)) := by
  obtain ⟨h1, h2, h3, h4, h5, h6, h7, h8⟩ := h
  refine ⟨fun c c1 c2 c3 => by rw [wr_ne _ _ _ c1]; exact h1 c c1 c2 c3, fun k hk => by rw [wr_same, upd_ne _ _ hk]; exact h2 k hk, h3, h4, by rw [wr_same, upd_same, fd_fs, if_pos ⟨rfl, rfl⟩], ?_, fun q1 q2 => ?_, fun q => by rw [wr_ne _ _ _ (by decide)]; exact h8 q⟩
  · rw [wr_ne _ _ _ (by decide)]
    exact MC_free h6 (by cases w <;> rfl) (by decide)
  · rw [fd_fs, if_pos ⟨rfl, rfl⟩] at q2
    cases q2
/-- behind an overflow, or while none is told, the reference's counts are free -/
theorem RM_bsF (h : RM V w n x u) (k : Nat) (v : Int32) (hF : V 0 6 = 0 ∨ fd x 13 0 = 1) : RM V w n (bs x k v) u := by
  obtain ⟨h1, h2, h3, h4, h5, h6, h7, h8⟩ := h
  refine ⟨h1, h2, h3, h4, h5, h6, fun q1 q2 => ?_, h8⟩
  rcases hF with hF | hF
  · exact (ne01 hF q1).elim
  · rw [fd_bs, hF] at q2; cases q2
theorem gP_app (l : List (Nat × Nat)) (v : Nat × Nat) (k : Nat) : (l ++ [v]).getD k (0, 0) = if k = l.length then v else l.getD k (0, 0) := by
  simp only [List.getD_eq_getElem?_getD]
  by_cases h : k = l.length
  · subst h; simp
  · rw [if_neg h]
    by_cases h2 : k < l.length
    · rw [List.getElem?_append_left h2]
    · rw [List.getElem?_eq_none (by simp; omega), List.getElem?_eq_none (by omega)]
theorem gP_zero {l : List (Nat × Nat)} {k : Nat} (h : l.length ≤ k) : l.getD k (0, 0) = (0, 0) := by
  rw [List.getD_eq_getElem?_getD, List.getElem?_eq_none h]
  rfl
theorem M_pairAt (u : Wo) (i j : Nat) : fX6_pairAt (nI i) (nI j) u = some (nI (140 + 25 * (i * 6 + j)), u) := by
  unfold fX6_pairAt
  simp (disch := omega) only [n0, n1, n2, n3, n4, n5, n6, n7, n8, n9, n10, n11, n12, n13, n14, n18, n21, n23, n24, n25, n36, n59, n60, n126, n127, n133, n134, n139, n140, n190, n1023, n1024, n1040, n1230, n35670, nI_mul, nI_add, inb_nI, gi_t, nI_clamp, bw_eq, bn_eq]
  rw [show 6 * i + j = i * 6 + j from by omega]
theorem M_snd (h : RM V w n x u) {i j kd nm : Nat} (hi : i < 6) (hj : j < 6) (hk : kd < 3) (hV : V 0 6 = 0 ∨ V 0 6 = 1) : Gd (fX6_send (nI i) (nI j) (nI kd) (nI nm) u) (fun _ u1 => RM V w n (snd x i j kd nm) u1) := by
  have hL := h.2.2.2.2.2.1.2.2.2.2.2.2 (i * 6 + j) (by omega)
  have hz := hL.2.1
  unfold fX6_send snd
  rw [bd_eq (M_pairAt u i j)]
  simp (disch := omega) only [n0, n1, n2, n3, n4, n5, n6, n7, n8, n9, n10, n11, n12, n13, n14, n18, n21, n23, n24, n25, n36, n59, n60, n126, n127, n133, n134, n139, n140, n190, n1023, n1024, n1040, n1230, n35670, nI_mul, nI_add, inb_nI, gi_t, nI_clamp, bw_eq, bn_eq]
  rw [hL.1]
  by_cases hc : (lt x (i * 6 + j)).length < 12
  · rw [if_pos hc, if_neg (nI_ne (by omega) (by omega) (by omega))]
    simp (disch := omega) only [n0, n1, n2, n3, n4, n5, n6, n7, n8, n9, n10, n11, n12, n13, n14, n18, n21, n23, n24, n25, n36, n59, n60, n126, n127, n133, n134, n139, n140, n190, n1023, n1024, n1040, n1230, n35670, nI_mul, nI_add, inb_nI, gi_t, nI_clamp, bw_eq, bn_eq]
    have e0 : ∀ z : Wo, ∀ a b v1 v2, (wr (wr z 2 a v1) 2 b v2) 2 = upd (upd (z 2) a v1) b v2 := fun z a b v1 v2 => by rw [wr_same, wr_same]
    rw [e0, upd_ne _ _ (show 140 + 25 * (i * 6 + j) ≠ 140 + 25 * (i * 6 + j) + 2 + 2 * (lt x (i * 6 + j)).length by omega), upd_ne _ _ (show 140 + 25 * (i * 6 + j) ≠ 140 + 25 * (i * 6 + j) + 1 + 2 * (lt x (i * 6 + j)).length by omega), hL.1]
    simp (disch := omega) only [n0, n1, n2, n3, n4, n5, n6, n7, n8, n9, n10, n11, n12, n13, n14, n18, n21, n23, n24, n25, n36, n59, n60, n126, n127, n133, n134, n139, n140, n190, n1023, n1024, n1040, n1230, n35670, nI_mul, nI_add, inb_nI, gi_t, nI_clamp, bw_eq, bn_eq]
    have R1 : RM V w n (ls x (i * 6 + j) (lt x (i * 6 + j) ++ [(kd, nm)])) (wr (wr (wr u 2 (140 + 25 * (i * 6 + j) + 1 + 2 * (lt x (i * 6 + j)).length) (nI kd)) 2 (140 + 25 * (i * 6 + j) + 2 + 2 * (lt x (i * 6 + j)).length) (nI nm)) 2 (140 + 25 * (i * 6 + j)) (nI ((lt x (i * 6 + j)).length + 1))) := by
      refine RM_row h (fun c hc => by rw [wr_ne _ _ _ hc, wr_ne _ _ _ hc, wr_ne _ _ _ hc]) (MC_let h.2.2.2.2.2.1 (by omega) (fun k hk => ?_) ⟨?_, ?_, fun k hk => ?_⟩) rfl rfl
      · rw [wr_same, wr_same, wr_same, upd_ne _ _ (by omega), upd_ne _ _ (by omega), upd_ne _ _ (by omega)]
      · rw [wr_same, upd_same, List.length_append]; rfl
      · rw [List.length_append]; exact hc
      · rw [wr_same, wr_same, wr_same, gP_app]
        by_cases e : k = (lt x (i * 6 + j)).length
        · subst e
          rw [if_pos rfl]
          exact ⟨by rw [upd_ne _ _ (by omega), upd_ne _ _ (by omega), upd_same], by rw [upd_ne _ _ (by omega), upd_same]⟩
        · rw [if_neg e]
          exact ⟨by rw [upd_ne _ _ (by omega), upd_ne _ _ (by omega), upd_ne _ _ (by omega)]; exact (hL.2.2 k hk).1, by rw [upd_ne _ _ (by omega), upd_ne _ _ (by omega), upd_ne _ _ (by omega)]; exact (hL.2.2 k hk).2⟩
    generalize wr (wr (wr u 2 (140 + 25 * (i * 6 + j) + 1 + 2 * (lt x (i * 6 + j)).length) (nI kd)) 2 (140 + 25 * (i * 6 + j) + 2 + 2 * (lt x (i * 6 + j)).length) (nI nm)) 2 (140 + 25 * (i * 6 + j)) (nI ((lt x (i * 6 + j)).length + 1)) = u1 at R1 ⊢
    rw [M_rec R1]
    rcases hV with hV | hV
    · rw [hV, if_pos (show (0 : Int32) = nI 0 from rfl)]
      exact gd_ret (RM_bsF R1 _ _ (Or.inl hV))
    · rw [hV, if_neg (show ¬ (1 : Int32) = nI 0 from by decide)]
      refine gd_ret ?_
      obtain ⟨h1, h2, h3, h4, h5, h6, h7, h8⟩ := R1
      refine ⟨fun c c1 c2 c3 => by rw [wr_ne _ _ _ c3]; exact h1 c c1 c2 c3, fun k hk => by rw [wr_ne _ _ _ (by decide)]; exact h2 k hk, h3, h4, by rw [wr_ne _ _ _ (by decide)]; exact h5, by rw [wr_ne _ _ _ (by decide)]; exact h6, fun q1 q2 => ?_, fun q => (ne01 q hV).elim⟩
      obtain ⟨b1, b2, b3⟩ := h7 q1 q2
      rw [wr_same]
      refine ⟨by rw [upd_ne _ _ (by omega)]; exact b1, fun k k1 k2 => ?_, fun k k1 k2 z hz => by rw [upd_ne _ _ (by omega)]; exact b3 k k1 k2 z hz⟩
      show upd (u1 3) (7 + kd) (u1 3 (7 + kd) + nI 1) k = upd (bb x) (7 + kd) (bb x (7 + kd) + 1) k
      have bk : u1 3 (7 + kd) = bb x (7 + kd) := b2 (7 + kd) (by omega) (by omega)
      by_cases e : k = 7 + kd
      · rw [e, upd_same, upd_same, bk]; rfl
      · rw [upd_ne _ _ e, upd_ne _ _ e]; exact b2 k k1 k2
  · rw [if_neg hc, show (lt x (i * 6 + j)).length = 12 from by omega, if_pos rfl]
    exact gd_ret (RM_bsF (RM_over h) _ _ (Or.inr (by rw [fd_fs, if_pos ⟨rfl, rfl⟩])))
end MS
