-- the state that both sides hold: numbers by field and keeper, letters of each pair, queues (the row is queue 6), counts, entries
abbrev AS : Type := (Nat → Nat → Nat) × (Nat → List (Nat × Nat)) × (Nat → List Nat)
abbrev XS : Type := AS × (Nat → Int32) × Nat × (Nat → Nat → Int32)
/-- fields: 0 mode, 1 clock, 2 time, 3 missing, 4 put off, 5 holder (of 6: where the token is, 6 for nowhere), 6 has asked, 7 gave, 9 stands, 13 over, 14 parent, 20 + i knows -/
def fd (x : XS) : Nat → Nat → Nat := x.1.1
def lt (x : XS) : Nat → List (Nat × Nat) := x.1.2.1
def qu (x : XS) : Nat → List Nat := x.1.2.2
def bb (x : XS) : Nat → Int32 := x.2.1
def ev (x : XS) : Nat := x.2.2.1
def lg (x : XS) : Nat → Nat → Int32 := x.2.2.2
def fs (x : XS) (f i v : Nat) : XS := ((fun g j => if g = f ∧ j = i then v else fd x g j, x.1.2), x.2)
def ls (x : XS) (p : Nat) (l : List (Nat × Nat)) : XS := ((x.1.1, fun q => if q = p then l else lt x q, x.1.2.2), x.2)
def qs (x : XS) (i : Nat) (l : List Nat) : XS := ((x.1.1, x.1.2.1, fun q => if q = i then l else qu x q), x.2)
def bs (x : XS) (k : Nat) (v : Int32) : XS := (x.1, (upd (bb x) k v, x.2.2))
theorem fd_fs (x : XS) (f i v g j : Nat) : fd (fs x f i v) g j = if g = f ∧ j = i then v else fd x g j := rfl
theorem fd_ls (x : XS) (p : Nat) (l : List (Nat × Nat)) : fd (ls x p l) = fd x := rfl
theorem fd_qs (x : XS) (p : Nat) (l : List Nat) : fd (qs x p l) = fd x := rfl
theorem fd_bs (x : XS) (p : Nat) (v : Int32) : fd (bs x p v) = fd x := rfl
theorem lt_fs (x : XS) (f i v : Nat) : lt (fs x f i v) = lt x := rfl
theorem lt_ls (x : XS) (p : Nat) (l : List (Nat × Nat)) (q : Nat) : lt (ls x p l) q = if q = p then l else lt x q := rfl
theorem lt_qs (x : XS) (p : Nat) (l : List Nat) : lt (qs x p l) = lt x := rfl
theorem lt_bs (x : XS) (p : Nat) (v : Int32) : lt (bs x p v) = lt x := rfl
theorem qu_fs (x : XS) (f i v : Nat) : qu (fs x f i v) = qu x := rfl
theorem qu_ls (x : XS) (p : Nat) (l : List (Nat × Nat)) : qu (ls x p l) = qu x := rfl
theorem qu_qs (x : XS) (p : Nat) (l : List Nat) (q : Nat) : qu (qs x p l) q = if q = p then l else qu x q := rfl
theorem qu_bs (x : XS) (p : Nat) (v : Int32) : qu (bs x p v) = qu x := rfl
theorem bb_fs (x : XS) (f i v : Nat) : bb (fs x f i v) = bb x := rfl
theorem bb_ls (x : XS) (p : Nat) (l : List (Nat × Nat)) : bb (ls x p l) = bb x := rfl
theorem bb_qs (x : XS) (p : Nat) (l : List Nat) : bb (qs x p l) = bb x := rfl
theorem bb_bs (x : XS) (p : Nat) (v : Int32) : bb (bs x p v) = upd (bb x) p v := rfl
theorem ev_fs (x : XS) (f i v : Nat) : ev (fs x f i v) = ev x := rfl
theorem ev_ls (x : XS) (p : Nat) (l : List (Nat × Nat)) : ev (ls x p l) = ev x := rfl
theorem ev_qs (x : XS) (p : Nat) (l : List Nat) : ev (qs x p l) = ev x := rfl
theorem ev_bs (x : XS) (p : Nat) (v : Int32) : ev (bs x p v) = ev x := rfl
theorem lg_fs (x : XS) (f i v : Nat) : lg (fs x f i v) = lg x := rfl
theorem lg_ls (x : XS) (p : Nat) (l : List (Nat × Nat)) : lg (ls x p l) = lg x := rfl
theorem lg_qs (x : XS) (p : Nat) (l : List Nat) : lg (qs x p l) = lg x := rfl
theorem lg_bs (x : XS) (p : Nat) (v : Int32) : lg (bs x p v) = lg x := rfl
/-- a letter as the class keeps it -/
def pk (q : Nat × Nat) : Nat := 4 * q.2 + q.1
/-- a list in a row of numbers, as both sides keep it: its length and its places, 0 behind them -/
def isL (r : Nat → Int32) (b m : Nat) (l : List Nat) : Prop := r b = nI l.length ∧ l.length ≤ m ∧ ∀ k, k < m → r (b + 1 + k) = nI (l.getD k 0)
/-- where the class keeps a field -/
def lC (f : Nat) : Nat := if 20 ≤ f then 44 + (f - 20) * 6 else if f = 0 then 0 else if f = 1 then 6 else if f = 2 then 12 else if f = 4 then 24 else if f = 5 then 86 else if f = 6 then 92 else if f = 7 then 18 else if f = 9 then 31 else 80
theorem lC_kn (i : Nat) : lC (20 + i) = 44 + i * 6 := by rw [lC, if_pos (by omega), Nat.add_sub_cancel_left]
def okC (f : Nat) : Bool := f == 0 || f == 1 || f == 2 || f == 4 || f == 5 || f == 6 || f == 7 || f == 9 || f == 14 || (decide (20 ≤ f) && decide (f < 26))
def plC (h : Nat) : Int32 := if h < 6 then nI h else -1
def plM (h : Nat) : Int32 := if h < 6 then nI h else -4
/-- the class's row, less its counts -/
def CC (x : XS) (r : Nat → Int32) : Prop := (∀ f i, okC f = true → i < 6 → r (lC f + i) = nI (fd x f i)) ∧ r 30 = plC (fd x 5 6) ∧ isL r 37 6 (qu x 6) ∧ (∀ i, i < 6 → isL r (98 + i * 7) 6 (qu x i)) ∧ ∀ q, q < 36 → isL r (140 + q * 13) 12 ((lt x q).map pk)
theorem okC_lt {f : Nat} (h : okC f = true) : f < 26 := by
  simp only [okC, Bool.or_eq_true, beq_iff_eq, Bool.and_eq_true, decide_eq_true_eq] at h
  omega
theorem lC_far0 : ∀ f g : Fin 26, (okC f.1 = true ∧ okC g.1 = true ∧ f.1 ≠ g.1) → lC f.1 + 6 ≤ lC g.1 ∨ lC g.1 + 6 ≤ lC f.1 := by decide +kernel
theorem lC_far (f : Nat) (hf : f < 26) (g : Nat) (hg : g < 26) (h1 : okC f = true) (h2 : okC g = true) (h : f ≠ g) : lC f + 6 ≤ lC g ∨ lC g + 6 ≤ lC f := lC_far0 ⟨f, hf⟩ ⟨g, hg⟩ ⟨h1, h2, h⟩
theorem lC_low : ∀ f, f < 26 → okC f = true → lC f + 6 ≤ 98 ∧ (lC f + 6 ≤ 37 ∨ 44 ≤ lC f) ∧ (lC f + 6 ≤ 30 ∨ 31 ≤ lC f) := by decide
theorem isL_congr {r r1 : Nat → Int32} {b m : Nat} {l : List Nat} (h : isL r b m l) (e : ∀ k, b ≤ k → k ≤ b + m → r1 k = r k) : isL r1 b m l :=
  ⟨by rw [e b (Nat.le_refl _) (by omega)]; exact h.1, h.2.1, fun k hk => by rw [e _ (by omega) (by omega)]; exact h.2.2 k hk⟩
theorem CC_out {x : XS} {r r1 : Nat → Int32} (h : CC x r) (e : ∀ k, k < 608 → r1 k = r k) : CC x r1 := by
  refine ⟨fun f i hf hi => ?_, ?_, ?_, fun i hi => ?_, fun q hq => ?_⟩
  · have := lC_low f (okC_lt hf) hf
    rw [e _ (by omega)]; exact h.1 f i hf hi
  · rw [e _ (by omega)]; exact h.2.1
  · exact isL_congr h.2.2.1 (fun k _ _ => e k (by omega))
  · exact isL_congr (h.2.2.2.1 i hi) (fun k _ _ => e k (by omega))
  · exact isL_congr (h.2.2.2.2 q hq) (fun k _ _ => e k (by omega))
theorem CC_field {x : XS} {r : Nat → Int32} (h : CC x r) {f i : Nat} (v : Nat) (hf : okC f = true) (hi : i < 6) : CC (fs x f i v) (upd r (lC f + i) (nI v)) := by
  have hl := lC_low f (okC_lt hf) hf
  refine ⟨fun g j hg hj => ?_, ?_, ?_, fun j hj => ?_, fun q hq => ?_⟩
  · rw [fd_fs]
    by_cases e : g = f
    · subst e
      by_cases ej : j = i
      · subst ej
        rw [upd_same, if_pos ⟨rfl, rfl⟩]
      · rw [upd_ne _ _ (by omega), if_neg (fun q => ej q.2)]
        exact h.1 g j hg hj
    · have := lC_far f (okC_lt hf) g (okC_lt hg) hf hg (Ne.symm e)
      rw [upd_ne _ _ (by omega), if_neg (fun q => e q.1)]
      exact h.1 g j hg hj
  · rw [upd_ne _ _ (by omega), fd_fs, if_neg (fun q => by omega)]
    exact h.2.1
  · exact isL_congr h.2.2.1 (fun k _ _ => upd_ne _ _ (by omega))
  · exact isL_congr (h.2.2.2.1 j hj) (fun k _ _ => upd_ne _ _ (by omega))
  · exact isL_congr (h.2.2.2.2 q hq) (fun k _ _ => upd_ne _ _ (by omega))
theorem CC_place {x : XS} {r : Nat → Int32} (h : CC x r) (v : Nat) : CC (fs x 5 6 v) (upd r 30 (plC v)) := by
  refine ⟨fun g j hg hj => ?_, ?_, ?_, fun j hj => ?_, fun q hq => ?_⟩
  · have := lC_low g (okC_lt hg) hg
    rw [fd_fs, upd_ne _ _ (by omega), if_neg (fun q => by omega)]
    exact h.1 g j hg hj
  · rw [upd_same, fd_fs, if_pos ⟨rfl, rfl⟩]
  · exact isL_congr h.2.2.1 (fun k _ _ => upd_ne _ _ (by omega))
  · exact isL_congr (h.2.2.2.1 j hj) (fun k _ _ => upd_ne _ _ (by omega))
  · exact isL_congr (h.2.2.2.2 q hq) (fun k _ _ => upd_ne _ _ (by omega))
theorem CC_free {x : XS} {r : Nat → Int32} (h : CC x r) {f i v : Nat} (hf : okC f = false) (h6 : f ≠ 5) : CC (fs x f i v) r := by
  refine ⟨fun g j hg hj => ?_, ?_, h.2.2.1, h.2.2.2.1, h.2.2.2.2⟩
  · rw [fd_fs, if_neg (fun q => by rw [q.1, hf] at hg; cases hg)]
    exact h.1 g j hg hj
  · rw [fd_fs, if_neg (fun q => h6 q.1.symm)]
    exact h.2.1
theorem CC_qu {x : XS} {r r1 : Nat → Int32} (h : CC x r) {i : Nat} {l : List Nat} (hi : i < 6) (e : ∀ k, k < 98 + i * 7 ∨ 98 + i * 7 + 6 < k → r1 k = r k) (hl : isL r1 (98 + i * 7) 6 l) : CC (qs x i l) r1 := by
  refine ⟨fun g j hg hj => ?_, ?_, ?_, fun j hj => ?_, fun q hq => ?_⟩
  · have := lC_low g (okC_lt hg) hg
    rw [e _ (by omega)]; exact h.1 g j hg hj
  · rw [e _ (by omega)]; exact h.2.1
  · rw [qu_qs, if_neg (by omega)]
    exact isL_congr h.2.2.1 (fun k _ _ => e _ (by omega))
  · rw [qu_qs]
    by_cases ej : j = i
    · subst ej; rw [if_pos rfl]; exact hl
    · rw [if_neg ej]
      exact isL_congr (h.2.2.2.1 j hj) (fun k _ _ => e _ (by omega))
  · exact isL_congr (h.2.2.2.2 q hq) (fun k _ _ => e _ (by omega))
theorem CC_row {x : XS} {r r1 : Nat → Int32} (h : CC x r) {l : List Nat} (e : ∀ k, k < 37 ∨ 43 < k → r1 k = r k) (hl : isL r1 37 6 l) : CC (qs x 6 l) r1 := by
  refine ⟨fun g j hg hj => ?_, ?_, ?_, fun j hj => ?_, fun q hq => ?_⟩
  · have := lC_low g (okC_lt hg) hg
    rw [e _ (by omega)]; exact h.1 g j hg hj
  · rw [e _ (by omega)]; exact h.2.1
  · rw [qu_qs, if_pos rfl]; exact hl
  · rw [qu_qs, if_neg (by omega)]
    exact isL_congr (h.2.2.2.1 j hj) (fun k _ _ => e _ (by omega))
  · exact isL_congr (h.2.2.2.2 q hq) (fun k _ _ => e _ (by omega))
theorem CC_let {x : XS} {r r1 : Nat → Int32} (h : CC x r) {p : Nat} {l : List (Nat × Nat)} (hp : p < 36) (e : ∀ k, k < 140 + p * 13 ∨ 140 + p * 13 + 12 < k → r1 k = r k) (hl : isL r1 (140 + p * 13) 12 (l.map pk)) : CC (ls x p l) r1 := by
  refine ⟨fun g j hg hj => ?_, ?_, ?_, fun j hj => ?_, fun q hq => ?_⟩
  · have := lC_low g (okC_lt hg) hg
    rw [e _ (by omega)]; exact h.1 g j hg hj
  · rw [e _ (by omega)]; exact h.2.1
  · exact isL_congr h.2.2.1 (fun k _ _ => e _ (by omega))
  · exact isL_congr (h.2.2.2.1 j hj) (fun k _ _ => e _ (by omega))
  · rw [lt_ls]
    by_cases ej : q = p
    · subst ej; rw [if_pos rfl]; exact hl
    · rw [if_neg ej]
      exact isL_congr (h.2.2.2.2 q hq) (fun k _ _ => e _ (by omega))
theorem CC_bs {x : XS} {r : Nat → Int32} (h : CC x r) (k : Nat) (v : Int32) : CC (bs x k v) r := h
theorem gD_app (l : List Nat) (v k : Nat) : (l ++ [v]).getD k 0 = if k = l.length then v else l.getD k 0 := by
  simp only [List.getD_eq_getElem?_getD]
  by_cases h : k = l.length
  · subst h; simp
  · rw [if_neg h]
    by_cases h2 : k < l.length
    · rw [List.getElem?_append_left h2]
    · rw [List.getElem?_eq_none (by simp; omega), List.getElem?_eq_none (by omega)]
theorem gD_zero {l : List Nat} {k : Nat} (h : l.length ≤ k) : l.getD k 0 = 0 := by
  rw [List.getD_eq_getElem?_getD, List.getElem?_eq_none h]
  rfl
/-- only one list's place in the class's row has changed -/
def FRC (b m : Nat) (u v : Wo) : Prop := (∀ c, c ≠ 6 → v c = u c) ∧ ∀ k, k < b ∨ b + m < k → v 6 k = u 6 k
theorem C_append_full (u : Wo) {b m : Nat} {l : List Nat} (v : Int32) (hb : b + m < 618) (hl : isL (u 6) b m l) (h : m ≤ l.length) : fX3_append (nI b) (nI m) v u = some (0, u) := by
  have hn : l.length = m := Nat.le_antisymm hl.2.1 h
  unfold fX3_append
  rw [if_neg (nI_pos (by omega)), nI_add, if_pos (show nI (b + m) < (618 : Int32) from nI_lt (b := 618) hb (by decide)), gi_eq (inb_nI (by omega) (by decide)), nI_clamp (by omega), hl.1, if_neg (nI_pos (by omega)), if_neg (nI_nlt (by omega) (by omega))]
  rfl
theorem C_append_ok (u : Wo) {b m : Nat} {l : List Nat} (v : Nat) (hb : b + m < 618) (hl : isL (u 6) b m l) (h : l.length < m) : Gd (fX3_append (nI b) (nI m) (nI v) u) (fun r u1 => r = 1 ∧ FRC b m u u1 ∧ isL (u1 6) b m (l ++ [v])) := by
  unfold fX3_append
  rw [if_neg (nI_pos (by omega)), nI_add, if_pos (show nI (b + m) < (618 : Int32) from nI_lt (b := 618) hb (by decide)), gi_eq (inb_nI (by omega) (by decide)), nI_clamp (by omega), hl.1, if_neg (nI_pos (by omega)), if_pos (nI_lt h (by omega)), n1, nI_add, nI_add, gi_eq (inb_nI (by omega) (by decide)), nI_clamp (by omega), nI_add]
  refine gd_bw ?_
  rw [gi_eq (inb_nI (by omega) (by decide))]
  refine gd_bw (gd_ret ⟨rfl, ⟨fun c hc => by rw [wr_ne _ _ _ hc, wr_ne _ _ _ hc], fun k hk => ?_⟩, ?_, ?_, fun k hk => ?_⟩)
  · rw [wr_same, wr_same, upd_ne _ _ (by omega), upd_ne _ _ (by omega)]
  · rw [wr_same, upd_same, List.length_append]; rfl
  · rw [List.length_append]; exact h
  · rw [wr_same, wr_same, upd_ne _ _ (by omega), gD_app]
    by_cases e : k = l.length
    · subst e; rw [if_pos rfl, upd_same]
    · rw [if_neg e, upd_ne _ _ (by omega)]
      exact hl.2.2 k hk
theorem C_takeFirst (u : Wo) {b m a : Nat} {l : List Nat} (hb : b + m < 618) (hm : 0 < m) (hl : isL (u 6) b m (a :: l)) : Gd (fX3_takeFirst (nI b) (nI m) u) (fun r u1 => r = nI a ∧ FRC b m u u1 ∧ isL (u1 6) b m l) := by
  have h2 := hl.2.1
  simp only [List.length_cons] at h2
  unfold fX3_takeFirst
  rw [bd_eq (C_get u (by omega)), n1, nI_add, bd_eq (C_get u (by omega)), hl.1, hl.2.2 0 hm, List.length_cons, if_neg (nI_nlt (by omega) (by omega)), if_pos (nI_le h2 (by omega))]
  refine lp_gd (σ := Int32 × Wo) (fun n s => fX3_takeFirst_31 fX3_takeFirst_61 n (nI b) (nI (l.length + 1)) (nI a) s.1 s.2) (fun d s => ∃ i, 1 ≤ i ∧ i + d = l.length + 1 ∧ s.1 = nI i ∧ FRC b m u s.2 ∧ s.2 6 b = u 6 b ∧ ∀ k, k < m → s.2 6 (b + 1 + k) = if k + 1 < i then nI (l.getD k 0) else u 6 (b + 1 + k)) _ ?_ ?_ (d := l.length) (m := FU) (s := (nI 1, u)) (by have := FU_ge; omega) ⟨1, by omega, by omega, rfl, ⟨fun _ _ => rfl, fun _ _ => rfl⟩, rfl, fun k hk => by rw [if_neg (by omega)]⟩
  · rintro n ⟨si, su⟩ ⟨i, hi1, hi, rfl, hF, hbb, hk⟩
    dsimp only at hF hbb hk ⊢
    obtain rfl : i = l.length + 1 := by omega
    rw [fX3_takeFirst_31.eq_2, if_pos (nI_le (Nat.le_refl _) (by omega))]
    unfold fX3_takeFirst_61
    rw [nI_add, n0, bd_eq (C_put su (nI 0) (by omega)), n1, nI_sub (by omega), show l.length + 1 - 1 = l.length from rfl, bd_eq (C_put _ _ (by omega))]
    refine gd_ret ⟨rfl, ⟨fun c hc => by rw [wr_ne _ _ _ hc, wr_ne _ _ _ hc]; exact hF.1 c hc, fun k hk => ?_⟩, ?_, by omega, fun k hk2 => ?_⟩
    · rw [wr_same, wr_same, upd_ne _ _ (by omega), upd_ne _ _ (by omega)]
      exact hF.2 k hk
    · rw [wr_same, upd_same]
    · rw [wr_same, wr_same, upd_ne _ _ (by omega)]
      by_cases e : k = l.length
      · subst e
        rw [show b + 1 + l.length = b + (l.length + 1) from by omega, upd_same, gD_zero (Nat.le_refl _)]
      · rw [upd_ne _ _ (by omega), hk k hk2]
        by_cases e2 : k + 1 < l.length + 1
        · rw [if_pos e2]
        · rw [if_neg e2, hl.2.2 k hk2, gD_zero (by simp; omega), gD_zero (by omega)]
  · rintro n d ⟨si, su⟩ ⟨i, hi1, hi, rfl, hF, hbb, hk⟩
    dsimp only at hF hbb hk ⊢
    refine Or.inr ⟨(nI (i + 1), wr su 6 (b + i) (su 6 (b + i + 1))), ?_, i + 1, by omega, by omega, rfl, ⟨fun c hc => by dsimp only; rw [wr_ne _ _ _ hc]; exact hF.1 c hc, fun k hk => ?_⟩, ?_, fun k hk2 => ?_⟩
    · rw [fX3_takeFirst_31.eq_2, if_neg (nI_ge (by omega) (by omega)), nI_add, n1, nI_add, bd_eq (C_get su (by omega)), bd_eq (C_put su _ (by omega)), nI_add]
    · dsimp only; rw [wr_same, upd_ne _ _ (by omega)]
      exact hF.2 k hk
    · dsimp only; rw [wr_same, upd_ne _ _ (by omega), hbb]
    · dsimp only
      rw [wr_same]
      by_cases e : k + 1 = i
      · obtain rfl : i = k + 1 := e.symm
        rw [show b + 1 + k = b + (k + 1) from by omega, upd_same, if_pos (by omega), show b + (k + 1) + 1 = b + 1 + (k + 1) from by omega, hk (k + 1) (by omega), if_neg (by omega), hl.2.2 (k + 1) (by omega)]
        rfl
      · rw [upd_ne _ _ (by omega), hk k hk2]
        by_cases e2 : k + 1 < i
        · rw [if_pos e2, if_pos (by omega)]
        · rw [if_neg e2, if_neg (by omega)]
