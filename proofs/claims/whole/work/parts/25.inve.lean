-- what holds before an act holds behind it
theorem ru1_55 {x : XS} {n i : Nat} (h : ∀ j, j < 6 → fd x 5 j < n) (hi : i < 6) (hq : ∀ q ∈ qu x i, q < n) : fd (ru1 x i) 5 i < n := by
  by_cases hc : fd x 5 i = i ∧ fd x 0 i ≠ 2
  · cases hl : qu x i with
    | nil => rw [ru1_nil hl]; exact h i hi
    | cons f t =>
      rw [ru1_cons hl hc.1 hc.2]
      have hf : f < n := hq f (by rw [hl]; exact List.mem_cons_self)
      split
      · rw [fd_ent, if_neg (by omega), fd_fs, if_neg (by omega), fd_fs, if_pos ⟨rfl, rfl⟩]; exact hf
      · rw [fd_snd _ _ _ _ _ _ (by decide), fd_fs, if_neg (by omega), fd_fs, if_pos ⟨rfl, rfl⟩]; exact hf
  · rw [ru1_no hc]; exact h i hi
theorem INV_rul {n B : Nat} {x : XS} {i : Nat} (hi : i < n) (hn : n ≤ 6) (hB : 64 ≤ B) (nb : NB B x) (he : ev x + 1 ≤ B) (st : ST 2 n x) (zr : ZR 2 x) (ir : fd x 13 0 = 0 → IR n x) (ho : fd (rul x i) 13 0 = 0) : INV 2 n B (rul x i) := by
  have h1 := NB_ru1 (i := i) nb he (by omega) (fun q hq => Nat.lt_of_lt_of_le (st.2.2.1 i q hq) hn)
  have s1 := ST_ru1 st hi hn
  have o1 : fd (ru1 x i) 13 0 = 0 := ov_ru2 ho
  refine ⟨NB_ru2 h1.1 (by omega), ST_ru2 s1 hi hn, ZR2_ru2 (ZR2_ru1 zr (by omega)), fun q => by omega, fun q => by omega, fun _ => ?_, ho⟩
  exact IR_ru2 (IR_ru1 (ir (ov_ru1 o1)) hi hn (st.2.2.1 i) o1) hi hn (s1.1 i (by omega)) ho
theorem need_wan {n B : Nat} {x : XS} (h : INV 2 n B x) (hn : n ≤ 6) {i : Nat} (hi : i < n) (hm : fd x 0 i = 0) : (qu x i).count i = 0 ∧ (qu x i).length < 6 := by
  obtain ⟨nb, st, zr, -, -, ir, -⟩ := h
  obtain ⟨t1, t2, t3⟩ := ir rfl
  have c0 := t3 i hi
  rw [if_neg (by omega)] at c0
  refine ⟨c0, len_lt (j := i) (by omega) (fun q hq => Nat.lt_of_lt_of_le (st.2.2.1 i q hq) hn) (fun q hq => ?_) c0⟩
  by_cases e : q = i
  · subst e; omega
  · by_cases eq : q < n
    · have := t1 i hi q eq e
      split at this <;> omega
    · rw [List.count_eq_zero.mpr (fun hm => eq (st.2.2.1 i q hm))]; omega
theorem need_com {n B : Nat} {x : XS} (h : INV 2 n B x) (hn : n ≤ 6) {i j nm : Nat} {t : List (Nat × Nat)} (hj6 : j < 6) (hl : lt x (i * 6 + j) = (0, nm) :: t) : (qu x j).count i = 0 ∧ (qu x j).length < 6 := by
  obtain ⟨nb, st, zr, -, -, ir, -⟩ := h
  obtain ⟨t1, t2, t3⟩ := ir rfl
  obtain ⟨hi, hj, hd⟩ := ST_lt st hj6 hl
  have c1 := t1 j hj i hi hd
  have ck1 : 1 ≤ ck x 0 i j := by
    unfold ck
    rw [hl, List.countP_cons, if_pos (by simp)]
    omega
  have c0 : (qu x j).count i = 0 := by split at c1 <;> omega
  refine ⟨c0, len_lt (j := i) (by omega) (fun q hq => Nat.lt_of_lt_of_le (st.2.2.1 j q hq) hn) (fun q hq => ?_) c0⟩
  by_cases e : q = j
  · subst e
    have := t3 q hj
    split at this <;> omega
  · by_cases eq : q < n
    · have := t1 j hj q eq e
      split at this <;> omega
    · rw [List.count_eq_zero.mpr (fun hm => eq (st.2.2.1 j q hm))]; omega
theorem IT_ent_at {n : Nat} {x : XS} (h : IT n x) {i z : Nat} {k : Int32} (hi : i < n) (hn : i < 6) (e5 : fd x 5 6 = i) : IT n (ent (bs (fs x 0 i 1) z k) i) := by
  have F0 : ∀ c, fd (ent (bs (fs x 0 i 1) z k) i) 0 c = if c = i then 2 else fd x 0 c := fun c => by
    rw [fd_ent]
    by_cases ec : c = i
    · rw [if_pos ⟨rfl, ec⟩, if_pos ec]
    · rw [if_neg (fun q => ec q.2), if_neg ec, fd_bs, fd_fs, if_neg (fun q => ec q.2)]
  have F5 : fd (ent (bs (fs x 0 i 1) z k) i) 5 6 = i := by rw [fd_ent, if_neg (by omega), fd_bs, fd_fs, if_neg (by omega)]; exact e5
  refine ⟨h.1, fun a b ha hb hc => ?_, fun _ => ?_, fun c hc q => ?_⟩
  · have : ck x 2 a b = 0 := IT_none h (by omega) a b ha hb
    have hc : 1 ≤ ck x 2 a b := hc
    omega
  · rw [F5, F0, if_pos rfl]
    have := (h.2.2.1 (by omega)).1
    rw [e5] at this
    exact ⟨this, fun q => (q rfl).elim⟩
  · rw [F0] at q
    rw [F5]
    by_cases ec : c = i
    · exact ec.symm
    · rw [if_neg ec] at q
      rw [← h.2.2.2 c hc q, e5]
theorem rwo_not {x : XS} {i : Nat} (h1 : (qu x 6).count i = 0) (h2 : fd x (20 + i) i ≠ fd x 9 i + 1) : ∀ j, (qu (rwo x i j) 6).count i = 0
  | 0 => h1
  | j + 1 => by
    unfold rwo
    split
    · rename_i e
      rw [qu_qs, if_pos rfl, List.count_append, rwo_not h1 h2 j, List.count_singleton]
      have : j ≠ i := fun q => by
        subst q
        have e2 := e.2
        rw [fd_rwo] at e2
        exact h2 e2
      rw [if_neg (by simp [this])]
    · exact rwo_not h1 h2 j
theorem inv_wan {w n B : Nat} {x : XS} (h : INV w n B x) (h3 : w < 3) (hn : n ≤ 6) (h2 : 2 ≤ n) (hB : 64 ≤ B) {i : Nat} (hi : i < n) (hm : fd x 0 i = 0) (ho : fd (wan w n x i) 13 0 = 0) : INV w n (B + 1) (wan w n x i) := by
  have hI := h
  obtain ⟨nb, st, zr, ia, it, ir, o⟩ := h
  have nb' := NB_mono nb (Nat.le_succ B)
  have he := nb.2.2
  have b1 := nb.1 1 i
  have bk := nb.1 (20 + i) i
  have nb0 : NB (B + 1) (bs (fs x 0 i 1) (1 + i) (nI (ev x))) := NB_fs nb' (by omega)
  have st0 : ST w n (bs (fs x 0 i 1) (1 + i) (nI (ev x))) := ST_fs st (fun q => by omega) (fun q => by omega)
  have zr0 : ZR w (bs (fs x 0 i 1) (1 + i) (nI (ev x))) := ZR_f0 zr i 1
  rcases (show w = 0 ∨ w = 1 ∨ w = 2 by omega) with rfl | rfl | rfl
  · have e : wan 0 n x i = sno (fs (fs (fs (fs (bs (fs x 0 i 1) (1 + i) (nI (ev x))) 1 i (fd x 1 i + 1)) 2 i (fd x 1 i + 1)) 3 i (n - 1)) 7 i 0) i 0 (fd x 1 i + 1) n := if_pos rfl
    rw [e] at ho ⊢
    refine ⟨NB_sno (NB_fs (NB_fs (NB_fs (NB_fs nb0 (by omega)) (by omega)) (by omega)) (by omega)) (by omega) (by omega) n, ST_sno (ST_fs (ST_fs (ST_fs (ST_fs st0 (fun q => by omega) (fun q => by omega)) (fun q => by omega) (fun q => by omega)) (fun q => by omega) (fun q => by omega)) (fun q => by omega) (fun q => by omega)) hi hn n (Nat.le_refl _), ZR_sno (ZR_fs (ZR_fs (ZR_fs (ZR_fs zr0 ?_ ?_ ?_) ?_ ?_ ?_) ?_ ?_ ?_) ?_ ?_ ?_) _ _ _ n, fun _ => IA_wan (ia rfl) hn h2 hi hm st.2.1 (by omega) _ _ ho, fun q => by omega, fun q => by omega, ho⟩ <;> intros <;> omega
  · have e : wan 1 n x i = if fd x 5 6 = i then ent (bs (fs x 0 i 1) (1 + i) (nI (ev x))) i else sno (fs (bs (fs x 0 i 1) (1 + i) (nI (ev x))) (20 + i) i (fd x (20 + i) i + 1)) i 0 (fd x (20 + i) i + 1) n := rfl
    rw [e] at ho ⊢
    split
    · rename_i e5
      rw [if_pos e5] at ho
      exact ⟨NB_ent nb0 (by show ev x + 1 ≤ B + 1; omega) (by omega), ST_ent st0 i, ZR_ent zr0 i, fun q => by omega, fun _ => IT_ent_at (it rfl) hi (by omega) e5, fun q => by omega, ho⟩
    · rename_i e5
      rw [if_neg e5] at ho
      refine ⟨NB_sno (NB_fs nb0 (by omega)) (by omega) (by omega) n, ST_sno (ST_fs st0 (fun q => by omega) (fun q => by omega)) hi hn n (Nat.le_refl _), ZR_sno (ZR_fs zr0 ?_ ?_ ?_) _ _ _ n, fun q => by omega, fun _ => ?_, fun q => by omega, ho⟩
      · intros; omega
      · intro q; exact (q rfl).elim
      · intros; omega
      · refine IT_c (it rfl) (by rw [qu_sno]; rfl) (fun a b ha hb => ?_) ?_ (fun c => ?_)
        · rw [ck_sno (by omega) hn ho 2 a (by omega), if_neg (by omega)]; rfl
        · rw [fd_sno _ _ _ _ _ (by decide), fd_fs, if_neg (by omega), fd_bs, fd_fs, if_neg (by omega)]
        · rw [fd_sno _ _ _ _ _ (by decide), fd_fs, if_neg (by omega), fd_bs, fd_fs]
          by_cases ec : c = i
          · subst ec
            rw [if_pos ⟨rfl, rfl⟩, hm]; omega
          · rw [if_neg (fun q => ec q.2)]
  · have e : wan 2 n x i = rul (qs (bs (fs x 0 i 1) (1 + i) (nI (ev x))) i (qu x i ++ [i])) i := rfl
    rw [e] at ho ⊢
    obtain ⟨c0, hlen⟩ := need_wan hI hn hi hm
    obtain ⟨t1, t2, t3⟩ := ir rfl
    refine INV_rul hi hn (by omega) (NB_qs nb0 _ _) (by show ev x + 1 ≤ B + 1; omega) (ST_qs st0 (fun q hq => ?_)) (ZR2_qs zr0 (by omega)) (fun _ => ⟨fun a ha j hj hja => ?_, fun j hj => ?_, fun a ha => ?_⟩) ho
    · rcases List.mem_append.mp hq with hq | hq
      · exact st.2.2.1 i q hq
      · rw [List.mem_singleton.mp hq]; exact hi
    · have F5 : fd (qs (bs (fs x 0 i 1) (1 + i) (nI (ev x))) i (qu x i ++ [i])) 5 j = fd x 5 j := by rw [fd_qs, fd_bs, fd_fs, if_neg (by omega)]
      have F6 : fd (qs (bs (fs x 0 i 1) (1 + i) (nI (ev x))) i (qu x i ++ [i])) 6 j = fd x 6 j := by rw [fd_qs, fd_bs, fd_fs, if_neg (by omega)]
      rw [F5, F6, ← t1 a ha j hj hja, qu_qs]
      by_cases ea : a = i
      · subst ea
        rw [if_pos rfl, List.count_append, List.count_singleton, if_neg (by simp; omega)]; rfl
      · rw [if_neg ea]; rfl
    · rw [fd_qs, fd_bs, fd_fs, if_neg (by omega)]; exact t2 j hj
    · rw [fd_qs, fd_bs, fd_fs, qu_qs]
      by_cases ea : a = i
      · subst ea
        rw [if_pos rfl, if_pos (show (0 = 0 ∧ a = a) from ⟨rfl, rfl⟩), if_pos rfl, List.count_append, c0, List.count_singleton, if_pos (by simp)]
      · rw [if_neg ea, if_neg (show ¬ (0 = 0 ∧ a = i) by omega)]
        exact t3 a ha
theorem need_lef {n B : Nat} {x : XS} (h : INV 1 n B x) (hn : n ≤ 6) (hB : B < 268435456) (i : Nat) : ∀ y, y = rwo (fs (fs x 0 i 0) 9 i (fd x (20 + i) i)) i → (∀ j, j ≤ n → WF (y j) ∧ (∀ q, (qu (y j) 6).count q ≤ 1) ∧ ∀ q ∈ qu (y j) 6, q < n) ∧ ∀ j, j < n → ¬ j ∈ qu (y j) 6 → (qu (y j) 6).length < 6 := by
  intro y hy
  have hW := INV_WF h hn hB
  obtain ⟨nb, st, zr, -, it, -⟩ := h
  have W1 : WF (fs (fs x 0 i 0) 9 i (fd x (20 + i) i)) := WF_fs (WF_fs hW (by decide) (fun q => by omega) (fun q => by omega)) (hW.1 _ _) (fun q => by omega) (fun q => by omega)
  have R := rwo_row (x := fs (fs x 0 i 0) 9 i (fd x (20 + i) i)) (i := i) (n := n) (it rfl).1 (st.2.2.1 6)
  refine ⟨fun j hj => ⟨?_, ?_⟩, fun j hj hm => ?_⟩
  · obtain ⟨l1, l2, l3⟩ := lt_rwo (fs (fs x 0 i 0) 9 i (fd x (20 + i) i)) i j
    have hf := fd_rwo (fs (fs x 0 i 0) 9 i (fd x (20 + i) i)) i j
    rw [hy]
    refine ⟨fun f k => by rw [hf]; exact W1.1 f k, fun k hk => by rw [hf]; exact W1.2.1 k hk, fun k hk => by rw [hf]; exact W1.2.2.1 k hk, fun k q hq => ?_, fun p q hq => W1.2.2.2.2.1 p q (by rw [← l1]; exact hq), by unfold ev; rw [l2]; exact W1.2.2.2.2.2⟩
    by_cases e : k = 6
    · subst e; exact Nat.lt_of_lt_of_le ((R j hj).2 q hq) hn
    · exact W1.2.2.2.1 k q (by rw [← l3 k e]; exact hq)
  · rw [hy]; exact R j hj
  · rw [hy] at hm ⊢
    exact len_lt (j := j) (by omega) (fun q hq => Nat.lt_of_lt_of_le ((R j (by omega)).2 q hq) hn) (fun q _ => (R j (by omega)).1 q) (List.count_eq_zero.mpr hm)
theorem inv_lef {w n B : Nat} {x : XS} (h : INV w n B x) (h3 : w < 3) (hn : n ≤ 6) (hB : 64 ≤ B) (hB2 : B < 268435456) {i : Nat} (hi : i < n) (hm : fd x 0 i = 2) (ho : fd (lef w n x i) 13 0 = 0) : INV w n (B + 1) (lef w n x i) := by
  have hI := h
  obtain ⟨nb, st, zr, ia, it, ir, o⟩ := h
  have nb' := NB_mono nb (Nat.le_succ B)
  have nb0 : NB (B + 1) (fs x 0 i 0) := NB_fs nb' (by omega)
  have st0 : ST w n (fs x 0 i 0) := ST_fs st (fun q => by omega) (fun q => by omega)
  have zr0 : ZR w (fs x 0 i 0) := ZR_f0 zr i 0
  rcases (show w = 0 ∨ w = 1 ∨ w = 2 by omega) with rfl | rfl | rfl
  · have e : lef 0 n x i = gvo (fd x 4 i) (fs (fs x 0 i 0) 4 i 0) i n := if_pos rfl
    rw [e] at ho ⊢
    have st1 : ST 0 n (fs (fs x 0 i 0) 4 i 0) := ST_fs st0 (fun q => by omega) (fun q => by omega)
    have gs : ∀ j, j ≤ n → ST 0 n (gvo (fd x 4 i) (fs (fs x 0 i 0) 4 i 0) i j) := fun j => by
      induction j with
      | zero => intro _; exact st1
      | succ j ihj =>
        intro hj
        unfold gvo
        split
        · rename_i eb
          refine ST_snd (ihj (by omega)) hi (by omega) hn ⟨by omega, fun _ => by omega, fun q => by omega⟩ (fun q => ?_)
          have := ((ia rfl).2.2.1 i hi j (by omega) (Or.inl q.symm)).2
          omega
        · exact ihj (by omega)
    refine ⟨NB_gvo (NB_fs nb0 (by omega)) (by omega) n, gs n (Nat.le_refl _), ZR_gvo (ZR_fs zr0 ?_ ?_ ?_) _ n, fun _ => IA_lef (ia rfl) hn hi hm ho, fun q => by omega, fun q => by omega, ho⟩ <;> intros <;> omega
  · have e : lef 1 n x i = pafi (rwo (fs (fs x 0 i 0) 9 i (fd x (20 + i) i)) i n) i := rfl
    rw [e] at ho ⊢
    have H := need_lef hI hn hB2 i _ rfl
    obtain ⟨l1, l2, l3⟩ := lt_rwo (fs (fs x 0 i 0) 9 i (fd x (20 + i) i)) i n
    have hf := fd_rwo (fs (fs x 0 i 0) 9 i (fd x (20 + i) i)) i n
    have nb1 := NB_rwo (NB_fs nb0 (f := 9) (i := i) (v := fd x (20 + i) i) (nb'.1 _ _)) i n
    have hR := H.1 n (Nat.le_refl _)
    have zr1 : ZR 1 (rwo (fs (fs x 0 i 0) 9 i (fd x (20 + i) i)) i n) := ZR1_row (x := fs (fs x 0 i 0) 9 i (fd x (20 + i) i)) (ZR_fs zr0 (by intros; omega) (by intro q; exact (q rfl).elim) (by intros; omega)) hf l3
    have st1 : ST 1 n (rwo (fs (fs x 0 i 0) 9 i (fd x (20 + i) i)) i n) := by
      have s := ST_fs st0 (f := 9) (i := i) (v := fd x (20 + i) i) (fun q => by omega) (fun q => by omega)
      refine ⟨fun j hj => by rw [hf]; exact s.1 j hj, fun j hj => by rw [hf]; exact s.2.1 j hj, fun k q hq => ?_, fun p q hq => s.2.2.2.1 p q (by rw [← l1]; exact hq), fun a b hb hc => by rw [l1]; exact s.2.2.2.2.1 a b hb hc, by rw [hf]; exact s.2.2.2.2.2⟩
      by_cases ek : k = 6
      · subst ek; exact hR.2.2 q hq
      · exact s.2.2.1 k q (by rw [← l3 k ek]; exact hq)
    have hpl := (it rfl).2.2.2 i hi hm
    have hnone := IT_none (it rfl) (by omega)
    have hri := rwo_not (x := fs (fs x 0 i 0) 9 i (fd x (20 + i) i)) (i := i) (by show (qu x 6).count i = 0; have := ((it rfl).2.2.1 (by omega)).1; rw [hpl] at this; exact this) (by rw [fd_fs, if_neg (by omega), fd_fs, if_neg (by omega), fd_fs, if_pos ⟨rfl, rfl⟩]; omega) n
    have hy2 : ∀ a b, ck (rwo (fs (fs x 0 i 0) 9 i (fd x (20 + i) i)) i n) 2 a b = ck x 2 a b := fun a b => by unfold ck; rw [l1]; rfl
    have hy0 : ∀ c, c < n → fd (rwo (fs (fs x 0 i 0) 9 i (fd x (20 + i) i)) i n) 0 c ≠ 2 := fun c hc q => by
      rw [hf, fd_fs, if_neg (by omega), fd_fs] at q
      by_cases ec : c = i
      · rw [if_pos ⟨rfl, ec⟩] at q; omega
      · rw [if_neg (fun z => ec z.2)] at q
        exact ec (by have := (it rfl).2.2.2 c hc q; omega)
    have hy5 : fd (rwo (fs (fs x 0 i 0) 9 i (fd x (20 + i) i)) i n) 5 6 = i := by rw [hf, fd_fs, if_neg (by omega), fd_fs, if_neg (by omega)]; exact hpl
    generalize rwo (fs (fs x 0 i 0) 9 i (fd x (20 + i) i)) i n = y at nb1 st1 zr1 hR ho hri hy2 hy0 hy5 ⊢
    unfold pafi at ho ⊢
    cases hl : qu y 6 with
    | nil =>
      rw [hl] at ho
      exact ⟨nb1, st1, zr1, fun q => by omega, fun _ => ⟨hR.2.1, fun a b ha hb hc => by rw [hy2, hnone a b ha hb] at hc; omega, fun _ => ⟨by rw [hl]; rfl, fun _ => hl⟩, fun c hc q => (hy0 c hc q).elim⟩, fun q => by omega, ho⟩
    | cons f t =>
      rw [hl] at ho
      dsimp only at ho ⊢
      have hf2 : f < n := hR.2.2 f (by rw [hl]; exact List.mem_cons_self)
      have hcf := hR.2.1 f
      have hci := hri
      rw [hl, List.count_cons] at hcf hci
      have hfi : i ≠ f := fun q => by
        rw [if_pos (by simp [q])] at hci; omega
      refine ⟨NB_snd (NB_fs (NB_qs nb1 6 t) (by omega)) (Nat.zero_le _) (by omega), ST_snd (ST_fs (ST_qs st1 (fun q hq => hR.2.2 q (by rw [hl]; exact List.mem_cons_of_mem _ hq))) (fun _ => by rw [if_neg (by omega)]; omega) (fun q => by omega)) hi hf2 hn ⟨by omega, fun q => by omega, fun _ => by omega⟩ hfi, ZR_snd (ZR_fs (ZR1_row (x := y) (y := qs y 6 t) zr1 rfl (fun k hk => by rw [qu_qs, if_neg hk])) (by intros; omega) (by intro q; exact (q rfl).elim) (by intros; omega)) _ _ _ _, fun q => by omega, fun _ => IT_pas (x := qs y 6 t) hn hi hf2 (fun q => ?_) (fun c d hc hd => ?_) ?_ (fun c hc => hy0 c hc) ho, fun q => by omega, ho⟩
      · rw [qu_qs, if_pos rfl]
        have := hR.2.1 q
        rw [hl, List.count_cons] at this
        omega
      · rw [ck_qs, hy2]; exact hnone c d hc hd
      · rw [qu_qs, if_pos rfl]
        rw [if_pos (by simp)] at hcf
        omega
  · have e : lef 2 n x i = rul (fs x 0 i 0) i := rfl
    rw [e] at ho ⊢
    obtain ⟨t1, t2, t3⟩ := ir rfl
    refine INV_rul hi hn (by omega) nb0 (by show ev x + 1 ≤ B + 1; have := nb.2.2; omega) st0 zr0 (fun _ => ⟨fun a ha j hj hja => ?_, fun j hj => ?_, fun a ha => ?_⟩) ho
    · rw [show fd (fs x 0 i 0) 5 j = fd x 5 j from by rw [fd_fs, if_neg (by omega)], show fd (fs x 0 i 0) 6 j = fd x 6 j from by rw [fd_fs, if_neg (by omega)]]
      exact t1 a ha j hj hja
    · rw [fd_fs, if_neg (by omega)]; exact t2 j hj
    · rw [fd_fs]
      have := t3 a ha
      by_cases ea : a = i
      · subst ea
        rw [if_neg (by omega)] at this
        rw [if_pos (show (0 = 0 ∧ a = a) from ⟨rfl, rfl⟩), if_neg (by decide)]; exact this
      · rw [if_neg (show ¬ (0 = 0 ∧ a = i) by omega)]; exact this
theorem inv_com {w n B : Nat} {x : XS} (h : INV w n B x) (h3 : w < 3) (hn : n ≤ 6) (hB : 64 ≤ B) {i j kd nm : Nat} {t : List (Nat × Nat)} (hj6 : j < 6) (hl : lt x (i * 6 + j) = (kd, nm) :: t) (ho : fd (com w x i j) 13 0 = 0) : INV w n (B + 1) (com w x i j) := by
  have hI := h
  obtain ⟨nb, st, zr, ia, it, ir, o⟩ := h
  obtain ⟨hi, hj, hd⟩ := ST_lt st hj6 hl
  have nb' := NB_mono nb (Nat.le_succ B)
  have he := nb.2.2
  have bnm : nm ≤ B := nb.2.1 (i * 6 + j) (kd, nm) (by rw [hl]; exact List.mem_cons_self)
  have nb0 : NB (B + 1) (ls x (i * 6 + j) t) := NB_ls nb' (fun q hq => nb'.2.1 (i * 6 + j) q (by rw [hl]; exact List.mem_cons_of_mem _ hq))
  have st0 : ST w n (ls x (i * 6 + j) t) := ST_tl st hj6 hl
  have zr0 : ZR w (ls x (i * 6 + j) t) := zr
  rcases (show w = 0 ∨ w = 1 ∨ w = 2 by omega) with rfl | rfl | rfl
  · have ho1 := ho
    rw [com_cons hl, if_pos rfl] at ho
    have h4 := st.2.1 j hj6
    have l4 := m_or_lt ⟨_, h4.1⟩ ⟨i, by omega⟩
    have l7 := m_or_lt ⟨_, h4.2⟩ ⟨i, by omega⟩
    dsimp only at l4 l7
    have b1 := nb.1 1 j
    have hmx : Nat.max (fd x 1 j) nm ≤ B := Nat.max_le.mpr ⟨b1, bnm⟩
    have b3 := nb.1 3 j
    refine ⟨?_, ?_, ?_, fun _ => IA_com hI hn hj6 hl ho1, fun q => by omega, fun q => by omega, ho1⟩
    · rw [com_cons hl, if_pos rfl]
      split
      · unfold aba
        have n1 : NB (B + 1) (fs (ls x (i * 6 + j) t) 1 j (Nat.max (fd (ls x (i * 6 + j) t) 1 j) nm + 1)) := NB_fs nb0 (by show Nat.max (fd x 1 j) nm + 1 ≤ _; omega)
        split
        · exact NB_fs n1 (by show fd x 4 j ||| 2 ^ i ≤ _; omega)
        · exact NB_snd n1 (Nat.zero_le _) (by omega)
      · have n1 : NB (B + 1) (fs (fs (ls x (i * 6 + j) t) 7 j (fd x 7 j ||| 2 ^ i)) 3 j (fd x 3 j - 1)) := NB_fs (NB_fs nb0 (by omega)) (by omega)
        split
        · exact NB_ent n1 (by show ev x + 1 ≤ B + 1; omega) (by omega)
        · exact n1
    · rw [com_cons hl, if_pos rfl]
      split
      · unfold aba
        have s1 : ST 0 n (fs (ls x (i * 6 + j) t) 1 j (Nat.max (fd (ls x (i * 6 + j) t) 1 j) nm + 1)) := ST_fs st0 (fun q => by omega) (fun q => by omega)
        split
        · exact ST_fs s1 (fun q => by omega) (fun _ _ => l4)
        · exact ST_snd s1 hj hi hn ⟨by omega, fun _ => by omega, fun q => by omega⟩ (Ne.symm hd)
      · have s1 : ST 0 n (fs (fs (ls x (i * 6 + j) t) 7 j (fd x 7 j ||| 2 ^ i)) 3 j (fd x 3 j - 1)) := ST_fs (ST_fs st0 (fun q => by omega) (fun _ _ => l7)) (fun q => by omega) (fun q => by omega)
        split
        · exact ST_ent s1 j
        · exact s1
    · rw [com_cons hl, if_pos rfl]
      split
      · unfold aba
        have z1 : ZR 0 (fs (ls x (i * 6 + j) t) 1 j (Nat.max (fd (ls x (i * 6 + j) t) 1 j) nm + 1)) := ZR_fs zr0 (by intros; omega) (by intros; omega) (by intros; omega)
        split
        · exact ZR_fs z1 (by intros; omega) (by intros; omega) (by intros; omega)
        · exact ZR_snd z1 _ _ _ _
      · have z1 : ZR 0 (fs (fs (ls x (i * 6 + j) t) 7 j (fd x 7 j ||| 2 ^ i)) 3 j (fd x 3 j - 1)) := ZR_fs (ZR_fs zr0 (by intros; omega) (by intros; omega) (by intros; omega)) (by intros; omega) (by intros; omega) (by intros; omega)
        split
        · exact ZR_ent z1 j
        · exact z1
  · have ho1 := ho
    have bk := nb.1 (20 + j) i
    have hmx : Nat.max (fd x (20 + j) i) nm ≤ B := Nat.max_le.mpr ⟨bk, bnm⟩
    have n1 : NB (B + 1) (fs (ls x (i * 6 + j) t) (20 + j) i (Nat.max (fd x (20 + j) i) nm)) := NB_fs nb0 (by omega)
    have s1 : ST 1 n (fs (ls x (i * 6 + j) t) (20 + j) i (Nat.max (fd x (20 + j) i) nm)) := ST_fs st0 (fun q => by omega) (fun q => by omega)
    have z1 : ZR 1 (fs (ls x (i * 6 + j) t) (20 + j) i (Nat.max (fd x (20 + j) i) nm)) := ZR_fs zr0 (by intros; omega) (by intro q; exact (q rfl).elim) (by intros; omega)
    have n2 : NB (B + 1) (fs (ls x (i * 6 + j) t) 5 6 j) := NB_fs nb0 (by omega)
    have s2 : ST 1 n (fs (ls x (i * 6 + j) t) 5 6 j) := ST_fs st0 (fun _ => by rw [if_neg (by omega)]; omega) (fun q => by omega)
    have z2 : ZR 1 (fs (ls x (i * 6 + j) t) 5 6 j) := ZR_fs zr0 (by intros; omega) (by intro q; exact (q rfl).elim) (by intros; omega)
    have n3 : NB (B + 1) (pas (fs (ls x (i * 6 + j) t) (20 + j) i (Nat.max (fd x (20 + j) i) nm)) j i) := NB_snd (NB_fs n1 (by omega)) (Nat.zero_le _) (by omega)
    have s3 : ST 1 n (pas (fs (ls x (i * 6 + j) t) (20 + j) i (Nat.max (fd x (20 + j) i) nm)) j i) := ST_snd (ST_fs s1 (fun _ => by rw [if_neg (by omega)]; omega) (fun q => by omega)) hj hi hn ⟨by omega, fun q => by omega, fun _ => by omega⟩ (Ne.symm hd)
    have z3 : ZR 1 (pas (fs (ls x (i * 6 + j) t) (20 + j) i (Nat.max (fd x (20 + j) i) nm)) j i) := ZR_snd (ZR_fs z1 (by intros; omega) (by intro q; exact (q rfl).elim) (by intros; omega)) _ _ _ _
    have q3 : qu (pas (fs (ls x (i * 6 + j) t) (20 + j) i (Nat.max (fd x (20 + j) i) nm)) j i) = qu x := qu_snd _ _ _ _ _
    have CK := fun a b (hb : b < 6) => ck_cons x hj6 hl 2 a hb
    refine ⟨?_, ?_, ?_, fun q => by omega, fun _ => ?_, fun q => by omega, ho1⟩ <;> rw [com_cons hl, if_neg (show ¬ (1 : Nat) = 0 from by decide), if_pos rfl]
    · split
      · split
        · exact n3
        · exact n1
      · exact NB_ent n2 (by show ev x + 1 ≤ B + 1; omega) (by omega)
    · split
      · split
        · exact s3
        · exact s1
      · exact ST_ent s2 j
    · split
      · split
        · exact z3
        · exact z1
      · exact ZR_ent z2 j
    · split
      · rename_i ek
        split
        · rename_i e5
          have hp := (it rfl).2.2.1 (by omega)
          have hrow : qu x 6 = [] := hp.2 (by rw [e5.1]; omega)
          refine IT_pas (x := fs (ls x (i * 6 + j) t) (20 + j) i (Nat.max (fd x (20 + j) i) nm)) hn hj hi (it rfl).1 (fun c d hc hd => ?_) (by show (qu x 6).count i = 0; rw [hrow]; rfl) (fun c hc q => ?_) ?_
          · have := CK c d (by omega)
            rw [IT_none (it rfl) (by omega) c d hc hd] at this
            show ck (ls x (i * 6 + j) t) 2 c d = 0
            omega
          · have q : fd x 0 c = 2 := by rw [fd_fs, if_neg (by omega)] at q; exact q
            have := (it rfl).2.2.2 c hc q
            have ec : c = j := by omega
            rw [ec] at q; omega
          · rw [com_cons hl, if_neg (show ¬ (1 : Nat) = 0 from by decide), if_pos rfl, if_pos ek, if_pos e5] at ho1
            exact ho1
        · refine IT_c (x := x) (it rfl) rfl (fun a b ha hb => ?_) (by rw [fd_fs, if_neg (by omega)]; rfl) (fun c => by rw [fd_fs, if_neg (by omega)]; rfl)
          have := CK a b (by omega)
          rw [if_neg (by omega)] at this
          exact this.symm
      · rename_i ek
        have hk := st.2.2.2.1 (i * 6 + j) (kd, nm) (by rw [hl]; exact List.mem_cons_self)
        obtain rfl : kd = 2 := by have := hk.1; have := hk.2.2 (by decide); dsimp only at *; omega
        have d2 := CK i j hj6
        rw [if_pos ⟨rfl, rfl, rfl⟩] at d2
        obtain ⟨g1, g2, g3⟩ := (it rfl).2.1 i j hi hj (by omega)
        have F0 : ∀ c, fd (ent (fs (ls x (i * 6 + j) t) 5 6 j) j) 0 c = if c = j then 2 else fd x 0 c := fun c => by
          rw [fd_ent]
          by_cases ec : c = j
          · rw [if_pos ⟨rfl, ec⟩, if_pos ec]
          · rw [if_neg (fun q => ec q.2), if_neg ec, fd_fs, if_neg (by omega)]; rfl
        have F5 : fd (ent (fs (ls x (i * 6 + j) t) 5 6 j) j) 5 6 = j := by rw [fd_ent, if_neg (by omega), fd_fs, if_pos ⟨rfl, rfl⟩]
        refine ⟨(it rfl).1, fun a b ha hb hc => ?_, fun _ => ?_, fun c hc q => ?_⟩
        · have e1 := CK a b (by omega)
          have e2 := g3 a b ha hb
          have hc : 1 ≤ ck (ls x (i * 6 + j) t) 2 a b := hc
          rw [e2] at e1
          by_cases e : a = i ∧ b = j
          · rw [if_pos e, if_pos ⟨e.1, e.2, rfl⟩] at e1; omega
          · rw [if_neg e] at e1; omega
        · rw [F5, F0, if_pos rfl]
          exact ⟨g2, fun q => (q rfl).elim⟩
        · rw [F0] at q
          rw [F5]
          by_cases ec : c = j
          · exact ec.symm
          · rw [if_neg ec] at q
            have := (it rfl).2.2.2 c hc q
            omega
  · have e : com 2 x i j = if kd = 0 then rul (qs (ls x (i * 6 + j) t) j (qu x j ++ [i])) j else rul (fs (ls x (i * 6 + j) t) 5 j j) j := by rw [com_cons hl]; rfl
    rw [e] at ho ⊢
    obtain ⟨t1, t2, t3⟩ := ir rfl
    have CK := fun k a b (hb : b < 6) => ck_cons x hj6 hl k a hb
    by_cases ek : kd = 0
    · subst ek
      rw [if_pos rfl] at ho ⊢
      obtain ⟨c0, hlen⟩ := need_com hI hn hj6 hl
      refine INV_rul hj hn (by omega) (NB_qs nb0 _ _) (by show ev x + 1 ≤ B + 1; omega) (ST_qs st0 (fun q hq => ?_)) (ZR2_qs zr0 hj6) (fun _ => ⟨fun a ha b hb hab => ?_, fun b hb => t2 b hb, fun a ha => ?_⟩) ho
      · rcases List.mem_append.mp hq with hq | hq
        · exact st.2.2.1 j q hq
        · rw [List.mem_singleton.mp hq]; exact hi
      · have T := t1 a ha b hb hab
        rw [CK 0 b a (by omega), CK 2 a b (by omega), if_neg (show ¬ (a = i ∧ b = j ∧ 2 = 0) by omega)] at T
        show (qu (qs (ls x (i * 6 + j) t) j (qu x j ++ [i])) a).count b + ck (ls x (i * 6 + j) t) 0 b a + ck (ls x (i * 6 + j) t) 2 a b = if fd x 5 b = a ∧ fd x 6 b = 1 then 1 else 0
        rw [← T, qu_qs]
        by_cases ea : a = j
        · subst ea
          rw [if_pos rfl, List.count_append, List.count_singleton]
          by_cases eb : b = i
          · subst eb
            rw [if_pos (by simp), if_pos ⟨rfl, rfl, rfl⟩]; omega
          · rw [if_neg (by simp; omega), if_neg (fun q => eb q.1)]; omega
        · rw [if_neg ea, if_neg (fun q => ea q.2.1)]; rfl
      · have T := t3 a ha
        show (qu (qs (ls x (i * 6 + j) t) j (qu x j ++ [i])) a).count a = if fd x 0 a = 1 then 1 else 0
        rw [← T, qu_qs]
        by_cases ea : a = j
        · subst ea
          rw [if_pos rfl, List.count_append, List.count_singleton, if_neg (by simp; omega)]; rfl
        · rw [if_neg ea]; rfl
    · rw [if_neg ek] at ho ⊢
      have hk := st.2.2.2.1 (i * 6 + j) (kd, nm) (by rw [hl]; exact List.mem_cons_self)
      obtain rfl : kd = 2 := by have := hk.1; have := hk.2.2 (by decide); dsimp only at *; omega
      have T0 := t1 i hi j hj (Ne.symm hd)
      have d2 := CK 2 i j hj6
      rw [if_pos ⟨rfl, rfl, rfl⟩] at d2
      have hh : fd x 5 j = i ∧ fd x 6 j = 1 := by
        by_cases q : fd x 5 j = i ∧ fd x 6 j = 1
        · exact q
        · rw [if_neg q] at T0; omega
      refine INV_rul hj hn (by omega) (NB_fs nb0 (by omega)) (by show ev x + 1 ≤ B + 1; omega) (ST_fs st0 (fun _ => by rw [if_pos hj6]; exact hj) (fun q => by omega)) (ZR2_fs zr0 (Or.inr (Or.inr (Or.inr ⟨rfl, hj6⟩)))) (fun _ => ⟨fun a ha b hb hab => ?_, fun b hb => ?_, fun a ha => ?_⟩) ho
      · have T := t1 a ha b hb hab
        rw [CK 0 b a (by omega), CK 2 a b (by omega), if_neg (show ¬ (b = i ∧ a = j ∧ 0 = 2) by omega)] at T
        rw [show fd (fs (ls x (i * 6 + j) t) 5 j j) 5 b = if b = j then j else fd x 5 b from by
          rw [fd_fs, fd_ls]
          by_cases q : b = j
          · rw [if_pos ⟨rfl, q⟩, if_pos q]
          · rw [if_neg (fun z => q z.2), if_neg q], show fd (fs (ls x (i * 6 + j) t) 5 j j) 6 b = fd x 6 b from by rw [fd_fs, if_neg (by omega), fd_ls]]
        show (qu x a).count b + ck (ls x (i * 6 + j) t) 0 b a + ck (ls x (i * 6 + j) t) 2 a b = if (if b = j then j else fd x 5 b) = a ∧ fd x 6 b = 1 then 1 else 0
        by_cases eb : b = j
        · subst eb
          rw [if_pos (rfl : b = b), if_neg (by omega)]
          by_cases ea : a = i
          · subst ea
            rw [if_pos hh, if_pos ⟨rfl, rfl, rfl⟩] at T; omega
          · rw [if_neg (show ¬ (a = i ∧ b = b ∧ 2 = 2) from fun q => ea q.1), if_neg (show ¬ (fd x 5 b = a ∧ fd x 6 b = 1) by omega)] at T; omega
        · rw [if_neg eb]
          rw [if_neg (fun q => eb q.2.1)] at T
          exact T
      · rw [fd_fs, if_neg (by omega)]; exact t2 b hb
      · rw [show fd (fs (ls x (i * 6 + j) t) 5 j j) 0 a = fd x 0 a from by rw [fd_fs, if_neg (by omega), fd_ls]]; exact t3 a ha
