-- what the acts leave true: all ways, all acts
theorem IA_com {n B : Nat} {x : XS} (h : INV 0 n B x) (hn : n ≤ 6) {i j kd nm : Nat} {t : List (Nat × Nat)} (hj6 : j < 6) (hl : lt x (i * 6 + j) = (kd, nm) :: t) (ho : fd (com 0 x i j) 13 0 = 0) : IA n (com 0 x i j) := by
  have hInv := h
  obtain ⟨nb, st, zr, ia, -⟩ := h
  obtain ⟨hi, hj, hd⟩ := ST_lt st hj6 hl
  have hi6 : i < 6 := by omega
  have hkd : kd ≤ 1 := (st.2.2.2.1 (i * 6 + j) (kd, nm) (by rw [hl]; exact List.mem_cons_self)).2.1 rfl
  have h4 := (st.2.1 j hj6).1
  have h7 := (st.2.1 j hj6).2
  have CK := fun k a b (hb : b < 6) => ck_cons x hj6 hl k a hb
  obtain ⟨a1, a2, a3, a4, a5⟩ := ia rfl
  rw [com_cons hl, if_pos rfl] at ho ⊢
  by_cases ek : kd = 0
  · subst ek
    rw [if_pos rfl] at ho ⊢
    unfold aba at ho ⊢
    have Aij := a1 i hi j hj hd
    have c1 := CK 0 i j hj6
    rw [if_pos ⟨rfl, rfl, rfl⟩] at c1
    have hb0 : fd x 4 j / 2 ^ i % 2 = 0 := by
      have := bt_lt (fd x 7 i) j
      split at Aij <;> omega
    by_cases hc : fd (ls x (i * 6 + j) t) 0 j = 2 ∨ fd (ls x (i * 6 + j) t) 0 j = 1 ∧ (fd (ls x (i * 6 + j) t) 2 j < nm ∨ fd (ls x (i * 6 + j) t) 2 j = nm ∧ j < i)
    · rw [if_pos hc]
      have F : ∀ g b, fd (fs (fs (ls x (i * 6 + j) t) 1 j (Nat.max (fd (ls x (i * 6 + j) t) 1 j) nm + 1)) 4 j (fd (ls x (i * 6 + j) t) 4 j ||| 2 ^ i)) g b = if g = 4 ∧ b = j then fd x 4 j ||| 2 ^ i else if g = 1 ∧ b = j then Nat.max (fd x 1 j) nm + 1 else fd x g b := fun g b => by rw [fd_fs, fd_fs]; rfl
      have FK : ∀ k a b, ck (fs (fs (ls x (i * 6 + j) t) 1 j (Nat.max (fd (ls x (i * 6 + j) t) 1 j) nm + 1)) 4 j (fd (ls x (i * 6 + j) t) 4 j ||| 2 ^ i)) k a b = ck (ls x (i * 6 + j) t) k a b := fun _ _ _ => rfl
      generalize fs (fs (ls x (i * 6 + j) t) 1 j (Nat.max (fd (ls x (i * 6 + j) t) 1 j) nm + 1)) 4 j (fd (ls x (i * 6 + j) t) 4 j ||| 2 ^ i) = y at F FK ⊢
      have F0 : ∀ b, fd y 0 b = fd x 0 b := fun b => by rw [F]; simp
      have F2 : ∀ b, fd y 2 b = fd x 2 b := fun b => by rw [F]; simp
      have F3 : ∀ b, fd y 3 b = fd x 3 b := fun b => by rw [F]; simp
      have F7 : ∀ b, fd y 7 b = fd x 7 b := fun b => by rw [F]; simp
      have F4 : ∀ b, fd y 4 b = if b = j then fd x 4 j ||| 2 ^ i else fd x 4 b := fun b => by rw [F]; simp
      refine ⟨fun a ha b hb hab => ?_, fun a ha => ?_, fun a ha b hb hc => ?_, fun a ha => ?_, fun a ha hc => ?_⟩
      · rw [FK, FK, F0, F7, F4, ← a1 a ha b hb hab, CK 0 a b (by omega), CK 1 b a (by omega), if_neg (show ¬ (b = i ∧ a = j ∧ 1 = 0) by omega)]
        by_cases eb : b = j
        · subst eb
          rw [if_pos rfl, bt_orN h4 hi6 (by omega)]
          by_cases ea : a = i
          · subst ea
            rw [if_pos rfl, if_pos ⟨rfl, rfl, rfl⟩]; omega
          · rw [if_neg ea, if_neg (fun q => ea q.1)]; omega
        · rw [if_neg eb, if_neg (fun q => eb q.2.1)]; omega
      · rw [F0, F3, F7, F2]; exact a2 a ha
      · rw [F7, F4]
        have := a3 a ha b hb hc
        by_cases e : a = j
        · subst e
          rw [if_pos rfl, bt_orN h4 hi6 hb, if_neg (by omega)]; exact this
        · rw [if_neg e]; exact this
      · rw [F0, F3, F7, F2]; exact a4 a ha
      · rw [F3, F7]; exact a5 a ha hc
    · rw [if_neg hc] at ho ⊢
      have F : ∀ g b, g ≠ 13 → fd (snd (fs (ls x (i * 6 + j) t) 1 j (Nat.max (fd (ls x (i * 6 + j) t) 1 j) nm + 1)) j i 1 0) g b = if g = 1 ∧ b = j then Nat.max (fd x 1 j) nm + 1 else fd x g b := fun g b hg => by rw [fd_snd _ _ _ _ _ _ hg, fd_fs]; rfl
      have FK : ∀ k a b, b < 6 → ck (snd (fs (ls x (i * 6 + j) t) 1 j (Nat.max (fd (ls x (i * 6 + j) t) 1 j) nm + 1)) j i 1 0) k a b = ck (ls x (i * 6 + j) t) k a b + if a = j ∧ b = i ∧ k = 1 then 1 else 0 := fun k a b hb => ck_snd ho hi6 k a hb
      generalize snd (fs (ls x (i * 6 + j) t) 1 j (Nat.max (fd (ls x (i * 6 + j) t) 1 j) nm + 1)) j i 1 0 = y at F FK ⊢
      have F0 : ∀ b, fd y 0 b = fd x 0 b := fun b => by rw [F _ _ (by decide)]; simp
      have F2 : ∀ b, fd y 2 b = fd x 2 b := fun b => by rw [F _ _ (by decide)]; simp
      have F3 : ∀ b, fd y 3 b = fd x 3 b := fun b => by rw [F _ _ (by decide)]; simp
      have F7 : ∀ b, fd y 7 b = fd x 7 b := fun b => by rw [F _ _ (by decide)]; simp
      have F4 : ∀ b, fd y 4 b = fd x 4 b := fun b => by rw [F _ _ (by decide)]; simp
      refine ⟨fun a ha b hb hab => ?_, fun a ha => ?_, fun a ha b hb hc => ?_, fun a ha => ?_, fun a ha hc => ?_⟩
      · rw [FK 0 a b (by omega), FK 1 b a (by omega), F0, F7, F4, ← a1 a ha b hb hab, CK 0 a b (by omega), CK 1 b a (by omega), if_neg (show ¬ (b = i ∧ a = j ∧ 1 = 0) by omega), if_neg (show ¬ (a = j ∧ b = i ∧ 0 = 1) by omega)]
        by_cases e : a = i ∧ b = j
        · rw [if_pos ⟨e.2, e.1, rfl⟩, if_pos ⟨e.1, e.2, rfl⟩]; omega
        · rw [if_neg (by omega), if_neg (by omega)]
      · rw [F0, F3, F7, F2]; exact a2 a ha
      · rw [F7, F4]; exact a3 a ha b hb hc
      · rw [F0, F3, F7, F2]; exact a4 a ha
      · rw [F3, F7]; exact a5 a ha hc
  · obtain rfl : kd = 1 := by omega
    obtain ⟨g1, g2, g3, g4⟩ := IA_need hInv hn hj6 hl
    rw [if_neg ek]
    have hlt := m_or_lt ⟨fd x 7 j, h7⟩ ⟨i, hi6⟩
    dsimp only at hlt
    have F : ∀ g b, fd (fs (fs (ls x (i * 6 + j) t) 7 j (fd x 7 j ||| 2 ^ i)) 3 j (fd x 3 j - 1)) g b = if g = 3 ∧ b = j then fd x 3 j - 1 else if g = 7 ∧ b = j then fd x 7 j ||| 2 ^ i else fd x g b := fun g b => by rw [fd_fs, fd_fs]; rfl
    have FK : ∀ k a b, ck (fs (fs (ls x (i * 6 + j) t) 7 j (fd x 7 j ||| 2 ^ i)) 3 j (fd x 3 j - 1)) k a b = ck (ls x (i * 6 + j) t) k a b := fun _ _ _ => rfl
    generalize fs (fs (ls x (i * 6 + j) t) 7 j (fd x 7 j ||| 2 ^ i)) 3 j (fd x 3 j - 1) = y at F FK ⊢
    have F0 : ∀ b, fd y 0 b = fd x 0 b := fun b => by rw [F]; simp
    have F2 : ∀ b, fd y 2 b = fd x 2 b := fun b => by rw [F]; simp
    have F3 : ∀ b, fd y 3 b = if b = j then fd x 3 j - 1 else fd x 3 b := fun b => by rw [F]; simp
    have F7 : ∀ b, fd y 7 b = if b = j then fd x 7 j ||| 2 ^ i else fd x 7 b := fun b => by rw [F]; simp
    have F4 : ∀ b, fd y 4 b = fd x 4 b := fun b => by rw [F]; simp
    have A2 := a2 j hj g1
    by_cases ez : fd x 3 j - 1 = 0
    · rw [if_pos ez]
      have efull : fd x 7 j ||| 2 ^ i = 2 ^ n - 1 - 2 ^ j := by
        refine pc_full ⟨n, by omega⟩ ⟨j, hj6⟩ ⟨_, hlt⟩ hj (fun b hb => ?_) (by dsimp only; omega)
        dsimp only at hb ⊢
        rw [bt_orN h7 hi6 b.2, if_neg (by omega)]
        exact (a3 j hj b.1 b.2 hb).1
      have hbits : ∀ b, b < n → b ≠ j → b ≠ i → fd x 7 j / 2 ^ b % 2 = 1 := fun b hb hbj hbi => by
        have e1 := bt_orN h7 hi6 (show b < 6 by omega)
        rw [if_neg hbi] at e1
        have e2 := bt_full ⟨n, by omega⟩ ⟨j, hj6⟩ ⟨b, by omega⟩ hj
        dsimp only at e2
        rw [← efull, if_pos ⟨hbj, hb⟩] at e2
        omega
      have G0 : ∀ b, fd (ent y j) 0 b = if b = j then 2 else fd x 0 b := fun b => by
        rw [fd_ent, F0]
        by_cases e : b = j
        · rw [if_pos ⟨rfl, e⟩, if_pos e]
        · rw [if_neg (fun q => e q.2), if_neg e]
      have G : ∀ g b, g ≠ 0 → fd (ent y j) g b = fd y g b := fun g b hg => by rw [fd_ent, if_neg (fun q => hg q.1)]
      refine ⟨fun a ha b hb hab => ?_, fun a ha => ?_, fun a ha b hb hc => ?_, fun a ha => ?_, fun a ha hc => ?_⟩
      · rw [ck_ent, ck_ent, FK, FK, G0, G 7 a (by decide), F7, G 4 b (by decide), F4]
        have A := a1 a ha b hb hab
        have d0 := CK 0 a b (by omega)
        have d1 := CK 1 b a (by omega)
        rw [if_neg (show ¬ (a = i ∧ b = j ∧ 0 = 1) by omega)] at d0
        by_cases ea : a = j
        · subst ea
          rw [if_pos rfl, if_neg (by decide)]
          rw [if_pos g1] at A
          by_cases eb : b = i
          · subst eb
            rw [if_pos ⟨rfl, rfl, rfl⟩] at d1
            omega
          · rw [hbits b hb (Ne.symm hab) eb] at A
            omega
        · rw [if_neg (fun q => ea q.2.1)] at d1
          rw [if_neg ea, if_neg ea]
          omega
      · rw [G0]
        by_cases ea : a = j
        · rw [if_pos ea]; intro q; omega
        · rw [if_neg ea, G 3 a (by decide), G 7 a (by decide), G 2 a (by decide), F3, F7, F2, if_neg ea, if_neg ea]
          exact a2 a ha
      · rw [G 7 a (by decide), G 4 a (by decide), F7, F4]
        have := a3 a ha b hb hc
        by_cases ea : a = j
        · subst ea
          rw [if_pos rfl, bt_orN h7 hi6 hb, if_neg (by omega)]; exact this
        · rw [if_neg ea]; exact this
      · rw [G0, G 3 a (by decide), G 7 a (by decide), G 2 a (by decide), F3, F7, F2]
        by_cases ea : a = j
        · subst ea
          rw [if_pos rfl, if_pos rfl, if_pos rfl, if_neg (show ¬ fd x 2 a = 0 by omega)]
          intro _
          exact ⟨ez, efull⟩
        · rw [if_neg ea, if_neg ea, if_neg ea]; exact a4 a ha
      · rw [G 3 a (by decide), G 7 a (by decide), F3, F7, if_neg (by omega), if_neg (by omega)]
        exact a5 a ha hc
    · rw [if_neg ez]
      refine ⟨fun a ha b hb hab => ?_, fun a ha => ?_, fun a ha b hb hc => ?_, fun a ha => ?_, fun a ha hc => ?_⟩
      · rw [FK, FK, F0, F7, F4]
        have A := a1 a ha b hb hab
        have d0 := CK 0 a b (by omega)
        have d1 := CK 1 b a (by omega)
        rw [if_neg (show ¬ (a = i ∧ b = j ∧ 0 = 1) by omega)] at d0
        by_cases ea : a = j
        · subst ea
          rw [if_pos rfl, if_pos g1, bt_orN h7 hi6 (by omega)]
          rw [if_pos g1] at A
          by_cases eb : b = i
          · subst eb
            rw [if_pos ⟨rfl, rfl, rfl⟩] at d1
            rw [if_pos rfl]
            omega
          · rw [if_neg (fun q => eb q.1)] at d1
            rw [if_neg eb]
            omega
        · rw [if_neg (fun q => ea q.2.1)] at d1
          rw [if_neg ea]
          omega
      · rw [F0, F3, F7, F2]
        by_cases ea : a = j
        · subst ea
          rw [if_pos rfl, if_pos rfl]
          intro _
          omega
        · rw [if_neg ea, if_neg ea]; exact a2 a ha
      · rw [F7, F4]
        have := a3 a ha b hb hc
        by_cases ea : a = j
        · subst ea
          rw [if_pos rfl, bt_orN h7 hi6 hb, if_neg (by omega)]; exact this
        · rw [if_neg ea]; exact this
      · rw [F0, F3, F7, F2]
        by_cases ea : a = j
        · subst ea; intro q; omega
        · rw [if_neg ea, if_neg ea]; exact a4 a ha
      · rw [F3, F7, if_neg (by omega), if_neg (by omega)]
        exact a5 a ha hc
/-- entries: none was written, or one was, and all letters found room -/
def LG (x y : XS) : Prop := (ev y = ev x ∧ lg y = lg x) ∨ (fd y 13 0 = 0 ∧ ev y = ev x + 1 ∧ ∀ m, m ≠ ev x → lg y m = lg x m)
theorem LG_ent {x y : XS} {i : Nat} (h : fd x 13 0 = 0) (e1 : ev x = ev y) (e2 : lg x = lg y) : LG y (ent x i) := by
  refine Or.inr ⟨by rw [fd_ent, if_neg (by omega)]; exact h, by rw [← e1]; rfl, fun m hm => ?_⟩
  funext w
  show (if m = ev x then _ else lg x m w) = _
  rw [if_neg (by omega), e2]
theorem LG_rul {x y : XS} {i : Nat} (hi : i ≠ 13) (ho : fd x 13 0 = 0) (e1 : ev x = ev y) (e2 : lg x = lg y) : LG y (rul x i) := by
  have h2 : ∀ z, ev (ru2 z i) = ev z ∧ lg (ru2 z i) = lg z := fun z => by
    unfold ru2
    split
    · exact bbv_snd z i (fd z 5 i) 0 0
    · exact ⟨rfl, rfl⟩
  unfold rul
  by_cases hc : fd x 5 i = i ∧ fd x 0 i ≠ 2
  · cases hl : qu x i with
    | nil =>
      rw [ru1_nil hl]
      exact Or.inl ⟨(h2 x).1.trans e1, (h2 x).2.trans e2⟩
    | cons f t =>
      rw [ru1_cons hl hc.1 hc.2]
      obtain ⟨z, hz⟩ : ∃ z, z = fs (fs (qs x i t) 5 i f) 6 i 0 := ⟨_, rfl⟩
      have z13 : fd z 13 0 = 0 := by rw [hz, fd_fs, if_neg (by omega), fd_fs, if_neg (by omega)]; exact ho
      have z5 : fd z 5 i = f := by rw [hz, fd_fs, if_neg (by omega), fd_fs, if_pos ⟨rfl, rfl⟩]
      have zv : ev z = ev x := by rw [hz]; rfl
      have zl : lg z = lg x := by rw [hz]; rfl
      rw [← hz]
      by_cases ef : f = i
      · rw [if_pos ef]
        have e5 : fd (ent z i) 5 i = i := by rw [fd_ent, if_neg (by omega), z5, ef]
        have : ru2 (ent z i) i = ent z i := by
          unfold ru2
          exact if_neg (fun q => q.1 e5)
        rw [this]
        exact LG_ent z13 (zv.trans e1) (zl.trans e2)
      · rw [if_neg ef]
        have := bbv_snd z i f 2 0
        exact Or.inl ⟨(h2 _).1.trans (this.1.trans (zv.trans e1)), (h2 _).2.trans (this.2.trans (zl.trans e2))⟩
  · rw [ru1_no hc]
    exact Or.inl ⟨(h2 x).1.trans e1, (h2 x).2.trans e2⟩
theorem LG_wan {w n : Nat} {x : XS} {i : Nat} (hi : i < 6) (ho : fd x 13 0 = 0) : LG x (wan w n x i) := by
  have hb : fd (bs (fs x 0 i 1) (1 + i) (nI (ev x))) 13 0 = 0 := by rw [fd_bs, fd_fs, if_neg (by omega)]; exact ho
  unfold wan
  split
  · exact Or.inl (ev_sno _ _ _ _ n)
  · split
    · split
      · exact LG_ent hb rfl rfl
      · exact Or.inl (ev_sno _ _ _ _ n)
    · exact LG_rul (by omega) hb rfl rfl
theorem LG_lef {w n : Nat} {x : XS} {i : Nat} (hi : i < 6) (ho : fd x 13 0 = 0) : LG x (lef w n x i) := by
  unfold lef
  split
  · exact Or.inl (ev_gvo _ _ _ n)
  · split
    · left
      have h2 := (lt_rwo (fs (fs x 0 i 0) 9 i (fd x (20 + i) i)) i n).2.1
      unfold pafi
      split
      · exact ⟨congrArg (fun z => z.2.1) h2, congrArg (fun z => z.2.2) h2⟩
      · rename_i f t _
        have := bbv_snd (fs (qs (rwo (fs (fs x 0 i 0) 9 i (fd x (20 + i) i)) i n) 6 t) 5 6 6) i f 2 0
        exact ⟨this.1.trans (congrArg (fun z => z.2.1) h2), this.2.trans (congrArg (fun z => z.2.2) h2)⟩
    · exact LG_rul (by omega) (by rw [fd_fs, if_neg (by omega)]; exact ho) rfl rfl
theorem LG_com {w : Nat} {x : XS} {i j kd nm : Nat} {t : List (Nat × Nat)} (hj : j < 6) (hl : lt x (i * 6 + j) = (kd, nm) :: t) (ho : fd x 13 0 = 0) : LG x (com w x i j) := by
  rw [com_cons hl]
  split
  · split
    · unfold aba
      split
      · exact Or.inl ⟨rfl, rfl⟩
      · exact Or.inl (bbv_snd _ _ _ _ _)
    · split
      · exact LG_ent (by rw [fd_fs, if_neg (by omega), fd_fs, if_neg (by omega)]; exact ho) rfl rfl
      · exact Or.inl ⟨rfl, rfl⟩
  · split
    · split
      · split
        · exact Or.inl (bbv_snd _ _ _ _ _)
        · exact Or.inl ⟨rfl, rfl⟩
      · exact LG_ent (by rw [fd_fs, if_neg (by omega)]; exact ho) rfl rfl
    · split
      · exact LG_rul (by omega) ho rfl rfl
      · exact LG_rul (by omega) (by rw [fd_fs, if_neg (by omega)]; exact ho) rfl rfl
