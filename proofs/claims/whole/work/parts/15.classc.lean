-- the class's methods do the acts: leaves and comings
section CV2
variable {U u : Wo} {w n lo : Nat} {x : XS}
theorem C_lbt (h : RC U 1 n lo x u) (hw : WF x) (hn : n ≤ 6) {i : Nat} (hi : i < 6) (hU : U 3 2 = 0 ∨ U 3 2 = 1) (hF : ∀ j, j < n → WF (rwo (fs x 9 i (fd x (20 + i) i)) i j)) (hW : WF (rwo (fs x 9 i (fd x (20 + i) i)) i n)) (hR : ∀ j, j < n → ¬ j ∈ qu (rwo (fs x 9 i (fd x (20 + i) i)) i j) 6 → (qu (rwo (fs x 9 i (fd x (20 + i) i)) i j) 6).length < 6) : Gd (fX4_leftByToken (nI i) u) (fun _ u1 => RC U 1 n lo (pafi (rwo (fs x 9 i (fd x (20 + i) i)) i n) i) u1) := by
  unfold fX4_leftByToken
  rw [bd_eq (C_rdk h hi hi), n31, nI_add]
  refine gd_bd (C_stand h _ hi) (fun r u1 R1 => ?_)
  generalize fs x 9 i (fd x (20 + i) i) = y at hF hW hR R1 ⊢
  refine lp_gd (σ := Int32 × Wo) (fun q s => fX4_leftByToken_22 fX4_leftByToken_72 q (nI i) s.1 s.2) (fun d s => ∃ j, j + d = n ∧ s.1 = nI j ∧ RC U 1 n lo (rwo y i j) s.2) _ ?_ ?_ (d := n) (s := (0, u1)) (by have := FU_ge; omega) ⟨0, by omega, rfl, R1⟩
  · rintro q ⟨sj, su⟩ ⟨j, hj, rfl, R⟩
    dsimp only at R ⊢
    obtain rfl : j = n := by omega
    have hr := R.2.2.2.2.1.2.2.1
    rw [fX4_leftByToken_22.eq_2, R.2.2.1, if_pos (nI_le (Nat.le_refl _) (by omega))]
    unfold fX4_leftByToken_72 pafi
    rw [bd_eq (show fX3_get (37 : Int32) su = some (su 6 37, su) from C_get (k := 37) su (by omega)), hr.1]
    cases hl : qu (rwo y i j) 6 with
    | nil =>
      rw [if_pos (show nI ([] : List Nat).length ≤ (0 : Int32) from by decide)]
      exact gd_ret R
    | cons f t =>
      rw [hl] at hr
      have hz := hr.2.1
      have hf : f < 6 := hW.2.2.2.1 6 f (by rw [hl]; exact List.mem_cons_self)
      rw [if_neg (nI_nle (by simp) (by omega))]
      refine gd_bd (C_takeFirst (b := 37) (m := 6) su (by omega) (by decide) hr) (fun r u2 ⟨hr2, hF2, hL⟩ => ?_)
      subst hr2
      have R2 : RC U 1 j lo (qs (rwo y i j) 6 t) u2 := RC_row R hF2.1 (fun k hk => hF2.2 k (by omega)) (CC_row R.2.2.2.2.1 (fun k hk => hF2.2 k (by omega)) hL) rfl rfl
      exact gd_bd (C_pas R2 hi hf hU) (fun r u3 R3 => gd_ret R3)
  · rintro q d ⟨sj, su⟩ ⟨j, hj, rfl, R⟩
    dsimp only at R ⊢
    have hjn : j < n := by omega
    refine Or.inr ?_
    rw [fX4_leftByToken_22.eq_2, R.2.2.1, if_neg (nI_ge (by omega) (by omega)), bd_eq (C_rowHas R ((hF j hjn).2.2.2.1 6) (by omega))]
    by_cases em : j ∈ qu (rwo y i j) 6
    · rw [if_pos em, if_neg (by decide)]
      exact ⟨(nI (j + 1), su), by unfold fX4_leftByToken_66; rw [n1, nI_add], j + 1, by omega, rfl, by show RC U 1 n lo (if _ then _ else _) su; rw [if_neg (fun q => q.1 em)]; exact R⟩
    · rw [if_neg em, if_pos rfl, bd_eq (C_due R (hF j hjn) hi (by omega))]
      by_cases ed : fd (rwo y i j) (20 + i) j = fd (rwo y i j) 9 j + 1
      · rw [if_pos ed, if_neg (by decide)]
        obtain ⟨r, u2, e2, hr2, hF2, hL⟩ := C_append_ok (b := 37) (m := 6) su j (by omega) R.2.2.2.2.1.2.2.1 (hR j hjn em)
        rw [bd_eq (show fX3_append (37 : Int32) (6 : Int32) (nI j) su = some (r, u2) from e2)]
        have R2 : RC U 1 n lo (qs (rwo y i j) 6 (qu (rwo y i j) 6 ++ [j])) u2 := RC_row R hF2.1 (fun k hk => hF2.2 k (by omega)) (CC_row R.2.2.2.2.1 (fun k hk => hF2.2 k (by omega)) hL) rfl rfl
        exact ⟨(nI (j + 1), u2), by unfold fX4_leftByToken_66; rw [n1, nI_add], j + 1, by omega, rfl, by show RC U 1 n lo (if _ then _ else _) u2; rw [if_pos ⟨em, ed⟩]; exact R2⟩
      · rw [if_neg ed, if_pos rfl]
        exact ⟨(nI (j + 1), su), by unfold fX4_leftByToken_66; rw [n1, nI_add], j + 1, by omega, rfl, by show RC U 1 n lo (if _ then _ else _) su; rw [if_neg (fun q => ed q.2)]; exact R⟩
theorem C_lef (h : RC U w n lo x u) (hw : WF x) (h3 : w < 3) (hn : n ≤ 6) {i : Nat} (hi : i < 6) (hU : U 3 2 = 0 ∨ U 3 2 = 1)
    (hT : w = 1 → ∀ y, y = rwo (fs (fs (fs x 13 0 0) 0 i 0) 9 i (fd x (20 + i) i)) i → WF (y n) ∧ ∀ j, j < n → WF (y j) ∧ (¬ j ∈ qu (y j) 6 → (qu (y j) 6).length < 6)) : Gd (fX4_left (nI i) u) (fun _ u1 => RC U w n lo (lef w n (fs x 13 0 0) i) u1) := by
  unfold fX4_left
  refine gd_bw ?_
  have R0 := RC_over h 0
  have W0 : WF (fs x 13 0 0) := WF_fs hw (by decide) (fun q => by omega) (fun q => by omega)
  have hk : fd x (20 + i) i = fd (fs x 13 0 0) (20 + i) i := by rw [fd_fs, if_neg (fun q => by omega)]
  rw [← n0] at R0
  rw [hk] at hT
  generalize fs x 13 0 0 = y at R0 W0 hT ⊢
  refine gd_bd (C_st R0 (f := 0) 0 rfl hi) (fun r u2 R2 => ?_)
  have W2 : WF (fs y 0 i 0) := WF_fs W0 (by decide) (fun q => by omega) (fun q => by omega)
  rw [R2.2.1]
  unfold lef
  rcases (show w = 0 ∨ w = 1 ∨ w = 2 by omega) with rfl | rfl | rfl
  · rw [if_pos (show nI 0 = (0 : Int32) from rfl), if_pos rfl]
    unfold fX4_leftByAsking
    rw [bd_eq (C_r4 R2 hi)]
    refine gd_bd ?_ (fun r v R => gd_ret R)
    have e4 : fd (fs y 0 i 0) 4 i = fd y 4 i := by rw [fd_fs, if_neg (fun q => by omega)]
    rw [e4, gvo_fs _ _ _ (by decide)]
    exact C_gvo R2 hn hi (W0.2.2.1 i hi).1 hU
  · rw [if_neg (show ¬ nI 1 = (0 : Int32) from by decide), if_pos (show nI 1 = (1 : Int32) from rfl), if_neg (by decide), if_pos rfl]
    refine gd_bd ?_ (fun r v R => gd_ret R)
    have ek : fd (fs y 0 i 0) (20 + i) i = fd y (20 + i) i := by rw [fd_fs, if_neg (fun q => by omega)]
    have H := hT rfl _ rfl
    rw [← ek] at H ⊢
    exact C_lbt R2 W2 hn hi hU (fun j hj => (H.2 j hj).1) H.1 (fun j hj => (H.2 j hj).2)
  · rw [if_neg (show ¬ nI 2 = (0 : Int32) from by decide), if_neg (show ¬ nI 2 = (1 : Int32) from by decide), if_neg (by decide), if_neg (by decide)]
    exact gd_bd (C_rul R2 W2 hi hU) (fun r u3 R3 => gd_ret R3)
/-- ASKED comes, by ASKING -/
def aba (y : XS) (i j nm : Nat) : XS := if fd y 0 j = 2 ∨ fd y 0 j = 1 ∧ (fd y 2 j < nm ∨ fd y 2 j = nm ∧ j < i) then fs (fs y 1 j (Nat.max (fd y 1 j) nm + 1)) 4 j (fd y 4 j ||| 2 ^ i) else snd (fs y 1 j (Nat.max (fd y 1 j) nm + 1)) j i 1 0
theorem C_gb (h : RC U w n lo x u) (hw : WF x) {i j nm : Nat} (hi : i < 6) (hj : j < 6) (hm : nm < 268435456) : fX4_goesBefore (nI j) (nI i) (nI nm) u = some (if fd x 0 j = 2 ∨ fd x 0 j = 1 ∧ (fd x 2 j < nm ∨ fd x 2 j = nm ∧ j < i) then 1 else 0, u) := by
  have h0 := hw.1 0 j
  have h2 := hw.1 2 j
  unfold fX4_goesBefore
  rw [bd_eq (C_r0 h hj), bd_eq (C_r2 h hj)]
  by_cases e2 : fd x 0 j = 2
  · rw [e2, if_pos (show nI 2 = (2 : Int32) from rfl), if_pos (Or.inl rfl)]; rfl
  · rw [if_neg (show ¬ nI (fd x 0 j) = (2 : Int32) from nI_ne (b := 2) (by omega) (by decide) e2)]
    by_cases e1 : fd x 0 j = 1
    · rw [e1, if_pos (show nI 1 = (1 : Int32) from rfl)]
      by_cases el : fd x 2 j < nm
      · rw [if_pos (nI_lt el (by omega)), if_pos (Or.inr ⟨rfl, Or.inl el⟩)]; rfl
      · rw [if_neg (nI_nlt (by omega) (by omega))]
        by_cases ee : fd x 2 j = nm
        · rw [ee, if_pos rfl]
          by_cases ej : j < i
          · rw [if_neg (nI_ge ej (by omega)), if_pos (Or.inr ⟨rfl, Or.inr ⟨rfl, ej⟩⟩)]; rfl
          · rw [if_pos (nI_le (by omega) (by omega)), if_neg (fun q => ?_)]
            · rfl
            · rcases q with q | ⟨-, q | ⟨-, q⟩⟩ <;> omega
        · rw [if_neg (nI_ne (by omega) (by omega) ee), if_neg (fun q => ?_)]
          · rfl
          · rcases q with q | ⟨-, q | ⟨q, -⟩⟩
            · omega
            · exact el q
            · exact ee q
    · rw [if_neg (show ¬ nI (fd x 0 j) = (1 : Int32) from nI_ne (b := 1) (by omega) (by decide) e1), if_neg (fun q => ?_)]
      · rfl
      · rcases q with q | ⟨q, -⟩
        · exact e2 q
        · exact e1 q
theorem C_aba (h : RC U w n lo x u) (hw : WF x) {i j nm : Nat} (hi : i < 6) (hj : j < 6) (hm : nm < 268435455) (hb : fd x 1 j < 268435455) (hU : U 3 2 = 0 ∨ U 3 2 = 1) : Gd (fX4_askedByAsking (nI j) (nI i) (nI nm) u) (fun _ u1 => RC U w n lo (aba x i j nm) u1) := by
  unfold fX4_askedByAsking
  have hmx : Nat.max (fd x 1 j) nm < 268435455 := Nat.max_lt.mpr ⟨hb, hm⟩
  rw [bd_eq (C_r1 h hj), nI_max (by omega) (by omega), n1, nI_add]
  refine gd_bd (C_st h (f := 1) _ rfl hj) (fun r u1 R1 => ?_)
  have W1 : WF (fs x 1 j (Nat.max (fd x 1 j) nm + 1)) := WF_fs hw (by omega) (fun q => by omega) (fun q => by omega)
  have c0 : fd (fs x 1 j (Nat.max (fd x 1 j) nm + 1)) 0 j = fd x 0 j := by rw [fd_fs, if_neg (fun q => by omega)]
  have c2 : fd (fs x 1 j (Nat.max (fd x 1 j) nm + 1)) 2 j = fd x 2 j := by rw [fd_fs, if_neg (fun q => by omega)]
  have c4 : fd (fs x 1 j (Nat.max (fd x 1 j) nm + 1)) 4 j = fd x 4 j := by rw [fd_fs, if_neg (fun q => by omega)]
  rw [bd_eq (C_gb R1 W1 hi hj (show nm < 268435456 by omega)), c0, c2]
  unfold aba
  by_cases hc : fd x 0 j = 2 ∨ fd x 0 j = 1 ∧ (fd x 2 j < nm ∨ fd x 2 j = nm ∧ j < i)
  · rw [if_pos hc, if_pos hc, if_neg (by decide), bd_eq (C_r4 R1 hj), c4, ← n1, m_or ⟨fd x 4 j, (hw.2.2.1 j hj).1⟩ ⟨i, hi⟩]
    exact gd_bd (C_st R1 (f := 4) _ rfl hj) (fun r u2 R2 => gd_ret R2)
  · rw [if_neg hc, if_neg hc, if_pos rfl]
    exact gd_bd (C_snd R1 (kd := 1) (nm := 0) hj hi (by decide) hU) (fun r u2 R2 => gd_ret R2)
theorem C_giv (h : RC U 0 n lo x u) (hw : WF x) (hn : n ≤ 6) {i j : Nat} (hi : i < 6) (hj : j < 6) (hU : U 3 2 = 0 ∨ U 3 2 = 1) (h0 : fd x 0 j = 1) (hp : pc6 (fd x 7 j ||| 2 ^ i) + fd x 3 j = n) (h3 : 1 ≤ fd x 3 j) : Gd (fX4_given (nI j) (nI i) u) (fun _ u1 => RC U 0 n lo (if fd x 3 j - 1 = 0 then ent (fs (fs x 7 j (fd x 7 j ||| 2 ^ i)) 3 j (fd x 3 j - 1)) j else fs (fs x 7 j (fd x 7 j ||| 2 ^ i)) 3 j (fd x 3 j - 1)) u1) := by
  have h7 := (hw.2.2.1 j hj).2
  have hl := m_or_lt ⟨fd x 7 j, h7⟩ ⟨i, hi⟩
  dsimp only at hl
  unfold fX4_given
  rw [bd_eq (C_r7 h hj), m_or ⟨fd x 7 j, h7⟩ ⟨i, hi⟩]
  refine gd_bd (C_st h (f := 7) _ rfl hj) (fun r u1 R1 => ?_)
  have R1 : RC U 0 n lo (fs x 7 j (fd x 7 j ||| 2 ^ i)) u1 := R1
  have e0 : fd (fs x 7 j (fd x 7 j ||| 2 ^ i)) 0 j = 1 := by rw [fd_fs, if_neg (fun q => by omega)]; exact h0
  have e7 : fd (fs x 7 j (fd x 7 j ||| 2 ^ i)) 7 j = fd x 7 j ||| 2 ^ i := by rw [fd_fs, if_pos ⟨rfl, rfl⟩]
  rw [bd_eq (C_r0 R1 hj), e0, if_pos (show nI 1 = (1 : Int32) from rfl)]
  have hs : fX4_stillToCome (nI j) u1 = some (nI (fd x 3 j - 1), u1) := by
    unfold fX4_stillToCome
    rw [bd_eq (C_r0 R1 hj), e0, if_pos (show nI 1 = (1 : Int32) from rfl)]
    unfold fX4_stillToCome_18
    rw [if_neg (by decide), bd_eq (C_r7 R1 hj), e7, bd_eq (C_bitCount u1 hl), R1.2.2.1, n1, nI_sub (by omega), nI_sub (by omega)]
    unfold fX4_stillToCome_50
    rw [show n - 1 - pc6 (fd x 7 j ||| 2 ^ i) = fd x 3 j - 1 from by omega]
  have R2 : RC U 0 n lo (fs (fs x 7 j (fd x 7 j ||| 2 ^ i)) 3 j (fd x 3 j - 1)) u1 := RC_free R1 (f := 3) (i := j) (fd x 3 j - 1) rfl (by decide) (by decide)
  rw [bd_eq hs]
  by_cases ez : fd x 3 j - 1 = 0
  · rw [ez, if_pos (show nI 0 = (0 : Int32) from rfl), if_pos rfl]
    rw [ez] at R2
    exact gd_bd (C_ent R2 hj hw.2.2.2.2.2 hU) (fun r u2 R3 => gd_ret R3)
  · rw [if_neg (nI_ne0 (by omega) (by have := hw.1 3 j; omega)), if_neg ez]
    exact gd_ret R2
theorem C_abt (h : RC U 1 n lo x u) (hw : WF x) {i j nm : Nat} (hi : i < 6) (hj : j < 6) (hm : nm < 268435456) (hU : U 3 2 = 0 ∨ U 3 2 = 1) : Gd (fX4_askedByToken (nI j) (nI i) (nI nm) u) (fun _ u1 => RC U 1 n lo (if fd x 5 6 = j ∧ fd x 0 j = 0 ∧ Nat.max (fd x (20 + j) i) nm = fd x 9 i + 1 then pas (fs x (20 + j) i (Nat.max (fd x (20 + j) i) nm)) j i else fs x (20 + j) i (Nat.max (fd x (20 + j) i) nm)) u1) := by
  have hb := hw.1 (20 + j) i
  have hmx : Nat.max (fd x (20 + j) i) nm < 268435456 := Nat.max_lt.mpr ⟨hb, hm⟩
  unfold fX4_askedByToken
  rw [bd_eq (C_rdk h hj hi), nI_max (by omega) (by omega)]
  refine gd_bd (C_stk h _ hj hi) (fun r u1 R1 => ?_)
  have R1 : RC U 1 n lo (fs x (20 + j) i (Nat.max (fd x (20 + j) i) nm)) u1 := R1
  have W1 : WF (fs x (20 + j) i (Nat.max (fd x (20 + j) i) nm)) := WF_fs hw hmx (fun q => by omega) (fun q => by omega)
  have c5 : fd (fs x (20 + j) i (Nat.max (fd x (20 + j) i) nm)) 5 6 = fd x 5 6 := by rw [fd_fs, if_neg (fun q => by omega)]
  have c0 : fd (fs x (20 + j) i (Nat.max (fd x (20 + j) i) nm)) 0 j = fd x 0 j := by rw [fd_fs, if_neg (fun q => by omega)]
  have c9 : fd (fs x (20 + j) i (Nat.max (fd x (20 + j) i) nm)) 9 i = fd x 9 i := by rw [fd_fs, if_neg (fun q => by omega)]
  have ck : fd (fs x (20 + j) i (Nat.max (fd x (20 + j) i) nm)) (20 + j) i = Nat.max (fd x (20 + j) i) nm := by rw [fd_fs, if_pos ⟨rfl, rfl⟩]
  rw [bd_eq (C_tok1 R1 hj), c5]
  by_cases e5 : fd x 5 6 = j
  · rw [if_pos e5, if_neg (by decide), bd_eq (C_r0 R1 hj), c0]
    by_cases e0 : fd x 0 j = 0
    · rw [e0, if_pos (show nI 0 = (0 : Int32) from rfl), bd_eq (C_due R1 W1 hj hi), ck, c9]
      by_cases ed : Nat.max (fd x (20 + j) i) nm = fd x 9 i + 1
      · rw [if_pos ed, if_neg (by decide), if_pos ⟨e5, rfl, ed⟩]
        exact gd_bd (C_pas R1 hj hi hU) (fun r u2 R2 => gd_ret R2)
      · rw [if_neg ed, if_pos rfl, if_neg (fun q => ed q.2.2)]
        exact gd_ret R1
    · rw [if_neg (nI_ne0 (by omega) (by have := hw.1 0 j; omega)), if_neg (fun q => e0 q.2.1)]
      exact gd_ret R1
  · rw [if_neg e5, if_pos rfl, if_neg (fun q => e5 q.1)]
    exact gd_ret R1
theorem com_cons {x : XS} {w i j kd nm : Nat} {t : List (Nat × Nat)} (h : lt x (i * 6 + j) = (kd, nm) :: t) : com w x i j =
    if w = 0 then (if kd = 0 then aba (ls x (i * 6 + j) t) i j nm else if fd x 3 j - 1 = 0 then ent (fs (fs (ls x (i * 6 + j) t) 7 j (fd x 7 j ||| 2 ^ i)) 3 j (fd x 3 j - 1)) j else fs (fs (ls x (i * 6 + j) t) 7 j (fd x 7 j ||| 2 ^ i)) 3 j (fd x 3 j - 1))
    else if w = 1 then (if kd = 0 then (if fd x 5 6 = j ∧ fd x 0 j = 0 ∧ Nat.max (fd x (20 + j) i) nm = fd x 9 i + 1 then pas (fs (ls x (i * 6 + j) t) (20 + j) i (Nat.max (fd x (20 + j) i) nm)) j i else fs (ls x (i * 6 + j) t) (20 + j) i (Nat.max (fd x (20 + j) i) nm)) else ent (fs (ls x (i * 6 + j) t) 5 6 j) j)
    else (if kd = 0 then rul (qs (ls x (i * 6 + j) t) j (qu x j ++ [i])) j else rul (fs (ls x (i * 6 + j) t) 5 j j) j) := by
  unfold com
  rw [h]
  rfl
theorem C_com (h : RC U w n lo x u) (hw : WF x) (h3 : w < 3) (hn : n ≤ 6) {i j : Nat} (hi : i < 6) (hj : j < 6) (hU : U 3 2 = 0 ∨ U 3 2 = 1) {kd nm : Nat} {t : List (Nat × Nat)} (hl : lt x (i * 6 + j) = (kd, nm) :: t) (hm : nm < 268435455) (hb : fd x 1 j < 268435455) (hg : w = 0 → kd ≠ 0 → fd x 0 j = 1 ∧ pc6 (fd x 7 j ||| 2 ^ i) + fd x 3 j = n ∧ 1 ≤ fd x 3 j) (hq : w = 2 → kd = 0 → (qu x j).length < 6) : Gd (fX4_coming (nI i) (nI j) u) (fun _ u1 => RC U w n lo (com w (fs x 13 0 0) i j) u1) := by
  have hk : kd < 3 := (hw.2.2.2.2.1 (i * 6 + j) (kd, nm) (by rw [hl]; exact List.mem_cons_self)).1
  have R0 := RC_over h 0
  have W0 : WF (fs x 13 0 0) := WF_fs hw (by decide) (fun q => by omega) (fun q => by omega)
  have hl0 : lt (fs x 13 0 0) (i * 6 + j) = (kd, nm) :: t := hl
  have hb0 : fd (fs x 13 0 0) 1 j < 268435455 := by rw [fd_fs, if_neg (fun q => by omega)]; exact hb
  have hg0 : w = 0 → kd ≠ 0 → fd (fs x 13 0 0) 0 j = 1 ∧ pc6 (fd (fs x 13 0 0) 7 j ||| 2 ^ i) + fd (fs x 13 0 0) 3 j = n ∧ 1 ≤ fd (fs x 13 0 0) 3 j := by
    intro q1 q2
    rw [fd_fs, if_neg (fun q => by omega), fd_fs, if_neg (fun q => by omega), fd_fs, if_neg (fun q => by omega)]
    exact hg q1 q2
  have hq0 : w = 2 → kd = 0 → (qu (fs x 13 0 0) j).length < 6 := hq
  rw [← n0] at R0
  unfold fX4_coming
  refine gd_bw ?_
  generalize wr u 1 3 0 = u1 at R0 ⊢
  generalize fs x 13 0 0 = y at R0 W0 hl0 hb0 hg0 hq0 ⊢
  rw [com_cons hl0]
  have hL := R0.2.2.2.2.1.2.2.2.2 (i * 6 + j) (by omega)
  rw [hl0, List.map_cons] at hL
  have ht : fX3_takeLetter (nI i) (nI j) u1 = bd (fX3_takeFirst (nI (140 + (i * 6 + j) * 13)) (nI 12) u1) (fun r u => some (r, u)) := by
    unfold fX3_takeLetter
    rw [bd_eq (C_lettersOf u1 i j)]
    rfl
  rw [ht]
  refine gd_bd (gd_bd (C_takeFirst (m := 12) u1 (by omega) (by decide) hL) (fun r v H => gd_ret H)) (fun r u2 ⟨hr, hF, hL2⟩ => ?_)
  subst hr
  have R2 : RC U w n lo (ls y (i * 6 + j) t) u2 := RC_row R0 hF.1 (fun k hk => hF.2 k (by omega)) (CC_let R0.2.2.2.2.1 (by omega) hF.2 hL2) rfl rfl
  have W2 : WF (ls y (i * 6 + j) t) := WF_ls W0 (fun q hq => W0.2.2.2.2.1 (i * 6 + j) q (by rw [hl0]; exact List.mem_cons_of_mem _ hq))
  rw [bd_eq (C_kindOf u2 hk)]
  have hnum : fX3_numberOf (nI (pk (kd, nm))) u2 = some (nI nm, u2) := C_numberOf u2 hk (by omega)
  by_cases ek : kd = 0
  · subst ek
    rw [if_pos (show nI 0 = (0 : Int32) from rfl)]
    unfold fX4_coming_30
    rw [R2.2.1]
    rcases (show w = 0 ∨ w = 1 ∨ w = 2 by omega) with rfl | rfl | rfl
    · rw [if_pos (show nI 0 = (0 : Int32) from rfl), if_neg (show ¬ (1 : Int32) = 0 from by decide), bd_eq hnum, if_pos rfl, if_pos rfl]
      exact gd_bd (C_aba R2 W2 hi hj hm hb0 hU) (fun r u3 R3 => gd_ret R3)
    · rw [if_neg (show ¬ nI 1 = (0 : Int32) from by decide), if_pos (show nI 1 = (1 : Int32) from rfl), if_neg (show ¬ (1 : Int32) = 0 from by decide), bd_eq hnum, if_neg (show ¬ (1 : Nat) = 0 from by decide), if_pos rfl, if_pos rfl]
      exact gd_bd (C_abt R2 W2 hi hj (by omega) hU) (fun r u3 R3 => gd_ret R3)
    · rw [if_neg (show ¬ nI 2 = (0 : Int32) from by decide), if_neg (show ¬ nI 2 = (1 : Int32) from by decide), if_neg (show ¬ (1 : Int32) = 0 from by decide), if_neg (show ¬ (2 : Nat) = 0 from by decide), if_neg (show ¬ (2 : Nat) = 1 from by decide), if_pos rfl]
      unfold fX4_coming_141
      refine gd_bd (C_queue R2 hj (hq0 rfl rfl)) (fun r u3 R3 => ?_)
      refine gd_bd (C_rul R3 (WF_qs W2 (fun q hq => ?_)) hj hU) (fun r u4 R4 => gd_ret R4)
      rcases List.mem_append.mp hq with hq | hq
      · exact W2.2.2.2.1 j q hq
      · rw [List.mem_singleton.mp hq]; exact hi
  · rw [if_neg (nI_ne0 (by omega) (by omega))]
    unfold fX4_coming_30
    rw [R2.2.1]
    rcases (show w = 0 ∨ w = 1 ∨ w = 2 by omega) with rfl | rfl | rfl
    · rw [if_pos (show nI 0 = (0 : Int32) from rfl), if_pos (show (0 : Int32) = 0 from rfl), if_pos rfl, if_neg ek]
      obtain ⟨g1, g2, g3⟩ := hg0 rfl ek
      exact gd_bd (C_giv R2 W2 hn hi hj hU g1 g2 g3) (fun r u3 R3 => gd_ret R3)
    · rw [if_neg (show ¬ nI 1 = (0 : Int32) from by decide), if_pos (show nI 1 = (1 : Int32) from rfl), if_pos (show (0 : Int32) = 0 from rfl), if_neg (show ¬ (1 : Nat) = 0 from by decide), if_pos rfl, if_neg ek, bd_eq (show fX3_put (30 : Int32) (nI j) u2 = some (0, wr u2 6 30 (nI j)) from C_put (k := 30) u2 _ (by omega))]
      have R3 : RC U 1 n lo (fs (ls y (i * 6 + j) t) 5 6 j) (wr u2 6 30 (nI j)) := by
        refine RC_row R2 (fun c hc => wr_ne _ _ _ hc) (fun k hk => ?_) ?_ ?_ rfl
        · rw [wr_same, upd_ne _ _ (by omega)]
        · rw [wr_same]
          have := CC_place R2.2.2.2.2.1 j
          rw [plC, if_pos hj] at this
          exact this
        · rw [fd_fs, if_neg (fun q => by omega)]
      exact gd_bd (C_ent R3 hj W2.2.2.2.2.2 hU) (fun r u4 R4 => gd_ret R4)
    · rw [if_neg (show ¬ nI 2 = (0 : Int32) from by decide), if_neg (show ¬ nI 2 = (1 : Int32) from by decide), if_pos (show (0 : Int32) = 0 from rfl), if_neg (show ¬ (2 : Nat) = 0 from by decide), if_neg (show ¬ (2 : Nat) = 1 from by decide), if_neg ek]
      unfold fX4_coming_141
      refine gd_bd (C_st R2 (f := 5) j rfl hj) (fun r u3 R3 => ?_)
      exact gd_bd (C_rul R3 (WF_fs W2 (by omega) (fun _ _ => hj) (fun q => by omega)) hj hU) (fun r u4 R4 => gd_ret R4)
end CV2
