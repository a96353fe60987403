-- the class's methods do the acts: rules, wants, leaves, comings
def pc6 (m : Nat) : Nat := m % 2 + m / 2 % 2 + m / 4 % 2 + m / 8 % 2 + m / 16 % 2 + m / 32 % 2
theorem bc_all : ∀ m : Fin 64, (fun y1 : Int32 => (fun y2 : Int32 => (fun y3 : Int32 => (fun y4 : Int32 => (fun y5 : Int32 => y5 &&& (63 : Int32)) (y4 + ((y4).toUInt32 >>> (((16 : Int32)).toUInt32 &&& Int32.toUInt32 31)).toInt32)) (y3 + ((y3).toUInt32 >>> (((8 : Int32)).toUInt32 &&& Int32.toUInt32 31)).toInt32)) ((y2 + ((y2).toUInt32 >>> (((4 : Int32)).toUInt32 &&& Int32.toUInt32 31)).toInt32) &&& (252645135 : Int32))) ((y1 &&& (858993459 : Int32)) + (((y1).toUInt32 >>> (((2 : Int32)).toUInt32 &&& Int32.toUInt32 31)).toInt32 &&& (858993459 : Int32)))) ((nI m.1) - ((((nI m.1)).toUInt32 >>> (((1 : Int32)).toUInt32 &&& Int32.toUInt32 31)).toInt32 &&& (1431655765 : Int32))) = nI (pc6 m.1) := by decide +kernel
theorem C_bitCount (u : Wo) {m : Nat} (h : m < 64) : fJ6_bitCount_0f7a4 (nI m) u = some (nI (pc6 m), u) := by
  unfold fJ6_bitCount_0f7a4
  rw [bn_eq, bn_eq, bn_eq, bn_eq, bn_eq]
  exact congrArg (fun z => some (z, u)) (bc_all ⟨m, h⟩)
theorem ru1_nil {x : XS} {i : Nat} (h : qu x i = []) : ru1 x i = x := by
  unfold ru1
  rw [h]
theorem ru1_cons {x : XS} {i f : Nat} {t : List Nat} (h : qu x i = f :: t) (h5 : fd x 5 i = i) (h0 : fd x 0 i ≠ 2) : ru1 x i = if f = i then ent (fs (fs (qs x i t) 5 i f) 6 i 0) i else snd (fs (fs (qs x i t) 5 i f) 6 i 0) i f 2 0 := by
  unfold ru1
  rw [h]
  exact if_pos ⟨h5, h0⟩
theorem ru1_no {x : XS} {i : Nat} (h : ¬ (fd x 5 i = i ∧ fd x 0 i ≠ 2)) : ru1 x i = x := by
  unfold ru1
  cases qu x i with
  | nil => rfl
  | cons f t => exact if_neg h
theorem WF_fs {x : XS} (h : WF x) {f i v : Nat} (hv : v < 268435456) (h5 : f = 5 → i < 6 → v < 6) (h4 : f = 4 ∨ f = 7 → i < 6 → v < 64) : WF (fs x f i v) := by
  refine ⟨fun g j => ?_, fun j hj => ?_, fun j hj => ⟨?_, ?_⟩, h.2.2.2⟩
  · rw [fd_fs]
    by_cases e : g = f ∧ j = i
    · rw [if_pos e]; exact hv
    · rw [if_neg e]; exact h.1 g j
  · rw [fd_fs]
    by_cases e : 5 = f ∧ j = i
    · rw [if_pos e]; exact h5 e.1.symm (e.2 ▸ hj)
    · rw [if_neg e]; exact h.2.1 j hj
  · rw [fd_fs]
    by_cases e : 4 = f ∧ j = i
    · rw [if_pos e]; exact h4 (Or.inl e.1.symm) (e.2 ▸ hj)
    · rw [if_neg e]; exact (h.2.2.1 j hj).1
  · rw [fd_fs]
    by_cases e : 7 = f ∧ j = i
    · rw [if_pos e]; exact h4 (Or.inr e.1.symm) (e.2 ▸ hj)
    · rw [if_neg e]; exact (h.2.2.1 j hj).2
theorem WF_bs {x : XS} (h : WF x) (k : Nat) (v : Int32) : WF (bs x k v) := h
theorem WF_qs {x : XS} (h : WF x) {i : Nat} {l : List Nat} (hl : ∀ q ∈ l, q < 6) : WF (qs x i l) := by
  refine ⟨h.1, h.2.1, h.2.2.1, fun j q hq => ?_, h.2.2.2.2⟩
  rw [qu_qs] at hq
  by_cases e : j = i
  · rw [if_pos e] at hq; exact hl q hq
  · rw [if_neg e] at hq; exact h.2.2.2.1 j q hq
theorem WF_ls {x : XS} (h : WF x) {p : Nat} {l : List (Nat × Nat)} (hl : ∀ q ∈ l, q.1 < 3 ∧ q.2 < 268435456) : WF (ls x p l) := by
  refine ⟨h.1, h.2.1, h.2.2.1, h.2.2.2.1, fun j q hq => ?_, h.2.2.2.2.2⟩
  rw [lt_ls] at hq
  by_cases e : j = p
  · rw [if_pos e] at hq; exact hl q hq
  · rw [if_neg e] at hq; exact h.2.2.2.2.1 j q hq
section CU
variable {U u : Wo} {w n lo : Nat} {x : XS}
theorem C_108 (h : RC U 2 n lo x u) {i : Nat} (hi : i < 6) (h5 : fd x 5 i < 6) (h6 : fd x 6 i < 268435456) (hU : U 3 2 = 0 ∨ U 3 2 = 1) : Gd (fX4_followRules_108 (nI i) u) (fun _ u1 => RC U 2 n lo (ru2 x i) u1) := by
  have hq := h.2.2.2.2.1.2.2.2.1 i hi
  unfold fX4_followRules_108 ru2
  rw [bd_eq (C_r6 h hi)]
  by_cases e6 : fd x 6 i = 0
  · rw [e6, if_pos (show nI 0 = (0 : Int32) from rfl)]
    unfold fX4_followRules_126
    rw [bd_eq (C_tok2 h hi h5)]
    by_cases e5 : fd x 5 i = i
    · rw [if_pos e5, if_neg (by decide), if_neg (fun q => q.1 e5)]
      exact gd_ret h
    · rw [if_neg e5, if_pos rfl, bd_eq (C_queueOf u i), bd_eq (C_get u (by omega)), hq.1]
      cases hl : qu x i with
      | nil =>
        rw [if_pos (show nI ([] : List Nat).length ≤ (0 : Int32) from by decide), if_neg (fun q => q.2.1 rfl)]
        exact gd_ret h
      | cons f t =>
        have hz : (f :: t).length ≤ 6 := by rw [← hl]; exact hq.2.1
        rw [if_neg (nI_nle (by simp) (by omega)), if_pos rfl, bd_eq (C_r5 h hi), if_pos ⟨e5, by simp, rfl⟩]
        refine gd_bd (C_snd h (kd := 0) (nm := 0) hi h5 (by decide) hU) (fun r u1 R => ?_)
        refine gd_bd (C_st R (f := 6) 1 rfl hi) (fun r u2 R2 => ?_)
        exact gd_ret R2
  · rw [if_neg (nI_ne0 (by omega) (by omega)), if_neg (fun q => e6 q.2.2)]
    unfold fX4_followRules_126
    rw [bd_eq (C_tok2 h hi h5)]
    by_cases e5 : fd x 5 i = i
    · rw [if_pos e5, if_neg (by decide)]
      exact gd_ret h
    · rw [if_neg e5, if_pos rfl, bd_eq (C_queueOf u i), bd_eq (C_get u (by omega)), hq.1, if_neg (show ¬ (1 : Int32) = 0 from by decide)]
      exact gd_if (fun _ => gd_ret h) (fun _ => gd_ret h)
theorem C_rul (h : RC U 2 n lo x u) (hw : WF x) {i : Nat} (hi : i < 6) (hU : U 3 2 = 0 ∨ U 3 2 = 1) : Gd (fX4_followRules (nI i) u) (fun _ u1 => RC U 2 n lo (rul x i) u1) := by
  have hq := h.2.2.2.2.1.2.2.2.1 i hi
  have h5 := hw.2.1 i hi
  have h0 := hw.1 0 i
  unfold fX4_followRules rul
  rw [bd_eq (C_r0 h hi)]
  by_cases e0 : fd x 0 i = 2
  · rw [e0, if_pos (show nI 2 = (2 : Int32) from rfl)]
    unfold fX4_followRules_18
    rw [bd_eq (C_tok2 h hi h5), ru1_no (fun q => q.2 e0)]
    refine gd_if (fun _ => C_108 h hi h5 (hw.1 6 i) hU) (fun _ => ?_)
    rw [if_neg (by decide)]
    exact C_108 h hi h5 (hw.1 6 i) hU
  · rw [if_neg (show ¬ nI (fd x 0 i) = (2 : Int32) from fun q => e0 (nI_inj (by omega) (by omega) q))]
    unfold fX4_followRules_18
    rw [bd_eq (C_tok2 h hi h5)]
    by_cases e5 : fd x 5 i = i
    · rw [if_pos e5, if_neg (by decide), if_pos rfl, bd_eq (C_queueOf u i), bd_eq (C_get u (by omega)), hq.1]
      cases hl : qu x i with
      | nil =>
        rw [if_pos (show nI ([] : List Nat).length ≤ (0 : Int32) from by decide), ru1_nil hl]
        exact C_108 h hi h5 (hw.1 6 i) hU
      | cons f t =>
        rw [hl] at hq
        have hz := hq.2.1
        have hf : f < 6 := hw.2.2.2.1 i f (by rw [hl]; exact List.mem_cons_self)
        rw [if_neg (nI_nle (by simp) (by omega)), bd_eq (C_queueOf u i), ru1_cons hl e5 e0]
        refine gd_bd (C_takeFirst (m := 6) u (by omega) (by decide) hq) (fun r u1 ⟨hr, hF, hL⟩ => ?_)
        subst hr
        have R1 : RC U 2 n lo (qs x i t) u1 := RC_row h hF.1 (fun k hk => hF.2 k (by omega)) (CC_qu h.2.2.2.2.1 hi hF.2 hL) rfl rfl
        refine gd_bd (C_st R1 (f := 5) f rfl hi) (fun r u2 R2 => ?_)
        refine gd_bd (C_st R2 (f := 6) 0 rfl hi) (fun r u3 R3 => ?_)
        by_cases ef : f = i
        · rw [if_pos (show nI f = nI i from by rw [ef]), if_pos ef]
          refine gd_bd (C_ent R3 hi hw.2.2.2.2.2 hU) (fun r u4 R4 => ?_)
          refine C_108 R4 hi ?_ ?_ hU
          · rw [fd_ent, if_neg (fun q => by omega), fd_fs, if_neg (fun q => by omega), fd_fs, if_pos ⟨rfl, rfl⟩]; exact hf
          · rw [fd_ent, if_neg (fun q => by omega), fd_fs, if_pos ⟨rfl, rfl⟩]; decide
        · rw [if_neg (show ¬ nI f = nI i from fun q => ef (nI_inj (by omega) (by omega) q)), if_neg ef]
          refine gd_bd (C_snd R3 (kd := 2) (nm := 0) hi hf (by decide) hU) (fun r u4 R4 => ?_)
          refine C_108 R4 hi ?_ ?_ hU
          · rw [fd_snd _ _ _ _ _ _ (by decide), fd_fs, if_neg (fun q => by omega), fd_fs, if_pos ⟨rfl, rfl⟩]; exact hf
          · rw [fd_snd _ _ _ _ _ _ (by decide), fd_fs, if_pos ⟨rfl, rfl⟩]; decide
    · rw [if_neg e5, if_pos rfl, ru1_no (fun q => e5 q.1)]
      exact C_108 h hi h5 (hw.1 6 i) hU
theorem C_queue (h : RC U w n lo x u) {i j : Nat} (hi : i < 6) (hl : (qu x i).length < 6) : Gd (fX4_queue (nI i) (nI j) u) (fun _ u1 => RC U w n lo (qs x i (qu x i ++ [j])) u1) := by
  unfold fX4_queue
  rw [bd_eq (C_queueOf u i)]
  refine gd_bd (C_append_ok (m := 6) u j (by omega) (h.2.2.2.2.1.2.2.2.1 i hi) hl) (fun r u1 ⟨_, hF, hL⟩ => ?_)
  exact gd_ret (RC_row h hF.1 (fun k hk => hF.2 k (by omega)) (CC_qu h.2.2.2.2.1 hi hF.2 hL) rfl rfl)
theorem RC_free (h : RC U w n lo x u) {f i : Nat} (v : Nat) (hf : okC f = false) (h5 : f ≠ 5) (h13 : f ≠ 13) : RC U w n lo (fs x f i v) u :=
  RC_row h (fun _ _ => rfl) (fun _ _ => rfl) (CC_free h.2.2.2.2.1 hf h5) (by rw [fd_fs, if_neg (fun q => h13 q.1.symm)]) rfl
theorem RC_sinceE (h : RC U w n lo x u) {k : Nat} (hk : k < 6) (hU : U 3 2 = 0 ∨ U 3 2 = 1) : RC U w n lo (bs x (1 + k) (nI (ev x))) (wr u 6 (612 + k) (u 6 611)) := by
  have R := RC_since h (u 6 611) hk
  rcases hU with hU | hU
  · have R2 := RC_bsI R (1 + k) (nI (ev x)) hU
    exact ⟨R2.1, R2.2.1, R2.2.2.1, R2.2.2.2.1, R2.2.2.2.2.1, fun q => (ne01 hU q).elim, R2.2.2.2.2.2.2⟩
  · rw [(h.2.2.2.2.2.1 hU).2.1] at R ⊢
    exact R
theorem nI_ne {a b : Nat} (ha : a < 2 ^ 31) (hb : b < 2 ^ 31) (h : a ≠ b) : ¬ nI a = nI b := fun q => h (nI_inj ha hb q)
theorem nI_max {a b : Nat} (ha : a < 2 ^ 31) (hb : b < 2 ^ 31) : (if nI a < nI b then nI b else nI a) = nI (Nat.max a b) := by
  by_cases h : a < b
  · rw [if_pos (nI_lt h hb), show Nat.max a b = b from Nat.max_eq_right (by omega)]
  · rw [if_neg (nI_nlt (by omega) ha), show Nat.max a b = a from Nat.max_eq_left (by omega)]
theorem C_wan (h : RC U w n lo x u) (hw : WF x) (h3 : w < 3) (hn : n ≤ 6) {i : Nat} (hi : i < 6) (hU : U 3 2 = 0 ∨ U 3 2 = 1) (hq : w = 2 → (qu x i).length < 6) : Gd (fX4_wanted (nI i) u) (fun _ u1 => RC U w n lo (wan w n (fs x 13 0 0) i) u1) := by
  unfold fX4_wanted
  refine gd_bw ?_
  have R0 := RC_over h 0
  have W0 : WF (fs x 13 0 0) := WF_fs hw (by decide) (fun q => by omega) (fun q => by omega)
  have hq0 : w = 2 → (qu (fs x 13 0 0) i).length < 6 := hq
  rw [← n0] at R0
  generalize fs x 13 0 0 = y at R0 W0 hq0 ⊢
  refine gd_bd (C_st R0 (f := 0) 1 rfl hi) (fun r u1 R1 => ?_)
  rw [n611, n612, nI_add, bd_eq (C_get u1 (by omega)), bd_eq (C_put u1 _ (by omega))]
  have R2 : RC U w n lo (bs (fs y 0 i 1) (1 + i) (nI (ev y))) (wr u1 6 (612 + i) (u1 6 611)) := RC_sinceE R1 hi hU
  have W2 : WF (bs (fs y 0 i 1) (1 + i) (nI (ev y))) := WF_bs (WF_fs W0 (by decide) (fun q => by omega) (fun q => by omega)) _ _
  generalize wr u1 6 (612 + i) (u1 6 611) = u2 at R2 ⊢
  rw [R2.2.1]
  unfold wan
  rcases (show w = 0 ∨ w = 1 ∨ w = 2 by omega) with rfl | rfl | rfl
  · rw [if_pos (show nI 0 = (0 : Int32) from rfl), if_pos rfl]
    unfold fX4_wantedByAsking
    rw [bd_eq (C_r1 R2 hi), n1, nI_add]
    refine gd_bd ?_ (fun r v R => gd_ret R)
    refine gd_bd (C_st R2 (f := 1) _ rfl hi) (fun r u3 R3 => ?_)
    refine gd_bd (C_st R3 (f := 2) _ rfl hi) (fun r u4 R4 => ?_)
    refine gd_bd (C_st (RC_free R4 (f := 3) (i := i) (n - 1) rfl (by decide) (by decide)) (f := 7) 0 rfl hi) (fun r u5 R5 => ?_)
    refine gd_bd (C_sno R5 hn (kd := 0) hi (by decide) hU) (fun r u6 R6 => ?_)
    exact gd_ret R6
  · rw [if_neg (show ¬ nI 1 = (0 : Int32) from by decide), if_pos (show nI 1 = (1 : Int32) from rfl), if_neg (by decide), if_pos rfl]
    unfold fX4_wantedByToken
    rw [bd_eq (C_tok1 R2 hi)]
    refine gd_bd ?_ (fun r v R => gd_ret R)
    by_cases e : fd y 5 6 = i
    · rw [if_pos e, if_pos (show fd (bs (fs y 0 i 1) (1 + i) (nI (ev y))) 5 6 = i from by rw [fd_bs, fd_fs, if_neg (fun q => by omega)]; exact e), if_neg (by decide)]
      refine gd_bd (C_ent R2 hi W2.2.2.2.2.2 hU) (fun r u3 R3 => gd_ret R3)
    · rw [if_neg e, if_neg (show ¬ fd (bs (fs y 0 i 1) (1 + i) (nI (ev y))) 5 6 = i from by rw [fd_bs, fd_fs, if_neg (fun q => by omega)]; exact e), if_pos rfl, bd_eq (C_rdk R2 hi hi), n1, nI_add]
      refine gd_bd (C_stk R2 _ hi hi) (fun r u3 R3 => ?_)
      refine gd_bd (C_sno R3 hn (kd := 0) hi (by decide) hU) (fun r u4 R4 => ?_)
      have e1 : fd (bs (fs y 0 i 1) (1 + i) (nI (ev y))) (20 + i) i = fd y (20 + i) i := by rw [fd_bs, fd_fs, if_neg (fun q => by omega)]
      rw [e1] at R4
      exact gd_ret R4
  · rw [if_neg (show ¬ nI 2 = (0 : Int32) from by decide), if_neg (show ¬ nI 2 = (1 : Int32) from by decide), if_neg (by decide), if_neg (by decide)]
    refine gd_bd (C_queue R2 hi (hq0 rfl)) (fun r u3 R3 => ?_)
    refine gd_bd (C_rul R3 (WF_qs W2 (fun q hq => ?_)) hi hU) (fun r u4 R4 => gd_ret R4)
    rcases List.mem_append.mp hq with hq | hq
    · exact W2.2.2.2.1 i q hq
    · rw [List.mem_singleton.mp hq]; exact hi
theorem fs_comm (x : XS) {f g i j v z : Nat} (h : f ≠ g) : fs (fs x f i v) g j z = fs (fs x g j z) f i v := by
  have : (fun g' j' => if g' = g ∧ j' = j then z else fd (fs x f i v) g' j') = (fun g' j' => if g' = f ∧ j' = i then v else fd (fs x g j z) g' j') := by
    funext g' j'
    rw [fd_fs, fd_fs]
    by_cases h1 : g' = g ∧ j' = j
    · rw [if_pos h1, if_neg (fun q => h (q.1.symm.trans h1.1)), if_pos h1]
    · rw [if_neg h1, if_neg h1]
  show ((_, _), _) = ((_, _), _)
  rw [this]
  rfl
theorem snd_fs (x : XS) {f k v : Nat} (i j kd nm : Nat) (hf : f ≠ 13) : snd (fs x f k v) i j kd nm = fs (snd x i j kd nm) f k v := by
  unfold snd
  rw [lt_fs, bb_fs]
  by_cases h : (lt x (i * 6 + j)).length < 12
  · rw [if_pos h, if_pos h]; rfl
  · rw [if_neg h, if_neg h]
    exact fs_comm (bs x (7 + kd) (bb x (7 + kd) + 1)) hf
theorem gvo_fs (m : Nat) (x : XS) {f k v : Nat} (i : Nat) (hf : f ≠ 13) : ∀ j, gvo m (fs x f k v) i j = fs (gvo m x i j) f k v
  | 0 => rfl
  | j + 1 => by
    unfold gvo
    rw [gvo_fs m x i hf j]
    by_cases h : m / 2 ^ j % 2 = 1
    · rw [if_pos h, if_pos h]; exact snd_fs _ _ _ _ _ hf
    · rw [if_neg h, if_neg h]
theorem C_gvo (h : RC U 0 n lo x u) (hn : n ≤ 6) {i m : Nat} (hi : i < 6) (hm : m < 64) (hU : U 3 2 = 0 ∨ U 3 2 = 1) : Gd (fX4_leftByAsking_13 fX4_leftByAsking_49 FU (nI i) (nI m) (0 : Int32) u) (fun _ u1 => RC U 0 n lo (fs (gvo m x i n) 4 i 0) u1) := by
  refine lp_gd (σ := Int32 × Wo) (fun q s => fX4_leftByAsking_13 fX4_leftByAsking_49 q (nI i) (nI m) s.1 s.2) (fun d s => ∃ j, j + d = n ∧ s.1 = nI j ∧ RC U 0 n lo (gvo m x i j) s.2) _ ?_ ?_ (d := n) (s := (0, u)) (by have := FU_ge; omega) ⟨0, by omega, rfl, h⟩
  · rintro q ⟨sj, su⟩ ⟨j, hj, rfl, R⟩
    dsimp only at R ⊢
    obtain rfl : j = n := by omega
    rw [fX4_leftByAsking_13.eq_2, R.2.2.1, if_pos (nI_le (Nat.le_refl _) (by omega))]
    unfold fX4_leftByAsking_49
    refine gd_bd (C_st R (f := 4) 0 rfl hi) (fun r u1 R1 => gd_ret R1)
  · rintro q d ⟨sj, su⟩ ⟨j, hj, rfl, R⟩
    dsimp only at R ⊢
    refine Or.inr ?_
    have hb := m_bit ⟨m, hm⟩ ⟨j, by omega⟩
    dsimp only at hb
    rw [fX4_leftByAsking_13.eq_2, R.2.2.1, if_neg (nI_ge (by omega) (by omega)), hb]
    have h2 : m / 2 ^ j % 2 < 2 := Nat.mod_lt _ (by decide)
    by_cases e : m / 2 ^ j % 2 = 1
    · rw [e, if_neg (by decide)]
      obtain ⟨r, u1, e1, R1⟩ := C_snd R hi (show j < 6 by omega) (kd := 1) (by decide) hU (nm := 0)
      rw [bd_eq (show fX3_send (nI i) (nI j) (1 : Int32) (0 : Int32) su = some (r, u1) from e1)]
      exact ⟨(nI (j + 1), u1), by unfold fX4_leftByAsking_43; rw [n1, nI_add], j + 1, by omega, rfl, by show RC U 0 n lo (if _ then _ else _) u1; rw [if_pos e]; exact R1⟩
    · rw [show m / 2 ^ j % 2 = 0 from by omega, if_pos (show nI 0 = (0 : Int32) from rfl)]
      exact ⟨(nI (j + 1), su), by unfold fX4_leftByAsking_43; rw [n1, nI_add], j + 1, by omega, rfl, by show RC U 0 n lo (if _ then _ else _) su; rw [if_neg e]; exact R⟩
theorem C_rowHas (h : RC U w n lo x u) (hw : ∀ q ∈ qu x 6, q < 6) {j : Nat} (hj : j < 6) : fX3_rowHas (nI j) u = some (if j ∈ qu x 6 then 1 else 0, u) := by
  have hr := h.2.2.2.2.1.2.2.1
  unfold fX3_rowHas
  rw [bd_eq (show fX3_get (37 : Int32) u = some (u 6 37, u) from C_get (k := 37) u (by omega)), hr.1]
  refine lp_post (σ := Nat) (fun q s => fX3_rowHas_9 fX3_rowHas_40 q (nI j) (nI (qu x 6).length) (nI s) u) (fun d s => s + d = (qu x 6).length ∧ ∀ k, k < s → (qu x 6).getD k 0 ≠ j) (fun y => y = some (if j ∈ qu x 6 then 1 else 0, u)) ?_ ?_ (qu x 6).length FU 0 (by have := FU_ge; have := hr.2.1; omega) ⟨by omega, fun k hk => by omega⟩
  · rintro q s ⟨hs, hk⟩
    obtain rfl : s = (qu x 6).length := by omega
    rw [fX3_rowHas_9.eq_2, if_pos (nI_le (Nat.le_refl _) (by have := hr.2.1; omega)), if_neg (fun hm => ?_)]
    · rfl
    · obtain ⟨k, hk1, hk2⟩ := List.mem_iff_getElem.mp hm
      exact hk k hk1 (by rw [List.getD_eq_getElem?_getD, List.getElem?_eq_getElem hk1]; exact hk2)
  · rintro q d s ⟨hs, hk⟩
    have hz := hr.2.1
    have hmem : (qu x 6).getD s 0 ∈ qu x 6 := by
      rw [List.getD_eq_getElem?_getD, List.getElem?_eq_getElem (show s < (qu x 6).length by omega)]
      exact List.getElem_mem _
    rw [fX3_rowHas_9.eq_2, if_neg (nI_ge (by omega) (by omega)), if_neg (show ¬ (6 : Int32) ≤ nI s from nI_ge (b := 6) (by omega) (by decide)), n38, nI_add, bd_eq (C_get u (by omega)), show 38 + s = 37 + 1 + s from rfl, hr.2.2 s (by omega)]
    by_cases e : (qu x 6).getD s 0 = j
    · left
      rw [e, if_pos rfl, if_pos (e ▸ hmem)]
    · right
      rw [if_neg (nI_ne (by have := hw _ hmem; omega) (by omega) e), n1, nI_add]
      refine ⟨s + 1, rfl, by omega, fun k hk2 => ?_⟩
      by_cases e2 : k = s
      · subst e2; exact e
      · exact hk k (by omega)
theorem C_stand (h : RC U w n lo x u) {i : Nat} (v : Nat) (hi : i < 6) : Gd (fX3_put (nI (31 + i)) (nI v) u) (fun _ u1 => RC U w n lo (fs x 9 i v) u1) := by
  refine ⟨_, _, C_put u _ (by omega), RC_row h (fun c hc => wr_ne _ _ _ hc) (fun k hk => ?_) ?_ ?_ rfl⟩
  · rw [wr_same, upd_ne _ _ (by omega)]
  · rw [wr_same]; exact CC_field h.2.2.2.2.1 (f := 9) v rfl hi
  · rw [fd_fs, if_neg (fun q => by omega)]
theorem C_due (h : RC U w n lo x u) (hw : WF x) {i j : Nat} (hi : i < 6) (hj : j < 6) : fX4_isDue (nI i) (nI j) u = some (if fd x (20 + i) j = fd x 9 j + 1 then 1 else 0, u) := by
  have h1 := hw.1 (20 + i) j
  have h2 := hw.1 9 j
  have h3 : u 6 (31 + j) = nI (fd x 9 j) := h.2.2.2.2.1.1 9 j rfl hj
  unfold fX4_isDue
  rw [bd_eq (C_rdk h hi hj), n31, nI_add, bd_eq (C_get u (by omega)), h3, n1, nI_add]
  by_cases e : fd x (20 + i) j = fd x 9 j + 1
  · rw [e, if_pos rfl, if_pos rfl]; rfl
  · rw [if_neg (nI_ne (by omega) (by omega) e), if_neg e]; rfl
theorem C_pas (h : RC U w n lo x u) {i j : Nat} (hi : i < 6) (hj : j < 6) (hU : U 3 2 = 0 ∨ U 3 2 = 1) : Gd (fX4_passToken (nI i) (nI j) u) (fun _ u1 => RC U w n lo (pas x i j) u1) := by
  unfold fX4_passToken
  rw [bd_eq (show fX3_put (30 : Int32) (-1 : Int32) u = some (0, wr u 6 30 (-1)) from C_put (k := 30) u _ (by omega))]
  have R : RC U w n lo (fs x 5 6 6) (wr u 6 30 (-1)) := by
    refine RC_row h (fun c hc => wr_ne _ _ _ hc) (fun k hk => ?_) ?_ ?_ rfl
    · rw [wr_same, upd_ne _ _ (by omega)]
    · rw [wr_same]; exact CC_place h.2.2.2.2.1 6
    · rw [fd_fs, if_neg (fun q => by omega)]
  exact gd_bd (C_snd R (kd := 2) (nm := 0) hi hj (by decide) hU) (fun r u1 R1 => gd_ret R1)
end CU
