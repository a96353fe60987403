-- the reference's methods do the acts: comings
section MX
variable {V u : Wo} {w n : Nat} {x : XS}
theorem M_116 (h : RM V 0 n x u) (hw : WF x) {i j : Nat} (hi : i < 6) (hj : j < 6) : Gd (fX6_askedComes_116 (nI i) (nI (21 * j)) u) (fun _ u1 => RM V 0 n (fs x 4 j (fd x 4 j ||| 2 ^ i)) u1) := by
  unfold fX6_askedComes_116
  have ho := m_or ⟨fd x 4 j, (hw.2.2.1 j hj).1⟩ ⟨i, hi⟩
  dsimp only at ho
  rw [n4, nI_add, gi_eq (inb_nI (by omega) (by decide)), gi_eq (inb_nI (by omega) (by decide)), nI_clamp (by omega), M_r4 h hj, ho]
  exact gd_bw (gd_ret (M_s4 h _ hj))
theorem M_58 (h : RM V 0 n x u) (hw : WF x) {i j nm m : Nat} (hi : i < 6) (hj : j < 6) (hm : nm < 268435456) (hm2 : m < 268435455) (hV : V 0 6 = 0 ∨ V 0 6 = 1) : Gd (fX6_askedComes_58 (nI j) (nI i) (nI nm) (nI (21 * j)) (nI (fd x 2 j)) (nI (21 * j + 1)) (nI m) u) (fun _ u1 => RM V 0 n (if fd x 0 j = 2 ∨ fd x 0 j = 1 ∧ (fd x 2 j < nm ∨ fd x 2 j = nm ∧ j < i) then fs (fs x 1 j (m + 1)) 4 j (fd x 4 j ||| 2 ^ i) else snd (fs x 1 j (m + 1)) j i 1 0) u1) := by
  have h0 := hw.1 0 j
  have h2 := hw.1 2 j
  unfold fX6_askedComes_58
  simp (disch := omega) only [n0, n1, n2, n3, n4, n5, n6, n7, n8, n9, n10, n11, n12, n13, n14, n18, n21, n23, n24, n25, n36, n59, n60, n126, n127, n133, n134, n139, n140, n190, n1023, n1024, n1040, n1230, n35670, nI_mul, nI_add, nI_sub, inb_nI, gi_t, nI_clamp, Nat.add_zero, Nat.zero_add]
  refine gd_bw ?_
  have R := M_s1 h (m + 1) hj
  generalize wr u 2 (21 * j + 1) (nI (m + 1)) = u1 at R ⊢
  have W1 : WF (fs x 1 j (m + 1)) := WF_fs hw (by omega) (fun q => by omega) (fun q => by omega)
  have c0 : fd (fs x 1 j (m + 1)) 0 j = fd x 0 j := by rw [fd_fs, if_neg (fun q => by omega)]
  have c4 : fd (fs x 1 j (m + 1)) 4 j = fd x 4 j := by rw [fd_fs, if_neg (fun q => by omega)]
  have r0 : u1 2 (21 * j) = nI (fd x 0 j) := by rw [M_r0 R hj, c0]
  have T : Gd (fX6_askedComes_116 (nI i) (nI (21 * j)) u1) (fun _ u1 => RM V 0 n (fs (fs x 1 j (m + 1)) 4 j (fd x 4 j ||| 2 ^ i)) u1) := by
    have := M_116 R W1 hi hj
    rw [c4] at this
    exact this
  have E : Gd (bd (fX6_send (nI j) (nI i) (1 : Int32) (0 : Int32) u1) (fun r39 u40 => fX6_askedComes_142 u40)) (fun _ u1 => RM V 0 n (snd (fs x 1 j (m + 1)) j i 1 0) u1) :=
    gd_bd (M_snd R (kd := 1) (nm := 0) hj hi (by decide) hV) (fun r u2 R2 => gd_ret R2)
  have A91 : (fd x 0 j = 2 ∨ fd x 0 j = 1) → Gd (fX6_askedComes_91 (nI j) (nI i) (nI (21 * j)) u1) (fun _ u1 => RM V 0 n (fs (fs x 1 j (m + 1)) 4 j (fd x 4 j ||| 2 ^ i)) u1) := fun hc => by
    unfold fX6_askedComes_91 fX6_askedComes_96
    rw [n0, nI_add, Nat.add_zero, gi_eq (inb_nI (by omega) (by decide)), nI_clamp (by omega), r0]
    refine gd_if (fun _ => T) (fun _ => ?_)
    exact gd_in (show ¬ (1 : Int32) = nI 0 from by decide) T
  have A95 : fd x 0 j ≠ 2 → Gd (fX6_askedComes_95 (nI j) (nI i) (nI (21 * j)) u1) (fun _ u1 => RM V 0 n (snd (fs x 1 j (m + 1)) j i 1 0) u1) := fun hc => by
    unfold fX6_askedComes_95 fX6_askedComes_96
    rw [show nI (21 * j) + (0 : Int32) = nI (21 * j) from by rw [n0, nI_add, Nat.add_zero], gi_eq (inb_nI (by omega) (by decide)), nI_clamp (by omega), r0]
    refine gd_in (nI_ne (b := 2) (by omega) (by decide) hc) ?_
    exact gd_ip rfl E
  have A95b : fd x 0 j = 2 → Gd (fX6_askedComes_95 (nI j) (nI i) (nI (21 * j)) u1) (fun _ u1 => RM V 0 n (fs (fs x 1 j (m + 1)) 4 j (fd x 4 j ||| 2 ^ i)) u1) := fun hc => by
    unfold fX6_askedComes_95 fX6_askedComes_96
    rw [show nI (21 * j) + (0 : Int32) = nI (21 * j) from by rw [n0, nI_add, Nat.add_zero], gi_eq (inb_nI (by omega) (by decide)), nI_clamp (by omega), r0, hc]
    exact gd_ip rfl T
  rw [r0]
  by_cases e1 : fd x 0 j = 1
  · refine gd_ip (show nI (fd x 0 j) = nI 1 from by rw [e1]) ?_
    by_cases el : fd x 2 j < nm
    · refine gd_ip (nI_lt el (by omega)) ?_
      rw [if_pos (Or.inr ⟨e1, Or.inl el⟩)]
      exact A91 (Or.inr e1)
    · refine gd_in (nI_nlt (by omega) (by omega)) ?_
      by_cases ee : fd x 2 j = nm
      · refine gd_ip (by rw [ee]) ?_
        by_cases ej : j < i
        · refine gd_in (nI_ge ej (by omega)) ?_
          rw [if_pos (Or.inr ⟨e1, Or.inr ⟨ee, ej⟩⟩)]
          exact A91 (Or.inr e1)
        · refine gd_ip (nI_le (by omega) (by omega)) ?_
          rw [if_neg (fun q => by rcases q with q | ⟨-, q | ⟨-, q⟩⟩ <;> omega)]
          exact A95 (by omega)
      · refine gd_in (nI_ne (by omega) (by omega) ee) ?_
        rw [if_neg (fun q => by rcases q with q | ⟨-, q | ⟨q, -⟩⟩ <;> omega)]
        exact A95 (by omega)
  · refine gd_in (nI_ne (b := 1) (by omega) (by decide) e1) ?_
    by_cases e2 : fd x 0 j = 2
    · rw [if_pos (Or.inl e2)]
      exact A95b e2
    · rw [if_neg (fun q => by rcases q with q | ⟨q, -⟩ <;> omega)]
      exact A95 e2
theorem M_aba (h : RM V 0 n x u) (hw : WF x) {i j nm : Nat} (hi : i < 6) (hj : j < 6) (hm : nm < 268435455) (hb : fd x 1 j < 268435455) (hV : V 0 6 = 0 ∨ V 0 6 = 1) : Gd (fX6_askedComes (nI j) (nI i) (nI nm) u) (fun _ u1 => RM V 0 n (aba x i j nm) u1) := by
  have hmx : Nat.max (fd x 1 j) nm < 268435455 := Nat.max_lt.mpr ⟨hb, hm⟩
  unfold fX6_askedComes aba
  rw [M_way h]
  refine gd_ip rfl ?_
  simp (disch := omega) only [n0, n1, n2, n3, n4, n5, n6, n7, n8, n9, n10, n11, n12, n13, n14, n18, n21, n23, n24, n25, n36, n59, n60, n126, n127, n133, n134, n139, n140, n190, n1023, n1024, n1040, n1230, n35670, nI_mul, nI_add, nI_sub, inb_nI, gi_t, nI_clamp, Nat.add_zero, Nat.zero_add]
  rw [M_r2 h hj, M_r1 h hj]
  refine gd_bn ?_
  by_cases e : fd x 1 j ≤ nm
  · refine gd_ip (nI_le e (by omega)) ?_
    rw [show Nat.max (fd x 1 j) nm = nm from Nat.max_eq_right e]
    exact M_58 h hw hi hj (by omega) hm hV
  · refine gd_in (fun q => e ((nI_leI (by omega) (by omega)).mp q)) ?_
    rw [show Nat.max (fd x 1 j) nm = fd x 1 j from Nat.max_eq_left (by omega)]
    exact M_58 h hw hi hj (by omega) hb hV
theorem M_190 (h : RM V 1 n x u) (hw : WF x) {i j m : Nat} (hi : i < 6) (hj : j < 6) (hm : m < 268435456) (hV : V 0 6 = 0 ∨ V 0 6 = 1) : Gd (fX6_askedComes_190 (nI j) (nI i) (nI (21 * j)) (nI (21 * j + 14 + i)) (nI (21 * j + 14 + i)) (nI m) u) (fun _ u1 => RM V 1 n (if fd x 5 6 = j ∧ fd x 0 j = 0 ∧ m = fd x 9 i + 1 then pas (fs x (20 + j) i m) j i else fs x (20 + j) i m) u1) := by
  have h0 := hw.1 0 j
  have h9 := hw.1 9 i
  unfold fX6_askedComes_190
  simp (disch := omega) only [n0, n1, n2, n3, n4, n5, n6, n7, n8, n9, n10, n11, n12, n13, n14, n18, n21, n23, n24, n25, n36, n59, n60, n126, n127, n133, n134, n139, n140, n190, n1023, n1024, n1040, n1230, n35670, nI_mul, nI_add, nI_sub, inb_nI, gi_t, nI_clamp, Nat.add_zero, Nat.zero_add]
  refine gd_bw ?_
  have R := M_sk h m hj hi
  generalize wr u 2 (21 * j + 14 + i) (nI m) = u1 at R ⊢
  have c0 : u1 2 (21 * j) = nI (fd x 0 j) := by rw [M_r0 R hj, fd_fs, if_neg (fun q => by omega)]
  have c9 : u1 2 (127 + i) = nI (fd x 9 i) := by rw [M_r9 R hi, fd_fs, if_neg (fun q => by omega)]
  have ck : u1 2 (21 * j + 14 + i) = nI m := by rw [M_rk R hj hi, fd_fs, if_pos ⟨rfl, rfl⟩]
  have c5 : u1 2 126 = nI j ↔ fd x 5 6 = j := by rw [M_where R hj, fd_fs, if_neg (fun q => by omega)]
  rw [c0, c9, ck, nI_add]
  by_cases e5 : fd x 5 6 = j
  · refine gd_ip (c5.mpr e5) ?_
    by_cases e0 : fd x 0 j = 0
    · refine gd_ip (by rw [e0]) ?_
      by_cases e9 : m = fd x 9 i + 1
      · refine gd_ip (by rw [e9]) ?_
        rw [if_pos ⟨e5, e0, e9⟩]
        exact gd_bd (M_pas R hj hi hV) (fun r u2 R2 => gd_ret R2)
      · refine gd_in (nI_ne (by omega) (by omega) e9) ?_
        rw [if_neg (fun q => e9 q.2.2)]
        exact gd_ret R
    · refine gd_in (nI_ne (by omega) (by omega) e0) ?_
      rw [if_neg (fun q => e0 q.2.1)]
      exact gd_ret R
  · refine gd_in (fun q => e5 (c5.mp q)) ?_
    rw [if_neg (fun q => e5 q.1)]
    exact gd_ret R
theorem M_abt (h : RM V 1 n x u) (hw : WF x) {i j nm : Nat} (hi : i < 6) (hj : j < 6) (hm : nm < 268435456) (hV : V 0 6 = 0 ∨ V 0 6 = 1) : Gd (fX6_askedComes (nI j) (nI i) (nI nm) u) (fun _ u1 => RM V 1 n (if fd x 5 6 = j ∧ fd x 0 j = 0 ∧ Nat.max (fd x (20 + j) i) nm = fd x 9 i + 1 then pas (fs x (20 + j) i (Nat.max (fd x (20 + j) i) nm)) j i else fs x (20 + j) i (Nat.max (fd x (20 + j) i) nm)) u1) := by
  have hb := hw.1 (20 + j) i
  unfold fX6_askedComes
  rw [M_way h]
  refine gd_in (show ¬ nI 1 = (0 : Int32) from by decide) (gd_ip rfl ?_)
  simp (disch := omega) only [n0, n1, n2, n3, n4, n5, n6, n7, n8, n9, n10, n11, n12, n13, n14, n18, n21, n23, n24, n25, n36, n59, n60, n126, n127, n133, n134, n139, n140, n190, n1023, n1024, n1040, n1230, n35670, nI_mul, nI_add, nI_sub, inb_nI, gi_t, nI_clamp, Nat.add_zero, Nat.zero_add]
  rw [M_rk h hj hi]
  by_cases e : fd x (20 + j) i ≤ nm
  · refine gd_ip (nI_le e (by omega)) ?_
    rw [show Nat.max (fd x (20 + j) i) nm = nm from Nat.max_eq_right e]
    exact M_190 h hw hi hj hm hV
  · refine gd_in (fun q => e ((nI_leI (by omega) (by omega)).mp q)) ?_
    rw [show Nat.max (fd x (20 + j) i) nm = fd x (20 + j) i from Nat.max_eq_left (by omega)]
    exact M_190 h hw hi hj hb hV
theorem M_com (h : RM V w n x u) (hw : WF x) (h3 : w < 3) {i j : Nat} (hi : i < 6) (hj : j < 6) (hV : V 0 6 = 0 ∨ V 0 6 = 1) {kd nm : Nat} {t : List (Nat × Nat)} (hl : lt x (i * 6 + j) = (kd, nm) :: t) (hm : nm < 268435455) (hb : fd x 1 j < 268435455) (hg : w = 0 → kd ≠ 0 → 1 ≤ fd x 3 j) (hq : w = 2 → kd = 0 → (qu x j).length < 6) (hk : if w = 0 then kd = 0 ∨ kd = 1 else kd = 0 ∨ kd = 2) : Gd (fX6_comes (nI i) (nI j) u) (fun r u1 => r = nI kd ∧ RM V w n (com w x i j) u1) := by
  have hL := h.2.2.2.2.2.1.2.2.2.2.2.2 (i * 6 + j) (by omega)
  have ek : u 2 (140 + 25 * (i * 6 + j) + 1) = nI kd := by have := (hL.2.2 0 (by decide)).1; rw [hl] at this; exact this
  have en : u 2 (140 + 25 * (i * 6 + j) + 2) = nI nm := by have := (hL.2.2 0 (by decide)).2; rw [hl] at this; exact this
  unfold fX6_comes
  rw [com_cons hl, bd_eq (M_pairAt u i j)]
  simp (disch := omega) only [n0, n1, n2, n3, n4, n5, n6, n7, n8, n9, n10, n11, n12, n13, n14, n18, n21, n23, n24, n25, n36, n59, n60, n126, n127, n133, n134, n139, n140, n190, n1023, n1024, n1040, n1230, n35670, nI_mul, nI_add, nI_sub, inb_nI, gi_t, nI_clamp, Nat.add_zero, Nat.zero_add]
  rw [ek, en]
  refine gd_bd (M_drop h (by omega) hl) (fun r u1 R1 => ?_)
  have W1 : WF (ls x (i * 6 + j) t) := WF_ls hw (fun q hq => hw.2.2.2.2.1 (i * 6 + j) q (by rw [hl]; exact List.mem_cons_of_mem _ hq))
  have hb1 : fd (ls x (i * 6 + j) t) 1 j < 268435455 := hb
  by_cases ek0 : kd = 0
  · subst ek0
    refine gd_ip rfl ?_
    rcases (show w = 0 ∨ w = 1 ∨ w = 2 by omega) with rfl | rfl | rfl
    · rw [if_pos rfl, if_pos rfl]
      exact gd_bd (M_aba R1 W1 hi hj hm hb1 hV) (fun r u2 R2 => gd_ret ⟨rfl, R2⟩)
    · rw [if_neg (show ¬ (1 : Nat) = 0 from by decide), if_pos rfl, if_pos rfl]
      exact gd_bd (M_abt R1 W1 hi hj (by omega) hV) (fun r u2 R2 => gd_ret ⟨rfl, R2⟩)
    · rw [if_neg (show ¬ (2 : Nat) = 0 from by decide), if_neg (show ¬ (2 : Nat) = 1 from by decide), if_pos rfl]
      refine gd_bd ?_ (fun r u2 R2 => gd_ret ⟨rfl, R2⟩)
      unfold fX6_askedComes
      rw [M_way R1]
      refine gd_in (show ¬ nI 2 = (0 : Int32) from by decide) (gd_in (show ¬ nI 2 = (1 : Int32) from by decide) ?_)
      refine gd_bd (M_queue R1 hj (hq rfl rfl)) (fun r u3 R3 => ?_)
      refine gd_bd (M_rul R3 (WF_qs W1 (fun q hq => ?_)) hj hV) (fun r u4 R4 => gd_ret R4)
      rcases List.mem_append.mp hq with hq | hq
      · exact W1.2.2.2.1 j q hq
      · rw [List.mem_singleton.mp hq]; exact hi
  · have hk3 : kd < 3 := by split at hk <;> omega
    refine gd_in (nI_ne (by omega) (by omega) ek0) ?_
    rw [M_way R1]
    rcases (show w = 0 ∨ w = 1 ∨ w = 2 by omega) with rfl | rfl | rfl
    · rw [if_pos rfl] at hk
      obtain rfl : kd = 1 := by omega
      have g3 := hg rfl ek0
      have b3 := hw.1 3 j
      refine gd_ip rfl ?_
      rw [if_pos rfl, if_neg ek0, M_r3 R1 hj, fd_ls, nI_sub g3]
      refine gd_bw ?_
      have R2 : RM V 0 n (fs (fs (ls x (i * 6 + j) t) 7 j (fd x 7 j ||| 2 ^ i)) 3 j (fd x 3 j - 1)) (wr u1 2 (21 * j + 3) (nI (fd x 3 j - 1))) := M_s3 (RM_free R1 (f := 7) (i := j) (fd x 7 j ||| 2 ^ i) rfl (by decide) (by decide)) (fd x 3 j - 1) hj
      generalize wr u1 2 (21 * j + 3) (nI (fd x 3 j - 1)) = u2 at R2 ⊢
      have e3 : u2 2 (21 * j + 3) = nI (fd x 3 j - 1) := by rw [M_r3 R2 hj, fd_fs, if_pos ⟨rfl, rfl⟩]
      rw [e3]
      by_cases ez : fd x 3 j - 1 = 0
      · refine gd_ip (show nI (fd x 3 j - 1) = nI 0 from by rw [ez]) ?_
        rw [if_pos ez]
        exact gd_bd (M_ent R2 hj hV) (fun r u3 R3 => gd_ret ⟨rfl, R3⟩)
      · refine gd_in (nI_ne (by omega) (by omega) ez) ?_
        rw [if_neg ez]
        exact gd_ret ⟨rfl, R2⟩
    · rw [if_neg (show ¬ (1 : Nat) = 0 from by decide)] at hk
      obtain rfl : kd = 2 := by omega
      refine gd_in (show ¬ nI 2 = nI 1 from by decide) (gd_ip rfl ?_)
      rw [if_neg (show ¬ (1 : Nat) = 0 from by decide), if_pos rfl, if_neg (show ¬ (2 : Nat) = 0 from by decide)]
      refine gd_bw ?_
      have R2 : RM V 1 n (fs (ls x (i * 6 + j) t) 5 6 j) (wr u1 2 126 (nI j)) := by
        have := M_sp R1 j
        rw [plM, if_pos hj] at this
        exact this
      exact gd_bd (M_ent R2 hj hV) (fun r u3 R3 => gd_ret ⟨rfl, R3⟩)
    · rw [if_neg (show ¬ (2 : Nat) = 0 from by decide)] at hk
      obtain rfl : kd = 2 := by omega
      refine gd_in (show ¬ nI 2 = nI 1 from by decide) (gd_in (show ¬ nI 2 = nI 1 from by decide) ?_)
      rw [if_neg (show ¬ (2 : Nat) = 0 from by decide), if_neg (show ¬ (2 : Nat) = 1 from by decide), if_neg (show ¬ (2 : Nat) = 0 from by decide)]
      refine gd_bw ?_
      exact gd_bd (M_rul (M_s5 R1 j hj) (WF_fs W1 (by omega) (fun _ _ => hj) (fun q => by omega)) hj hV) (fun r u3 R3 => gd_ret ⟨rfl, R3⟩)
end MX
