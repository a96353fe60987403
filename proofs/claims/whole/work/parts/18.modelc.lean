-- the reference's methods do the acts: rules, wants, leaves
section MU
variable {V u : Wo} {w n : Nat} {x : XS}
theorem M_sh54 (u : Wo) {i f : Nat} (hi : i < 6) (Q : Int32 → Wo → Prop) (k : ∀ v : Wo, (∀ c, c ≠ 2 → v c = u c) → (∀ q, v 2 q = if 21 * i + 8 ≤ q ∧ q < 21 * i + 13 then u 2 (q + 1) else u 2 q) → Gd (fX6_rules_92 (nI i) (nI (21 * i)) (nI f) v) Q) : Gd (fX6_rules_54 fX6_rules_92 FU (nI i) (nI (21 * i)) (nI f) (nI 0) u) Q := by
  refine lp_gd (σ := Int32 × Wo) (fun m s => fX6_rules_54 fX6_rules_92 m (nI i) (nI (21 * i)) (nI f) s.1 s.2) (fun d s => ∃ z, z + d = 5 ∧ s.1 = nI z ∧ (∀ c, c ≠ 2 → s.2 c = u c) ∧ ∀ q, s.2 2 q = if 21 * i + 8 ≤ q ∧ q < 21 * i + 8 + z then u 2 (q + 1) else u 2 q) _ ?_ ?_ (d := 5) (s := (nI 0, u)) (by have := FU_ge; omega) ⟨0, by omega, rfl, fun _ _ => rfl, fun q => by rw [if_neg (by omega)]⟩
  · rintro m ⟨s1, su⟩ ⟨z, hz, hs, hF, hq⟩
    dsimp only at hs hF hq ⊢
    obtain rfl : z = 5 := by omega
    rw [fX6_rules_54.eq_2, hs, if_pos (show (5 : Int32) ≤ nI 5 from by decide)]
    exact k su hF hq
  · rintro m d ⟨s1, su⟩ ⟨z, hz, hs, hF, hq⟩
    dsimp only at hs hF hq ⊢
    refine Or.inr ⟨(nI (z + 1), wr su 2 (21 * i + 8 + z) (su 2 (21 * i + 8 + z + 1))), ?_, z + 1, by omega, rfl, fun c hc => by dsimp only; rw [wr_ne _ _ _ hc]; exact hF c hc, fun q => ?_⟩
    · rw [fX6_rules_54.eq_2, hs, if_neg (show ¬ (5 : Int32) ≤ nI z from nI_ge (b := 5) (by omega) (by decide))]
      simp (disch := omega) only [n0, n1, n2, n3, n4, n5, n6, n7, n8, n9, n10, n11, n12, n13, n14, n18, n21, n23, n24, n25, n36, n59, n60, n126, n127, n133, n134, n139, n140, n190, n1023, n1024, n1040, n1230, n35670, nI_mul, nI_add, nI_sub, inb_nI, gi_t, nI_clamp, Nat.add_zero, Nat.zero_add]
      rfl
    · dsimp only
      rw [wr_same]
      by_cases eq : q = 21 * i + 8 + z
      · rw [eq, upd_same, hq, if_neg (by omega), if_pos (by omega)]
      · rw [upd_ne _ _ eq, hq]
        by_cases e1 : 21 * i + 8 ≤ q ∧ q < 21 * i + 8 + z
        · rw [if_pos e1, if_pos (by omega)]
        · rw [if_neg e1, if_neg (by omega)]
theorem M_92q (h : RM V 2 n x u) {i f : Nat} {t : List Nat} {v : Wo} (hi : i < 6) (hq : isL (u 2) (21 * i + 7) 6 (f :: t)) (hF : ∀ c, c ≠ 2 → v c = u c) (hv : ∀ q, v 2 q = if 21 * i + 8 ≤ q ∧ q < 21 * i + 13 then u 2 (q + 1) else u 2 q) : RM V 2 n (qs x i t) (wr (wr v 2 (21 * i + 13) (nI 0)) 2 (21 * i + 7) (nI t.length)) := by
  have hz := hq.2.1
  rw [List.length_cons] at hz
  refine RM_row h (fun c hc => by rw [wr_ne _ _ _ hc, wr_ne _ _ _ hc]; exact hF c hc) (MC_qu h.2.2.2.2.2.1 hi (fun k hk => ?_) ⟨?_, ?_, fun k hk => ?_⟩) rfl rfl
  · rw [wr_same, wr_same, upd_ne _ _ (by omega), upd_ne _ _ (by omega), hv, if_neg (by omega)]
  · rw [wr_same, upd_same]
  · omega
  · rw [wr_same, wr_same, upd_ne _ _ (by omega)]
    by_cases e : k = 5
    · subst e
      rw [show 21 * i + 7 + 1 + 5 = 21 * i + 13 from by omega, upd_same, gD_zero (by omega)]
    · rw [upd_ne _ _ (by omega), hv, if_pos (by omega), show 21 * i + 7 + 1 + k + 1 = 21 * i + 7 + 1 + (k + 1) from by omega, hq.2.2 (k + 1) (by omega)]
      rfl
theorem M_92 (h : RM V 2 n x u) {i f : Nat} {t : List Nat} {v : Wo} (hi : i < 6) (hf : f < 6) (hq : isL (u 2) (21 * i + 7) 6 (f :: t)) (hF : ∀ c, c ≠ 2 → v c = u c) (hv : ∀ q, v 2 q = if 21 * i + 8 ≤ q ∧ q < 21 * i + 13 then u 2 (q + 1) else u 2 q) (hV : V 0 6 = 0 ∨ V 0 6 = 1) : Gd (fX6_rules_92 (nI i) (nI (21 * i)) (nI f) v) (fun _ u1 => RM V 2 n (ru2 (if f = i then ent (fs (fs (qs x i t) 5 i f) 6 i 0) i else snd (fs (fs (qs x i t) 5 i f) 6 i 0) i f 2 0) i) u1) := by
  have R1 := M_92q h hi hq hF hv
  have e7 : (wr v 2 (21 * i + 13) (nI 0)) 2 (21 * i + 7) = nI (t.length + 1) := by
    rw [wr_same, upd_ne _ _ (by omega), hv, if_neg (by omega), hq.1]
    rfl
  unfold fX6_rules_92
  simp (disch := omega) only [n0, n1, n2, n3, n4, n5, n6, n7, n8, n9, n10, n11, n12, n13, n14, n18, n21, n23, n24, n25, n36, n59, n60, n126, n127, n133, n134, n139, n140, n190, n1023, n1024, n1040, n1230, n35670, nI_mul, nI_add, nI_sub, inb_nI, gi_t, nI_clamp, Nat.add_zero, Nat.zero_add]
  rw [show 21 * i + 8 + 5 = 21 * i + 13 from by omega]
  refine gd_bw (gd_bw ?_)
  rw [e7, nI_sub (by omega), Nat.add_sub_cancel]
  refine gd_bw (gd_bw ?_)
  have R2 := M_s6 (M_s5 R1 f hi) 0 hi
  generalize wr (wr (wr (wr v 2 (21 * i + 13) (nI 0)) 2 (21 * i + 7) (nI t.length)) 2 (21 * i + 5) (nI f)) 2 (21 * i + 6) (nI 0) = u4 at R2 ⊢
  by_cases ef : f = i
  · refine gd_ip (show nI f = nI i from by rw [ef]) ?_
    rw [if_pos ef]
    refine gd_bd (M_ent R2 hi hV) (fun r u5 R5 => ?_)
    refine M_157 R5 hi ?_ ?_ hV
    · rw [fd_ent, if_neg (fun q => by omega), fd_fs, if_neg (fun q => by omega), fd_fs, if_pos ⟨rfl, rfl⟩]; exact hf
    · rw [fd_ent, if_neg (fun q => by omega), fd_fs, if_pos ⟨rfl, rfl⟩]; decide
  · refine gd_in (nI_ne (by omega) (by omega) ef) ?_
    rw [if_neg ef]
    refine gd_bd (M_snd R2 (kd := 2) (nm := 0) hi hf (by decide) hV) (fun r u5 R5 => ?_)
    refine M_157 R5 hi ?_ ?_ hV
    · rw [fd_snd _ _ _ _ _ _ (by decide), fd_fs, if_neg (fun q => by omega), fd_fs, if_pos ⟨rfl, rfl⟩]; exact hf
    · rw [fd_snd _ _ _ _ _ _ (by decide), fd_fs, if_pos ⟨rfl, rfl⟩]; decide
theorem M_rul (h : RM V 2 n x u) (hw : WF x) {i : Nat} (hi : i < 6) (hV : V 0 6 = 0 ∨ V 0 6 = 1) : Gd (fX6_rules (nI i) u) (fun _ u1 => RM V 2 n (rul x i) u1) := by
  have hq := h.2.2.2.2.2.1.2.2.2.2.2.1 i hi
  have hz := hq.2.1
  have h5 := hw.2.1 i hi
  have h6 := hw.1 6 i
  have h0 := hw.1 0 i
  unfold fX6_rules rul
  simp (disch := omega) only [n0, n1, n2, n3, n4, n5, n6, n7, n8, n9, n10, n11, n12, n13, n14, n18, n21, n23, n24, n25, n36, n59, n60, n126, n127, n133, n134, n139, n140, n190, n1023, n1024, n1040, n1230, n35670, nI_mul, nI_add, nI_sub, inb_nI, gi_t, nI_clamp, Nat.add_zero, Nat.zero_add]
  rw [M_r5 h hi, M_r0 h hi, hq.1]
  by_cases e5 : fd x 5 i = i
  · refine gd_ip (show nI (fd x 5 i) = nI i from by rw [e5]) ?_
    by_cases e0 : fd x 0 i = 2
    · refine gd_ip (show nI (fd x 0 i) = nI 2 from by rw [e0]) ?_
      rw [ru1_no (fun q => q.2 e0)]
      exact M_157 h hi h5 h6 hV
    · refine gd_in (nI_ne (by omega) (by omega) e0) ?_
      cases hl : qu x i with
      | nil =>
        refine gd_ip (show nI ([] : List Nat).length ≤ nI 0 from by decide) ?_
        rw [ru1_nil hl]
        exact M_157 h hi h5 h6 hV
      | cons f t =>
        rw [hl] at hq hz
        have hf : f < 6 := hw.2.2.2.1 i f (by rw [hl]; exact List.mem_cons_self)
        refine gd_in (nI_ge (by simp) (by omega)) ?_
        refine gd_bn ?_
        have e8 : u 2 (21 * i + 8) = nI f := hq.2.2 0 (by decide)
        rw [e8, ru1_cons hl e5 e0]
        exact M_sh54 u hi _ (fun v hF hv => M_92 h hi hf hq hF hv hV)
  · refine gd_in (nI_ne (by omega) (by omega) e5) ?_
    rw [ru1_no (fun q => e5 q.1)]
    exact M_157 h hi h5 h6 hV
theorem M_pas (h : RM V w n x u) {i j : Nat} (hi : i < 6) (hj : j < 6) (hV : V 0 6 = 0 ∨ V 0 6 = 1) : Gd (fX6_passToken (nI i) (nI j) u) (fun _ u1 => RM V w n (pas x i j) u1) := by
  unfold fX6_passToken
  simp (disch := omega) only [n0, n1, n2, n3, n4, n5, n6, n7, n8, n9, n10, n11, n12, n13, n14, n18, n21, n23, n24, n25, n36, n59, n60, n126, n127, n133, n134, n139, n140, n190, n1023, n1024, n1040, n1230, n35670, nI_mul, nI_add, nI_sub, inb_nI, gi_t, nI_clamp, Nat.add_zero, Nat.zero_add]
  refine gd_bw ?_
  have R : RM V w n (fs x 5 6 6) (wr u 2 126 (-4)) := M_sp h 6
  exact gd_bd (M_snd R (kd := 2) (nm := 0) hi hj (by decide) hV) (fun r u1 R1 => gd_ret R1)
theorem M_where (h : RM V w n x u) {i : Nat} (hi : i < 6) : u 2 126 = nI i ↔ fd x 5 6 = i := by
  rw [h.2.2.2.2.2.1.2.2.2.1, plM]
  by_cases h6 : fd x 5 6 < 6
  · rw [if_pos h6]
    exact nI_eq (by omega) (by omega)
  · rw [if_neg h6]
    refine ⟨fun q => ?_, fun q => by omega⟩
    have := nI_pos (n := i) (by omega)
    rw [← q] at this
    exact (this (by decide)).elim
theorem M_rowed (h : RM V w n x u) (hw : ∀ q ∈ qu x 6, q < 6) {j : Nat} (hj : j < 6) : fX6_isRowed (nI j) u = some (if j ∈ qu x 6 then 1 else 0, u) := by
  have hr := h.2.2.2.2.2.1.2.2.2.2.1
  have hz := hr.2.1
  unfold fX6_isRowed
  refine lp_post (σ := Int32 × Nat) (fun q s => fX6_isRowed_4 fX6_isRowed_46 q (nI j) s.1 (nI s.2) u) (fun d s => s.2 + d = (qu x 6).length ∧ (s.1 = 1 ∧ j ∈ qu x 6 ∨ s.1 = 0 ∧ ∀ k, k < s.2 → (qu x 6).getD k 0 ≠ j)) (fun y => y = some (if j ∈ qu x 6 then 1 else 0, u)) ?_ ?_ (qu x 6).length FU (0, 0) (by have := FU_ge; omega) ⟨by simp, Or.inr ⟨rfl, fun k hk => by omega⟩⟩
  · rintro q ⟨s1, s⟩ ⟨hs, hk⟩
    dsimp only at hs hk ⊢
    obtain rfl : s = (qu x 6).length := by omega
    rw [fX6_isRowed_4.eq_2, gi_eq (by decide), show ((133 : Int32)).toNatClampNeg = 133 from rfl, hr.1, if_pos (nI_le (Nat.le_refl _) (by omega))]
    unfold fX6_isRowed_46
    rcases hk with ⟨rfl, hm⟩ | ⟨rfl, hk⟩
    · rw [if_pos hm]; rfl
    · rw [if_neg (fun hm => ?_)]
      · rfl
      · obtain ⟨k, hk1, hk2⟩ := List.mem_iff_getElem.mp hm
        exact hk k hk1 (by rw [List.getD_eq_getElem?_getD, List.getElem?_eq_getElem hk1]; exact hk2)
  · rintro q d ⟨s1, s⟩ ⟨hs, hk⟩
    dsimp only at hs hk ⊢
    right
    have hmem : (qu x 6).getD s 0 ∈ qu x 6 := by
      rw [List.getD_eq_getElem?_getD, List.getElem?_eq_getElem (show s < (qu x 6).length by omega)]
      exact List.getElem_mem _
    rw [fX6_isRowed_4.eq_2, gi_eq (by decide), show ((133 : Int32)).toNatClampNeg = 133 from rfl, hr.1, if_neg (nI_ge (by omega) (by omega))]
    rcases hk with ⟨rfl, hm⟩ | ⟨rfl, hk⟩
    · rw [if_neg (by decide)]
      refine ⟨(1, s + 1), ?_, by dsimp only; omega, Or.inl ⟨rfl, hm⟩⟩
      unfold fX6_isRowed_34 fX6_isRowed_39
      rw [n1, nI_add]
    · rw [if_pos rfl, n134, nI_add, gi_eq (inb_nI (by omega) (by decide)), nI_clamp (by omega), show 134 + s = 133 + 1 + s from rfl, hr.2.2 s (by omega)]
      by_cases e : (qu x 6).getD s 0 = j
      · rw [if_pos (by rw [e])]
        refine ⟨(1, s + 1), ?_, by dsimp only; omega, Or.inl ⟨rfl, e ▸ hmem⟩⟩
        unfold fX6_isRowed_34 fX6_isRowed_39
        rw [n1, nI_add]
      · rw [if_neg (nI_ne (by have := hw _ hmem; omega) (by omega) e)]
        refine ⟨(0, s + 1), ?_, by dsimp only; omega, Or.inr ⟨rfl, fun k hk2 => ?_⟩⟩
        · unfold fX6_isRowed_39
          rw [n1, nI_add]
        · dsimp only at hk2
          by_cases e2 : k = s
          · rw [e2]; exact e
          · exact hk k (by omega)
theorem RM_since (h : RM V w n x u) {k : Nat} (hk : k < 6) (hV : V 0 6 = 1) (ho : fd x 13 0 = 0) : RM V w n (bs x (1 + k) (nI (ev x))) (wr u 3 (1 + k) (u 3 0)) := by
  obtain ⟨h1, h2, h3, h4, h5, h6, h7, h8⟩ := h
  refine ⟨fun c c1 c2 c3 => by rw [wr_ne _ _ _ c3]; exact h1 c c1 c2 c3, fun k hk => by rw [wr_ne _ _ _ (by decide)]; exact h2 k hk, h3, h4, by rw [wr_ne _ _ _ (by decide)]; exact h5, by rw [wr_ne _ _ _ (by decide)]; exact h6, fun q1 q2 => ?_, fun q => (ne01 q hV).elim⟩
  obtain ⟨b1, b2, b3⟩ := h7 hV ho
  rw [wr_same]
  refine ⟨by rw [upd_ne _ _ (by omega)]; exact b1, fun j k1 k2 => ?_, fun j k1 k2 z hz => by rw [upd_ne _ _ (by omega)]; exact b3 j k1 k2 z hz⟩
  show upd (u 3) (1 + k) (u 3 0) j = upd (bb x) (1 + k) (nI (ev x)) j
  by_cases e : j = 1 + k
  · rw [e, upd_same, upd_same, b1]
  · rw [upd_ne _ _ e, upd_ne _ _ e]; exact b2 j k1 k2
theorem M_wan (h : RM V w n x u) (hw : WF x) (h3 : w < 3) (hn : n ≤ 6) (hn2 : 1 ≤ n) {i : Nat} (hi : i < 6) (hV : V 0 6 = 1) (ho : fd x 13 0 = 0) (hq : w = 2 → (qu x i).length < 6) : Gd (fX6_wants (nI i) u) (fun _ u1 => RM V w n (wan w n x i) u1) := by
  unfold fX6_wants
  simp (disch := omega) only [n0, n1, n2, n3, n4, n5, n6, n7, n8, n9, n10, n11, n12, n13, n14, n18, n21, n23, n24, n25, n36, n59, n60, n126, n127, n133, n134, n139, n140, n190, n1023, n1024, n1040, n1230, n35670, nI_mul, nI_add, nI_sub, inb_nI, gi_t, nI_clamp, Nat.add_zero, Nat.zero_add]
  refine gd_bw ?_
  have R1 := M_s0 h 1 hi
  generalize wr u 2 (21 * i) (nI 1) = u1 at R1 ⊢
  refine gd_bw ?_
  have R2 : RM V w n (bs (fs x 0 i 1) (1 + i) (nI (ev x))) (wr u1 3 (1 + i) (u1 3 0)) := RM_since R1 hi hV (by rw [fd_fs, if_neg (fun q => by omega)]; exact ho)
  have W2 : WF (bs (fs x 0 i 1) (1 + i) (nI (ev x))) := WF_bs (WF_fs hw (by decide) (fun q => by omega) (fun q => by omega)) _ _
  generalize wr u1 3 (1 + i) (u1 3 0) = u2 at R2 ⊢
  have hV' : V 0 6 = 0 ∨ V 0 6 = 1 := Or.inr hV
  have c1 : fd (bs (fs x 0 i 1) (1 + i) (nI (ev x))) 1 i = fd x 1 i := by rw [fd_bs, fd_fs, if_neg (fun q => by omega)]
  have ck : fd (bs (fs x 0 i 1) (1 + i) (nI (ev x))) (20 + i) i = fd x (20 + i) i := by rw [fd_bs, fd_fs, if_neg (fun q => by omega)]
  rw [M_way R2]
  unfold wan
  rcases (show w = 0 ∨ w = 1 ∨ w = 2 by omega) with rfl | rfl | rfl
  · refine gd_ip rfl ?_
    rw [if_pos rfl, M_r1 R2 hi, c1, nI_add]
    refine gd_bw ?_
    have R3 := M_s1 R2 (fd x 1 i + 1) hi
    generalize wr u2 2 (21 * i + 1) (nI (fd x 1 i + 1)) = u3 at R3 ⊢
    rw [M_r1 R3 hi, fd_fs, if_pos ⟨rfl, rfl⟩]
    refine gd_bw ?_
    have R4 := M_s2 R3 (fd x 1 i + 1) hi
    generalize wr u3 2 (21 * i + 2) (nI (fd x 1 i + 1)) = u4 at R4 ⊢
    rw [M_n R4, nI_sub hn2]
    refine gd_bw ?_
    have R5 := M_s3 R4 (n - 1) hi
    generalize wr u4 2 (21 * i + 3) (nI (n - 1)) = u5 at R5 ⊢
    rw [M_r2 R5 hi, fd_fs, if_neg (fun q => by omega), fd_fs, if_pos ⟨rfl, rfl⟩]
    exact gd_bd (M_sno (RM_free R5 (f := 7) (i := i) 0 rfl (by decide) (by decide)) hn hi hV') (fun r u6 R6 => gd_ret R6)
  · refine gd_in (show ¬ nI 1 = nI 0 from by decide) (gd_ip rfl ?_)
    rw [if_neg (show ¬ (1 : Nat) = 0 from by decide), if_pos rfl]
    by_cases e : fd x 5 6 = i
    · refine gd_ip ((M_where R2 hi).mpr (by rw [fd_bs, fd_fs, if_neg (fun q => by omega)]; exact e)) ?_
      rw [if_pos e]
      exact gd_bd (M_ent R2 hi hV') (fun r u3 R3 => gd_ret R3)
    · refine gd_in (fun q => e (by have := (M_where R2 hi).mp q; rw [fd_bs, fd_fs, if_neg (fun q => by omega)] at this; exact this)) ?_
      rw [if_neg e, M_rk R2 hi hi, ck, nI_add]
      refine gd_bw ?_
      have R3 := M_sk R2 (fd x (20 + i) i + 1) hi hi
      generalize wr u2 2 (21 * i + 14 + i) (nI (fd x (20 + i) i + 1)) = u3 at R3 ⊢
      rw [M_rk R3 hi hi, fd_fs, if_pos ⟨rfl, rfl⟩]
      exact gd_bd (M_sno R3 hn hi hV') (fun r u4 R4 => gd_ret R4)
  · refine gd_in (show ¬ nI 2 = nI 0 from by decide) (gd_in (show ¬ nI 2 = nI 1 from by decide) ?_)
    rw [if_neg (show ¬ (2 : Nat) = 0 from by decide), if_neg (show ¬ (2 : Nat) = 1 from by decide)]
    refine gd_bd (M_queue R2 hi (hq rfl)) (fun r u3 R3 => ?_)
    refine gd_bd (M_rul R3 (WF_qs W2 (fun q hq => ?_)) hi hV') (fun r u4 R4 => gd_ret R4)
    rcases List.mem_append.mp hq with hq | hq
    · exact W2.2.2.2.1 i q hq
    · rw [List.mem_singleton.mp hq]; exact hi
end MU
