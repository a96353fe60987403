-- what the reference keeps
theorem cp_loop {F : Nat → Int32 → Wo → Re} {k : Wo → Re} {N cs os cd od : Nat} {u0 : Wo} (hN : N < 1000000) (hd : cs ≠ cd ∨ od ≤ os) (h0 : ∀ n u, (∀ c, c ≠ cd → u c = u0 c) → F (n + 1) (nI N) u = k u) (hs : ∀ n i u, i < N → (∀ c, c ≠ cd → u c = u0 c) → F (n + 1) (nI i) u = F n (nI (i + 1)) (wr u cd (od + i) (u cs (os + i)))) : ∃ u1, F FU (0 : Int32) u0 = k u1 ∧ (∀ c, c ≠ cd → u1 c = u0 c) ∧ ∀ q, u1 cd q = if od ≤ q ∧ q < od + N then u0 cs (os + (q - od)) else u0 cd q := by
  refine lp_post (σ := Int32 × Wo) (fun m s => F m s.1 s.2) (fun d s => ∃ i, i + d = N ∧ s.1 = nI i ∧ (∀ c, c ≠ cd → s.2 c = u0 c) ∧ ∀ q, s.2 cd q = if od ≤ q ∧ q < od + i then u0 cs (os + (q - od)) else u0 cd q) (fun x => ∃ u1, x = k u1 ∧ (∀ c, c ≠ cd → u1 c = u0 c) ∧ ∀ q, u1 cd q = if od ≤ q ∧ q < od + N then u0 cs (os + (q - od)) else u0 cd q) ?_ ?_ N FU (0, u0) (by have := FU_ge; omega) ⟨0, by omega, rfl, fun _ _ => rfl, fun q => by rw [if_neg (by omega)]⟩
  · rintro m ⟨s1, su⟩ ⟨i, hi, hs1, hF, hq⟩
    dsimp only at hs1 hF hq ⊢
    obtain rfl : i = N := by omega
    rw [hs1]
    exact ⟨su, h0 m su hF, hF, hq⟩
  · rintro m d ⟨s1, su⟩ ⟨i, hi, hs1, hF, hq⟩
    dsimp only at hs1 hF hq ⊢
    refine Or.inr ⟨(nI (i + 1), wr su cd (od + i) (su cs (os + i))), by rw [hs1]; exact hs m i su (by omega) hF, i + 1, by omega, rfl, fun c hc => by dsimp only; rw [wr_ne _ _ _ hc]; exact hF c hc, fun q => ?_⟩
    dsimp only
    rw [wr_same]
    by_cases e : q = od + i
    · rw [e, upd_same, if_pos (by omega), show os + (od + i - od) = os + i from by omega]
      by_cases ec : cs = cd
      · rw [ec, hq, if_neg (by omega)]
      · rw [hF cs ec]
    · rw [upd_ne _ _ e, hq]
      by_cases e1 : od ≤ q ∧ q < od + i
      · rw [if_pos e1, if_pos (by omega)]
      · rw [if_neg e1, if_neg (by omega)]
theorem MC_eq {w n : Nat} {x : XS} {r r1 : Nat → Int32} (h : MC w n x r) (e : ∀ k, k < 1040 → r1 k = r k) : MC w n x r1 := by
  obtain ⟨h1, h2, h3, h4, h5, h6, h7⟩ := h
  refine ⟨fun f i hf hi => ?_, fun hw i hi => ?_, fun i hi => ?_, ?_, isL_congr h5 (fun k _ _ => e k (by omega)), fun i hi => isL_congr (h6 i hi) (fun k _ _ => e k (by omega)), fun q hq => isM_congr (h7 q hq) (fun k _ _ => e k (by omega))⟩
  · rw [e _ (by have := (lM_low hf hi).1; omega)]; exact h1 f i hf hi
  · rw [e _ (by omega)]; exact h2 hw i hi
  · rw [e _ (by omega)]; exact h3 i hi
  · rw [e _ (by omega)]; exact h4
theorem MB_eq {x : XS} {r r1 : Nat → Int32} (h : MB x r) (e : ∀ k, k < 190 → r1 k = r k) : MB x r1 :=
  ⟨by rw [e 0 (by omega)]; exact h.1, fun k k1 k2 => by rw [e k (by omega)]; exact h.2.1 k k1 k2, fun k k1 k2 w hw => by rw [e _ (by omega)]; exact h.2.2 k k1 k2 w hw⟩
theorem M_store (u : Wo) : ∃ v, fX6_store u = some (0, v) ∧ (∀ c, c ≠ 0 → c ≠ 5 → v c = u c) ∧ (∀ k, k ≠ 5 → v 0 k = u 0 k) ∧ v 0 5 = 0 ∧ (∀ k, k < 1040 → v 5 k = u 2 k) ∧ ∀ k, k < 190 → v 5 (1040 + k) = u 3 k := by
  obtain ⟨u1, e1, f1, g1⟩ := cp_loop (F := fX6_store_2 fX6_store_27) (k := fX6_store_27) (N := 1040) (cs := 2) (os := 0) (cd := 5) (od := 0) (u0 := u) (by omega) (Or.inl (by decide)) (fun n u _ => by rw [fX6_store_2.eq_2, if_pos (show (1040 : Int32) ≤ nI 1040 from by decide)]) (fun n i u hi _ => by
    rw [fX6_store_2.eq_2, if_neg (show ¬ (1040 : Int32) ≤ nI i from nI_ge (b := 1040) hi (by decide))]
    simp (disch := omega) only [n0, n1, n2, n3, n4, n5, n6, n7, n8, n9, n10, n11, n12, n13, n14, n18, n21, n23, n24, n25, n36, n59, n60, n126, n127, n133, n134, n139, n140, n190, n1023, n1024, n1040, n1230, n35670, nI_mul, nI_add, nI_sub, inb_nI, gi_t, nI_clamp, Nat.add_zero, Nat.zero_add]
    rfl)
  obtain ⟨u2, e2, f2, g2⟩ := cp_loop (F := fX6_store_29 fX6_store_58) (k := fX6_store_58) (N := 190) (cs := 3) (os := 0) (cd := 5) (od := 1040) (u0 := u1) (by omega) (Or.inl (by decide)) (fun n u _ => by rw [fX6_store_29.eq_2, if_pos (show (190 : Int32) ≤ nI 190 from by decide)]) (fun n i u hi _ => by
    rw [fX6_store_29.eq_2, if_neg (show ¬ (190 : Int32) ≤ nI i from nI_ge (b := 190) hi (by decide))]
    simp (disch := omega) only [n0, n1, n2, n3, n4, n5, n6, n7, n8, n9, n10, n11, n12, n13, n14, n18, n21, n23, n24, n25, n36, n59, n60, n126, n127, n133, n134, n139, n140, n190, n1023, n1024, n1040, n1230, n35670, nI_mul, nI_add, nI_sub, inb_nI, gi_t, nI_clamp, Nat.add_zero, Nat.zero_add]
    rfl)
  have e : fX6_store u = some (0, wr u2 0 5 0) := by
    unfold fX6_store
    rw [e1]
    unfold fX6_store_27
    rw [e2]
    rfl
  refine ⟨_, e, fun c c0 c5 => by rw [wr_ne _ _ _ c0, f2 c c5, f1 c c5], fun k hk => by rw [wr_same, upd_ne _ _ hk, f2 0 (by decide), f1 0 (by decide)], by rw [wr_same, upd_same], fun k hk => ?_, fun k hk => ?_⟩
  · rw [wr_ne _ _ _ (by decide), g2, if_neg (by omega), g1, if_pos (by omega)]
    congr 1
    omega
  · rw [wr_ne _ _ _ (by decide), g2, if_pos (by omega), f1 3 (by decide), show 0 + (1040 + k - 1040) = k from by omega]
theorem M_116s (u : Wo) {kept : Nat} (hk : kept < 30) (h : u 0 10 = nI kept) : ∃ v, fX6_stands_116 u = some (1, v) ∧ (∀ c, c ≠ 0 → c ≠ 4 → v c = u c) ∧ (∀ k, k ≠ 7 → k ≠ 10 → v 0 k = u 0 k) ∧ v 0 7 = 1 ∧ v 0 10 = nI (kept + 1) ∧ ∀ q, v 4 q = if 1230 * kept ≤ q ∧ q < 1230 * kept + 1230 then u 5 (q - 1230 * kept) else u 4 q := by
  obtain ⟨u1, e1, f1, g1⟩ := cp_loop (F := fX6_stands_118 fX6_stands_152) (k := fX6_stands_152) (N := 1230) (cs := 5) (os := 0) (cd := 4) (od := 1230 * kept) (u0 := u) (by omega) (Or.inl (by decide)) (fun n u _ => by rw [fX6_stands_118.eq_2, if_pos (show (1230 : Int32) ≤ nI 1230 from by decide)]) (fun n i z hi hz => by
    rw [fX6_stands_118.eq_2, if_neg (show ¬ (1230 : Int32) ≤ nI i from nI_ge (b := 1230) hi (by decide)), hz 0 (by decide), h]
    simp (disch := omega) only [n0, n1, n2, n3, n4, n5, n6, n7, n8, n9, n10, n11, n12, n13, n14, n18, n21, n23, n24, n25, n36, n59, n60, n126, n127, n133, n134, n139, n140, n190, n1023, n1024, n1040, n1230, n35670, nI_mul, nI_add, nI_sub, inb_nI, gi_t, nI_clamp, Nat.add_zero, Nat.zero_add]
    rfl)
  have e : fX6_stands_116 u = some (1, wr (wr u1 0 10 (nI (kept + 1))) 0 7 1) := by
    unfold fX6_stands_116
    rw [e1]
    unfold fX6_stands_152
    rw [f1 0 (by decide), h, n1, nI_add]
    rfl
  refine ⟨_, e, fun c c0 c4 => by rw [wr_ne _ _ _ c0, wr_ne _ _ _ c0, f1 c c4], fun k k7 k10 => by rw [wr_same, upd_ne _ _ k7, wr_same, upd_ne _ _ k10, f1 0 (by decide)], by rw [wr_same, upd_same], by rw [wr_same, upd_ne _ _ (by decide), wr_same, upd_same], fun q => ?_⟩
  rw [wr_ne _ _ _ (by decide), wr_ne _ _ _ (by decide), g1]
  split
  · congr 1; omega
  · rfl
theorem M_standsY (u : Wo) {kept : Nat} (hk : kept ≤ 30) (h : u 0 10 = nI kept) (ho : u 0 5 = 0) : ∃ v, fX6_stands u = some (1, v) ∧ (∀ c, c ≠ 0 → c ≠ 4 → v c = u c) ∧ (∀ k, k ≠ 7 → k ≠ 10 → v 0 k = u 0 k) ∧ v 0 7 = 1 ∧ v 0 10 = nI (kup kept) ∧ ∀ t, t < kup kept → ∀ k, k < 1230 → v 4 (t * 1230 + k) = if sg kept t = kept then u 5 k else u 4 (sg kept t * 1230 + k) := by
  unfold fX6_stands
  rw [ho, if_pos rfl, h]
  by_cases hk2 : kept = 30
  · subst hk2
    rw [if_pos (show nI 30 = (30 : Int32) from rfl)]
    obtain ⟨u1, e1, f1, g1⟩ := cp_loop (F := fX6_stands_78 fX6_stands_106) (k := fX6_stands_106) (N := 35670) (cs := 4) (os := 1230) (cd := 4) (od := 0) (u0 := u) (by omega) (Or.inr (by omega)) (fun n u _ => by rw [fX6_stands_78.eq_2, if_pos (show (35670 : Int32) ≤ nI 35670 from by decide)]) (fun n i z hi hz => by
      rw [fX6_stands_78.eq_2, if_neg (show ¬ (35670 : Int32) ≤ nI i from nI_ge (b := 35670) hi (by decide))]
      simp (disch := omega) only [n0, n1, n2, n3, n4, n5, n6, n7, n8, n9, n10, n11, n12, n13, n14, n18, n21, n23, n24, n25, n36, n59, n60, n126, n127, n133, n134, n139, n140, n190, n1023, n1024, n1040, n1230, n35670, nI_mul, nI_add, nI_sub, inb_nI, gi_t, nI_clamp, Nat.add_zero, Nat.zero_add]
      rw [show i + 1230 = 1230 + i from by omega]
      rfl)
    rw [e1]
    unfold fX6_stands_106
    rw [f1 0 (by decide), h, n1, nI_sub (by omega), bw_eq]
    obtain ⟨v, e2, f2, f3, f4, f5, f6⟩ := M_116s (wr u1 0 10 (nI 29)) (kept := 29) (by omega) (by rw [wr_same, upd_same])
    refine ⟨v, e2, fun c c0 c4 => by rw [f2 c c0 c4, wr_ne _ _ _ c0, f1 c c4], fun k k7 k10 => by rw [f3 k k7 k10, wr_same, upd_ne _ _ k10, f1 0 (by decide)], f4, f5, fun t ht k hk => ?_⟩
    have ht : t < 30 := ht
    have hs : sg 30 t = t + 1 := rfl
    rw [f6, hs, wr_ne _ _ _ (by decide), wr_ne _ _ _ (by decide), f1 5 (by decide)]
    by_cases e : t + 1 = 30
    · rw [if_pos (by omega), if_pos e, show t * 1230 + k - 1230 * 29 = k from by omega]
    · rw [if_neg (by omega), if_neg e, g1, if_pos (by omega), show 1230 + (t * 1230 + k - 0) = (t + 1) * 1230 + k from by omega]
  · rw [if_neg (show ¬ nI kept = (30 : Int32) from nI_ne (b := 30) (by omega) (by decide) hk2)]
    obtain ⟨v, e2, f2, f3, f4, f5, f6⟩ := M_116s u (kept := kept) (by omega) h
    have hku : kup kept = kept + 1 := by unfold kup; rw [if_pos (by omega)]
    refine ⟨v, e2, f2, f3, f4, by rw [hku]; exact f5, fun t ht k hk => ?_⟩
    rw [hku] at ht
    have hs : sg kept t = t := by unfold sg; rw [if_pos (by omega)]
    rw [f6, hs]
    by_cases e : t = kept
    · rw [if_pos (by omega), if_pos e, show t * 1230 + k - 1230 * kept = k from by omega]
    · rw [if_neg (by omega), if_neg e]
theorem M_standsN (u : Wo) (ho : ¬ u 0 5 = 0) : ∃ v, fX6_stands u = some (0, v) ∧ (∀ c, c ≠ 2 → c ≠ 3 → v c = u c) ∧ (∀ k, k < 1040 → v 2 k = u 5 k) ∧ ∀ k, k < 190 → v 3 k = u 5 (1040 + k) := by
  obtain ⟨u1, e1, f1, g1⟩ := cp_loop (F := fX6_stands_9 fX6_stands_34) (k := fX6_stands_34) (N := 1040) (cs := 5) (os := 0) (cd := 2) (od := 0) (u0 := u) (by omega) (Or.inl (by decide)) (fun n u _ => by rw [fX6_stands_9.eq_2, if_pos (show (1040 : Int32) ≤ nI 1040 from by decide)]) (fun n i u hi _ => by
    rw [fX6_stands_9.eq_2, if_neg (show ¬ (1040 : Int32) ≤ nI i from nI_ge (b := 1040) hi (by decide))]
    simp (disch := omega) only [n0, n1, n2, n3, n4, n5, n6, n7, n8, n9, n10, n11, n12, n13, n14, n18, n21, n23, n24, n25, n36, n59, n60, n126, n127, n133, n134, n139, n140, n190, n1023, n1024, n1040, n1230, n35670, nI_mul, nI_add, nI_sub, inb_nI, gi_t, nI_clamp, Nat.add_zero, Nat.zero_add]
    rfl)
  obtain ⟨u2, e2, f2, g2⟩ := cp_loop (F := fX6_stands_36 fX6_stands_65) (k := fX6_stands_65) (N := 190) (cs := 5) (os := 1040) (cd := 3) (od := 0) (u0 := u1) (by omega) (Or.inl (by decide)) (fun n u _ => by rw [fX6_stands_36.eq_2, if_pos (show (190 : Int32) ≤ nI 190 from by decide)]) (fun n i u hi _ => by
    rw [fX6_stands_36.eq_2, if_neg (show ¬ (190 : Int32) ≤ nI i from nI_ge (b := 190) hi (by decide))]
    simp (disch := omega) only [n0, n1, n2, n3, n4, n5, n6, n7, n8, n9, n10, n11, n12, n13, n14, n18, n21, n23, n24, n25, n36, n59, n60, n126, n127, n133, n134, n139, n140, n190, n1023, n1024, n1040, n1230, n35670, nI_mul, nI_add, nI_sub, inb_nI, gi_t, nI_clamp, Nat.add_zero, Nat.zero_add]
    rfl)
  refine ⟨u2, ?_, fun c c2 c3 => by rw [f2 c c3, f1 c c2], fun k hk => ?_, fun k hk => ?_⟩
  · unfold fX6_stands
    rw [if_neg ho, e1]
    unfold fX6_stands_34
    rw [e2]
    rfl
  · rw [f2 2 (by decide), g1, if_pos (by omega), show 0 + (k - 0) = k from by omega]
  · rw [g2, if_pos (by omega), f1 5 (by decide), show 1040 + (k - 0) = 1040 + k from by omega]
theorem MG_act {w n B : Nat} {H : Nat → XS} {kept : Nat} {L : Nat → Nat → Int32} {ac : Int32} {v : Wo} (ha : AG w n B H kept L ac) (h : MG w n H kept ac v) (F : Wo → Re) (y : XS) (P : Int32 → Prop)
    (hF : ∀ v1 : Wo, v1 0 6 = 1 → RM v1 w n (H kept) v1 → Gd (F v1) (fun r v2 => P r ∧ RM v1 w n y v2)) (ho : fd y 13 0 ≤ 1) (h14 : ∀ i, i < 6 → fd y 14 i = fd (H kept) 14 i) :
    ∃ v1 r2 v2 v3, fX6_store v = some (0, v1) ∧ F v1 = some (r2, v2) ∧ P r2 ∧ v1 2 = v 2 ∧ v1 3 = v 3 ∧ RM v1 w n y v2 ∧ v1 0 6 = 1 ∧ fX6_stands v2 = some (if fd y 13 0 = 0 then 1 else 0, v3) ∧ (∀ c, c ≠ 0 → c ≠ 2 → c ≠ 3 → c ≠ 4 → c ≠ 5 → v3 c = v c) ∧ (∀ k, k ≠ 5 → k ≠ 7 → k ≠ 10 → v3 0 k = v 0 k) ∧
      (fd y 13 0 = 0 → MG w n (push H kept y) (kup kept) 1 v3 ∧ v3 2 = v2 2 ∧ v3 3 = v2 3) ∧ (fd y 13 0 = 1 → MG w n H kept ac v3) := by
  obtain ⟨h1, h2, h3, h4, h5, h6, h7, h8, h9, h10⟩ := h
  obtain ⟨g3, g2, g6, gB, hk, hI, hc, hL, hp14, hac, h0⟩ := ha
  obtain ⟨v1, e1, s1, s2, s3, s4, s5⟩ := M_store v
  have hov := (hI kept (Nat.le_refl _)).2.2.2.2.2.2
  have R1 : RM v1 w n (H kept) v1 := ⟨fun _ _ _ _ => rfl, fun _ _ => rfl, by rw [s2 0 (by decide)]; exact h1, by rw [s2 1 (by decide)]; exact h2, by rw [s3, hov]; rfl, by rw [s1 2 (by decide) (by decide)]; exact h4, fun _ _ => by rw [s1 3 (by decide) (by decide)]; exact h5, fun _ => rfl⟩
  have hV : v1 0 6 = 1 := by rw [s2 6 (by decide)]; exact h3
  obtain ⟨r2, v2, e2, hP, R2⟩ := hF v1 hV R1
  have R2' := R2
  obtain ⟨q1, q2, q3, q4, q5, q6, q7, q8⟩ := R2
  have fr : ∀ c, c ≠ 0 → c ≠ 2 → c ≠ 3 → c ≠ 5 → v2 c = v c := fun c c0 c2 c3 c5 => by rw [q1 c c0 c2 c3, s1 c c0 c5]
  have f0 : ∀ k, k ≠ 5 → v2 0 k = v 0 k := fun k hk => by rw [q2 k hk, s2 k hk]
  have b5 : v2 5 = v1 5 := q1 5 (by decide) (by decide) (by decide)
  rcases (show fd y 13 0 = 0 ∨ fd y 13 0 = 1 by omega) with ho0 | ho1
  · obtain ⟨v3, e3, t1, t2, t3, t4, t5⟩ := M_standsY v2 hk (by rw [f0 10 (by decide)]; exact h7) (by rw [q5, ho0]; rfl)
    refine ⟨v1, r2, v2, v3, e1, e2, hP, s1 2 (by decide) (by decide), s1 3 (by decide) (by decide), R2', hV, by rw [ho0, if_pos rfl]; exact e3, fun c c0 c2 c3 c4 c5 => by rw [t1 c c0 c4, fr c c0 c2 c3 c5], fun k k5 k7 k10 => by rw [t2 k k7 k10, f0 k k5], fun _ => ⟨⟨?_, ?_, ?_, ?_, ?_, t3, t4, fun t ht => ?_, ?_, fun hw i i0 i1 => ?_⟩, t1 2 (by decide) (by decide), t1 3 (by decide) (by decide)⟩, fun q => by omega⟩
    · rw [t2 0 (by decide) (by decide), f0 0 (by decide)]; exact h1
    · rw [t2 1 (by decide) (by decide), f0 1 (by decide)]; exact h2
    · rw [t2 6 (by decide) (by decide), f0 6 (by decide)]; exact h3
    · rw [push_top, t1 2 (by decide) (by decide)]; exact q6
    · rw [push_top, t1 3 (by decide) (by decide)]; exact q7 hV ho0
    · rw [push_low H y ht]
      have hs := sg_le hk ht
      by_cases es : sg kept t = kept
      · rw [es]
        refine ⟨MC_eq h4 (fun k hk2 => ?_), MB_eq h5 (fun k hk2 => ?_)⟩
        · rw [t5 t ht k (by omega), if_pos es, b5, s4 k hk2]
        · rw [show t * 1230 + 1040 + k = t * 1230 + (1040 + k) from by omega, t5 t ht _ (by omega), if_pos es, b5, s5 k hk2]
      · have := h8 (sg kept t) (by omega)
        refine ⟨MC_eq this.1 (fun k hk2 => ?_), MB_eq this.2 (fun k hk2 => ?_)⟩
        · rw [t5 t ht k (by omega), if_neg es, fr 4 (by decide) (by decide) (by decide) (by decide)]
        · rw [show t * 1230 + 1040 + k = t * 1230 + (1040 + k) from by omega, t5 t ht _ (by omega), if_neg es, fr 4 (by decide) (by decide) (by decide) (by decide), show sg kept t * 1230 + (1040 + k) = sg kept t * 1230 + 1040 + k from by omega]
    · rw [t1 1 (by decide) (by decide), fr 1 (by decide) (by decide) (by decide) (by decide)]; exact h9
    · rw [push_top, h14 i (by omega), t1 1 (by decide) (by decide), fr 1 (by decide) (by decide) (by decide) (by decide)]; exact h10 hw i i0 i1
  · obtain ⟨v3, e3, t1, t2, t3⟩ := M_standsN v2 (by rw [q5, ho1]; decide)
    refine ⟨v1, r2, v2, v3, e1, e2, hP, s1 2 (by decide) (by decide), s1 3 (by decide) (by decide), R2', hV, by rw [ho1, if_neg (by decide)]; exact e3, fun c c0 c2 c3 c4 c5 => by rw [t1 c c2 c3, fr c c0 c2 c3 c5], fun k k5 k7 k10 => by rw [t1 0 (by decide) (by decide), f0 k k5], fun q => by omega, fun _ => ⟨?_, ?_, ?_, ?_, ?_, ?_, ?_, fun t ht => ?_, ?_, fun hw i i0 i1 => ?_⟩⟩
    · rw [t1 0 (by decide) (by decide), f0 0 (by decide)]; exact h1
    · rw [t1 0 (by decide) (by decide), f0 1 (by decide)]; exact h2
    · rw [t1 0 (by decide) (by decide), f0 6 (by decide)]; exact h3
    · exact MC_eq h4 (fun k hk2 => by rw [t2 k hk2, b5, s4 k hk2])
    · exact MB_eq h5 (fun k hk2 => by rw [t3 k hk2, b5, s5 k hk2])
    · rw [t1 0 (by decide) (by decide), f0 7 (by decide)]; exact h6
    · rw [t1 0 (by decide) (by decide), f0 10 (by decide)]; exact h7
    · rw [t1 4 (by decide) (by decide), fr 4 (by decide) (by decide) (by decide) (by decide)]; exact h8 t ht
    · rw [t1 1 (by decide) (by decide), fr 1 (by decide) (by decide) (by decide) (by decide)]; exact h9
    · rw [t1 1 (by decide) (by decide), fr 1 (by decide) (by decide) (by decide) (by decide)]; exact h10 hw i i0 i1
