-- the class's search: a state is kept
theorem C_keepL {w n c : Nat} {y : XS} {u : Wo} {tab : Nat → Nat} (hw : w < 3) (hc : CC y (u 6)) (hu1 : u 1 1 = nI w) (hu : u 1 2 = nI n) (hn : n ≤ 6) (hc3 : c ≤ 300) (ht : ∀ s, s < 1024 → u 11 s = nI (tab s)) (htc : ∀ s, s < 1024 → tab s ≤ c) {a d : Nat} (hd : d < 1024) (hz : tab ((a + d) % 1024) = 0) (hl : ∀ e, e < d → 0 < tab ((a + e) % 1024)) (h : Int32) : ∀ g m t, t + g = d → g < m → (fX2_keep_13 fX2_keep_60 m h (nI ((a + t) % 1024)) (nI t) u = some (0, u) ∧ ∃ k, k < c ∧ u 10 k = h ∧ PA w n y (fun q => u 9 (k * 608 + q)) (u 6)) ∨ (fX2_keep_13 fX2_keep_60 m h (nI ((a + t) % 1024)) (nI t) u = fX2_keep_60 h (nI ((a + d) % 1024)) u ∧ ∀ e, t ≤ e → e < d → ¬ (u 10 (tab ((a + e) % 1024) - 1) = h ∧ PA w n y (fun q => u 9 ((tab ((a + e) % 1024) - 1) * 608 + q)) (u 6)))
  | 0, m, t, hj, hm => by
    obtain ⟨m, rfl⟩ : ∃ z, m = z + 1 := ⟨m - 1, by omega⟩
    obtain rfl : t = d := by omega
    have hs : (a + t) % 1024 < 1024 := Nat.mod_lt _ (by decide)
    rw [fX2_keep_13.eq_2, if_neg (show ¬ (1024 : Int32) ≤ nI t from nI_ge (b := 1024) hd (by decide)), gi_eq (inb_nI hs (by decide)), nI_clamp (by omega), ht _ hs, hz, if_pos (show nI 0 = (0 : Int32) from rfl)]
    exact Or.inr ⟨rfl, fun e e1 e2 => by omega⟩
  | g + 1, m, t, hj, hm => by
    obtain ⟨m, rfl⟩ : ∃ z, m = z + 1 := ⟨m - 1, by omega⟩
    have hs : (a + t) % 1024 < 1024 := Nat.mod_lt _ (by decide)
    have hp := hl t (by omega)
    have hle := htc _ hs
    rw [fX2_keep_13.eq_2, if_neg (show ¬ (1024 : Int32) ≤ nI t from nI_ge (b := 1024) (by omega) (by decide)), gi_eq (inb_nI hs (by decide)), nI_clamp (by omega), ht _ hs, if_neg (nI_ne0 hp (by omega)), gi_eq (inb_nI hs (by decide)), show nI (tab ((a + t) % 1024)) - (1 : Int32) = nI (tab ((a + t) % 1024) - 1) from by rw [n1, nI_sub hp]]
    rcases C_isS (k := tab ((a + t) % 1024) - 1) hw hc hu1 hu hn (by omega) h with ⟨g1, g2, g3⟩ | ⟨g1, g2⟩
    · rw [bd_eq g1, if_neg (by decide)]
      exact Or.inl ⟨rfl, tab ((a + t) % 1024) - 1, by omega, g2, g3⟩
    · rw [bd_eq g1, if_pos rfl, nI_and1023 hs, nI_1, show ((a + t) % 1024 + 1) % 1024 = (a + (t + 1)) % 1024 by omega]
      rcases C_keepL hw hc hu1 hu hn hc3 ht htc hd hz hl h g m (t + 1) (by omega) (by omega) with p | ⟨p1, p2⟩
      · exact Or.inl p
      · refine Or.inr ⟨p1, fun e e1 e2 => ?_⟩
        by_cases q : e = t
        · rw [q]; exact g2
        · exact p2 e (by omega) e2
theorem C_keepS {w n B : Nat} {P : Nat → Nat} {y : XS} {z : SS} {u : Wo} (hw : w < 3) (hn : n ≤ 6) (hB : B + 300 < 268435456) (hc : CC y (u 6)) (hu1 : u 1 1 = nI w) (hu : u 1 2 = nI n) (hT : KT w n z u) (hS : SI w n B P z) (hy : INV w n (B + 300) y) (h14 : ∀ i, i < 6 → fd y 14 i = P i) : ∃ u1, fX2_keep u = some (0, u1) ∧ KT w n (kp w z y) u1 ∧ (∀ c, c ≠ 5 → c ≠ 9 → c ≠ 10 → c ≠ 11 → u1 c = u c) ∧ u1 5 9 = u 5 9 := by
  have hF := FU_ge
  have hT0 := hT
  obtain ⟨k3, k7, k8, kr, tab, pt, kt⟩ := hT
  have mono : ∀ k, k < z.2.1 → INV w n (B + 300) (z.1 k) := fun k hk => ⟨NB_mono (hS k hk).1.1 (by omega), (hS k hk).1.2⟩
  have iff1 : ∀ k, k < z.2.1 → (u 10 k = Hs w n y (u 6) ∧ PA w n y (fun q => u 9 (k * 608 + q)) (u 6) ↔ LK w (z.1 k) y) := fun k hk => by
    constructor
    · intro q
      exact PA_LK hw hn hB (mono k hk) hy (kr k hk).1 hc q.2
    · intro q
      have e := LK_rows hw hn (mono k hk) hy (fun i hi => by rw [(hS k hk).2 i hi, h14 i hi]) (kr k hk).1 hc q
      refine ⟨?_, PA_of hw hn hc e⟩
      rw [(kr k hk).2]
      exact Hs_congr hn q.2.2.2 (fun p hp => (CC_len (kr k hk).1 hp).2) e
  obtain ⟨d, hd, hz, hl⟩ := PT_zero pt k3 (hb (Hs w n y (u 6)))
  have start : fX2_keep u = fX2_keep_13 fX2_keep_60 FU (Hs w n y (u 6)) (nI ((hb (Hs w n y (u 6)) + 0) % 1024)) (nI 0) u := by
    unfold fX2_keep
    rw [bd_eq (C_hash hw hc hu1 hu hn), hb_and, n0, Nat.add_zero, Nat.mod_eq_of_lt (hb_lt _)]
  rcases C_keepL hw hc hu1 hu hn k3 kt pt.1 hd hz hl (Hs w n y (u 6)) d FU 0 (by omega) (by omega) with ⟨p1, k, hk, p2, p3⟩ | ⟨p1, p2⟩
  · refine ⟨u, by rw [start, p1], ?_, fun _ _ _ _ _ => rfl, rfl⟩
    rw [kp_old ⟨k, hk, (iff1 k hk).mp ⟨p2, p3⟩⟩]
    exact hT0
  · have hno : ¬ ∃ k, k < z.2.1 ∧ LK w (z.1 k) y := by
      rintro ⟨k, hk, hlk⟩
      have hm := (iff1 k hk).mpr hlk
      obtain ⟨e, e1, e2⟩ := PT_hit pt (k := k) (d := d) hk (by rw [hm.1]; exact hz)
      rw [hm.1] at e2
      refine p2 e (Nat.zero_le _) e1 ?_
      rw [e2, Nat.add_sub_cancel]
      exact hm
    have hs : (hb (Hs w n y (u 6)) + d) % 1024 < 1024 := Nat.mod_lt _ (by decide)
    by_cases c3 : z.2.1 < 300
    · rw [kp_new hno c3]
      obtain ⟨u15, e15⟩ : ∃ q, q = wcp u 6 0 9 (z.2.1 * 608) 608 := ⟨_, rfl⟩
      obtain ⟨u20, e20⟩ : ∃ q, q = wr (wr (wr u15 10 z.2.1 (Hs w n y (u 6))) 5 7 (nI (z.2.1 + 1))) 11 ((hb (Hs w n y (u 6)) + d) % 1024) (nI (z.2.1 + 1)) := ⟨_, rfl⟩
      have o15 : ∀ c, c ≠ 9 → u15 c = u c := fun c q => by rw [e15, wcp_ne _ q]
      have o5 : ∀ k, u20 5 k = if k = 7 then nI (z.2.1 + 1) else u 5 k := fun k => by
        rw [e20, wr_ne _ _ _ (by decide), wr_same, wr_ne _ _ _ (by decide), o15 5 (by decide)]; rfl
      have o9 : u20 9 = va_cpy (u 6) (u 9) 0 (z.2.1 * 608) 608 := by
        rw [e20, wr_ne _ _ _ (by decide), wr_ne _ _ _ (by decide), wr_ne _ _ _ (by decide), e15, wcp_same]
      have o10 : ∀ k, u20 10 k = if k = z.2.1 then Hs w n y (u 6) else u 10 k := fun k => by
        rw [e20, wr_ne _ _ _ (by decide), wr_ne _ _ _ (by decide), wr_same, o15 10 (by decide)]; rfl
      have o11 : ∀ s, u20 11 s = if s = (hb (Hs w n y (u 6)) + d) % 1024 then nI (z.2.1 + 1) else u 11 s := fun s => by
        rw [e20, wr_same, wr_ne _ _ _ (by decide), wr_ne _ _ _ (by decide), o15 11 (by decide)]; rfl
      have row : ∀ k, k < z.2.1 → ∀ q, q < 608 → u20 9 (k * 608 + q) = u 9 (k * 608 + q) := fun k hk q hq => by
        rw [o9, cpy_out (Or.inl (by omega))]
      have rowc : ∀ q, q < 608 → u20 9 (z.2.1 * 608 + q) = u 6 q := fun q hq => by
        rw [o9, cpy_in (by omega) (by omega), show 0 + (z.2.1 * 608 + q - z.2.1 * 608) = q by omega]
      refine ⟨u20, ?_, ⟨by dsimp only; omega, by rw [o5, if_pos rfl], by rw [o5, if_neg (by decide)]; exact k8, fun k hk => ?_, fun s => if s = (hb (Hs w n y (u 6)) + d) % 1024 then z.2.1 + 1 else tab s, ?_, fun s hs2 => ?_⟩, fun c c5 c9 c10 c11 => ?_, by rw [o5, if_neg (by decide)]⟩
      · rw [start, p1]
        unfold fX2_keep_60
        rw [k7, if_pos (show nI z.2.1 < (300 : Int32) from nI_lt (b := 300) c3 (by decide)), bd_eq (C_copy9 c3), ← e15, o15 5 (by decide), k7, gi_eq (inb_nI c3 (by decide)), nI_clamp (by omega), bw_eq, bw_eq, gi_eq (inb_nI hs (by decide)), nI_clamp (by omega), bw_eq]
        have h57 : (wr u15 10 z.2.1 (Hs w n y (u 6))) 5 7 = nI z.2.1 := by rw [wr_ne _ _ _ (by decide), o15 5 (by decide), k7]
        rw [h57, nI_1, wr_same, upd_same, e20]
      · dsimp only at hk ⊢
        by_cases q : k = z.2.1
        · subst q
          rw [if_pos rfl, o10, if_pos rfl]
          have l := fun p (hp : p < 36) => (CC_len hc hp).2
          exact ⟨CC_eq hc (fun a ha => rowc a ha), Hs_congr hn (fun _ _ => rfl) l (fun a ha => (rowc a ha).symm)⟩
        · have hk2 : k < z.2.1 := by omega
          rw [if_neg q, o10, if_neg q, (kr k hk2).2]
          have l := fun p (hp : p < 36) => (CC_len (kr k hk2).1 hp).2
          exact ⟨CC_eq (kr k hk2).1 (fun a ha => row k hk2 a ha), Hs_congr hn (fun _ _ => rfl) l (fun a ha => (row k hk2 a ha).symm)⟩
      · dsimp only
        have hf : (fun k => hb (u20 10 k)) = (fun k => if k = z.2.1 then hb (Hs w n y (u 6)) else hb (u 10 k)) := by
          funext k
          rw [o10]
          by_cases q : k = z.2.1
          · rw [if_pos q, if_pos q]
          · rw [if_neg q, if_neg q]
        rw [hf]
        exact PT_new pt (hb_lt _) hd hz hl
      · dsimp only
        rw [o11]
        by_cases q : s = (hb (Hs w n y (u 6)) + d) % 1024
        · rw [if_pos q, if_pos q]
        · rw [if_neg q, if_neg q, kt s hs2]
      · rw [e20, wr_ne _ _ _ c11, wr_ne _ _ _ c5, wr_ne _ _ _ c10, o15 c c9]
    · rw [kp_full hno c3]
      have c300 : z.2.1 = 300 := by omega
      refine ⟨wr u 5 8 1, ?_, ⟨k3, by rw [wr_same, upd_ne _ _ (by decide)]; exact k7, by rw [wr_same, upd_same], fun k hk => by rw [wr_ne _ _ _ (by decide), wr_ne _ _ _ (by decide)]; exact kr k hk, tab, by rw [wr_ne _ _ _ (by decide)]; exact pt, fun s hs2 => by rw [wr_ne _ _ _ (by decide)]; exact kt s hs2⟩, fun c c5 _ _ _ => by rw [wr_ne _ _ _ c5], by rw [wr_same, upd_ne _ _ (by decide)]⟩
      rw [start, p1]
      unfold fX2_keep_60
      rw [k7, c300, if_neg (show ¬ nI 300 < (300 : Int32) from by decide), bw_eq]
