-- the reference's search: a state met
def mm (r : Nat → Int32) : Nat → Nat → Int32 → Int32
  | 0, _, h => h
  | d + 1, a, h => mm r d (a + 1) (31 * h + r a)
theorem mm_congr {r1 r2 : Nat → Int32} : ∀ (d a : Nat) (h : Int32), (∀ q, a ≤ q → q < a + d → r1 q = r2 q) → mm r1 d a h = mm r2 d a h
  | 0, _, _, _ => rfl
  | d + 1, a, h, e => by
    unfold mm
    rw [e a (Nat.le_refl _) (by omega)]
    exact mm_congr d (a + 1) _ (fun q q1 q2 => e q (by omega) (by omega))
def hm (r : Nat → Int32) : Nat := hb ((fun h : Int32 => h ^^^ ((h).toUInt32 >>> (((13 : Int32)).toUInt32 &&& Int32.toUInt32 31)).toInt32) (mm r 1040 0 7))
theorem hm_congr {r1 r2 : Nat → Int32} (e : ∀ q, q < 1040 → r1 q = r2 q) : hm r1 = hm r2 := by
  unfold hm
  rw [mm_congr (r1 := r1) (r2 := r2) 1040 0 7 (fun q _ q2 => e q (by omega))]
theorem hm_lt (r : Nat → Int32) : hm r < 1024 := hb_lt _
theorem M_mmL (v : Wo) {k : Int32 → Wo → Re} : ∀ d f a h, a + d = 1040 → d < f → fX6_slotOf_5 k f h (nI a) v = k (mm (v 2) d a h) v
  | 0, f, a, h, hj, hf => by
    obtain ⟨f, rfl⟩ : ∃ z, f = z + 1 := ⟨f - 1, by omega⟩
    rw [fX6_slotOf_5.eq_2, if_pos (show (1040 : Int32) ≤ nI a from nI_le (a := 1040) (by omega) (by omega))]
    rfl
  | d + 1, f, a, h, hj, hf => by
    obtain ⟨f, rfl⟩ : ∃ z, f = z + 1 := ⟨f - 1, by omega⟩
    rw [fX6_slotOf_5.eq_2, if_neg (show ¬ (1040 : Int32) ≤ nI a from nI_ge (b := 1040) (by omega) (by decide)), gi_eq (inb_nI (by omega) (by decide)), nI_clamp (by omega), nI_1, M_mmL v d f (a + 1) _ (by omega) (by omega)]
    rfl
theorem M_isL (v : Wo) {k : Nat} (hk : k < 300) : ∀ d f a, a + d = 1040 → d + 1 < f → (fX6_isState_4 fX6_isState_48 f (nI k) 1 (nI a) v = some (1, v) ∧ ∀ q, a ≤ q → q < 1040 → v 6 (k * 1040 + q) = v 2 q) ∨ (fX6_isState_4 fX6_isState_48 f (nI k) 1 (nI a) v = some (0, v) ∧ ∃ q, q < 1040 ∧ v 6 (k * 1040 + q) ≠ v 2 q)
  | 0, f, a, hj, hf => by
    obtain ⟨f, rfl⟩ : ∃ z, f = z + 1 := ⟨f - 1, by omega⟩
    rw [fX6_isState_4.eq_2, if_pos (show (1040 : Int32) ≤ nI a from nI_le (a := 1040) (by omega) (by omega))]
    exact Or.inl ⟨rfl, fun q q1 q2 => by omega⟩
  | d + 1, f, a, hj, hf => by
    obtain ⟨f, rfl⟩ : ∃ z, f = z + 2 := ⟨f - 2, by omega⟩
    rw [fX6_isState_4.eq_2, if_neg (show ¬ (1040 : Int32) ≤ nI a from nI_ge (b := 1040) (by omega) (by decide)), if_neg (by decide), n1040, nI_mul, nI_add, gi_eq (inb_nI (by omega) (by decide)), gi_eq (inb_nI (by omega) (by decide)), nI_clamp (by omega), nI_clamp (by omega), show 1040 * k + a = k * 1040 + a by omega]
    unfold fX6_isState_41
    by_cases e : v 6 (k * 1040 + a) = v 2 a
    · rw [if_pos e, nI_1]
      rcases M_isL v hk d (f + 1) (a + 1) (by omega) (by omega) with ⟨g1, g2⟩ | ⟨g1, g2⟩
      · refine Or.inl ⟨g1, fun q q1 q2 => ?_⟩
        by_cases z : q = a
        · rw [z]; exact e
        · exact g2 q (by omega) q2
      · exact Or.inr ⟨g1, g2⟩
    · rw [if_neg e, nI_1, fX6_isState_4.eq_2]
      refine Or.inr ⟨?_, a, by omega, e⟩
      rw [if_pos (show (0 : Int32) = 0 from rfl)]
      split <;> rfl
theorem M_isS (v : Wo) {k : Nat} (hk : k < 300) : (fX6_isState (nI k) v = some (1, v) ∧ ∀ q, q < 1040 → v 6 (k * 1040 + q) = v 2 q) ∨ (fX6_isState (nI k) v = some (0, v) ∧ ∃ q, q < 1040 ∧ v 6 (k * 1040 + q) ≠ v 2 q) := by
  have hF := FU_ge
  unfold fX6_isState
  rcases M_isL v hk 1040 FU 0 (by decide) (by omega) with ⟨g1, g2⟩ | g
  · exact Or.inl ⟨g1, fun q hq => g2 q (Nat.zero_le _) hq⟩
  · exact Or.inr g
theorem M_slotL {c : Nat} {v : Wo} {tab : Nat → Nat} (hc3 : c ≤ 300) (ht : ∀ s, s < 1024 → v 7 s = nI (tab s)) (htc : ∀ s, s < 1024 → tab s ≤ c) {a d : Nat} (hz : tab ((a + d) % 1024) = 0) (hl : ∀ e, e < d → 0 < tab ((a + e) % 1024)) : ∀ g m t, t + g = d → g < m → (∃ s, s < 1024 ∧ fX6_slotOf_41 fX6_slotOf_76 m (nI ((a + t) % 1024)) v = some (nI s, v) ∧ 0 < tab s ∧ ∀ q, q < 1040 → v 6 ((tab s - 1) * 1040 + q) = v 2 q) ∨ (fX6_slotOf_41 fX6_slotOf_76 m (nI ((a + t) % 1024)) v = some (nI ((a + d) % 1024), v) ∧ ∀ e, t ≤ e → e < d → ¬ ∀ q, q < 1040 → v 6 ((tab ((a + e) % 1024) - 1) * 1040 + q) = v 2 q)
  | 0, m, t, hj, hm => by
    obtain ⟨m, rfl⟩ : ∃ z, m = z + 1 := ⟨m - 1, by omega⟩
    obtain rfl : t = d := by omega
    have hs : (a + t) % 1024 < 1024 := Nat.mod_lt _ (by decide)
    rw [fX6_slotOf_41.eq_2, gi_eq (inb_nI hs (by decide)), nI_clamp (by omega), ht _ hs, hz, if_pos (show nI 0 ≤ (0 : Int32) from by decide)]
    exact Or.inr ⟨rfl, fun e e1 e2 => by omega⟩
  | g + 1, m, t, hj, hm => by
    obtain ⟨m, rfl⟩ : ∃ z, m = z + 1 := ⟨m - 1, by omega⟩
    have hs : (a + t) % 1024 < 1024 := Nat.mod_lt _ (by decide)
    have hp := hl t (by omega)
    have hle := htc _ hs
    rw [fX6_slotOf_41.eq_2, gi_eq (inb_nI hs (by decide)), nI_clamp (by omega), ht _ hs, if_neg (nI_nle hp (by omega)), gi_eq (inb_nI hs (by decide)), show nI (tab ((a + t) % 1024)) - (1 : Int32) = nI (tab ((a + t) % 1024) - 1) from by rw [n1, nI_sub hp]]
    rcases M_isS v (k := tab ((a + t) % 1024) - 1) (by omega) with ⟨g1, g2⟩ | ⟨g1, q, q1, q2⟩
    · rw [bd_eq g1, if_neg (by decide)]
      exact Or.inl ⟨(a + t) % 1024, hs, rfl, hp, g2⟩
    · rw [bd_eq g1, if_pos rfl, nI_and1023 hs, show ((a + t) % 1024 + 1) % 1024 = (a + (t + 1)) % 1024 by omega]
      rcases M_slotL hc3 ht htc hz hl g m (t + 1) (by omega) (by omega) with p | ⟨p1, p2⟩
      · exact Or.inl p
      · refine Or.inr ⟨p1, fun e e1 e2 => ?_⟩
        by_cases z : e = t
        · rw [z]; exact fun y => q2 (y q q1)
        · exact p2 e (by omega) e2
/-- the reference holds the search's store -/
def MT (w n : Nat) (z : SS) (v : Wo) : Prop := z.2.1 ≤ 300 ∧ v 0 13 = nI z.2.1 ∧ v 0 17 = z.2.2 ∧ (∀ k, k < z.2.1 → MC w n (z.1 k) (fun q => v 6 (k * 1040 + q))) ∧ ∃ tab hs, PT tab z.2.1 hs ∧ (∀ k, k < z.2.1 → hs k = hm (fun q => v 6 (k * 1040 + q))) ∧ ∀ s, s < 1024 → v 7 s = nI (tab s)
theorem M_meetsS {w n B : Nat} {P : Nat → Nat} {y : XS} {z : SS} {v : Wo} (hw : w < 3) (hn : n ≤ 6) (hB : B + 300 < 268435456) (hc : MC w n y (v 2)) (hT : MT w n z v) (hS : SI w n B P z) (hy : INV w n (B + 300) y) : ∃ v1, fX6_meets v = some (0, v1) ∧ MT w n (kp w z y) v1 ∧ (∀ c, c ≠ 0 → c ≠ 6 → c ≠ 7 → v1 c = v c) ∧ ∀ k, k ≠ 13 → k ≠ 17 → v1 0 k = v 0 k := by
  have hF := FU_ge
  have hT0 := hT
  obtain ⟨k3, k7, k8, kr, tab, hs, pt, ph, kt⟩ := hT
  have mono : ∀ k, k < z.2.1 → INV w n (B + 300) (z.1 k) := fun k hk => ⟨NB_mono (hS k hk).1.1 (by omega), (hS k hk).1.2⟩
  have iff1 : ∀ k, k < z.2.1 → ((∀ q, q < 1040 → v 6 (k * 1040 + q) = v 2 q) ↔ LK w (z.1 k) y) := fun k hk => ⟨fun q => MC_inj hw hn hB (mono k hk) hy (kr k hk) hc q, fun q => MC_same (kr k hk) hc hw q⟩
  obtain ⟨d, hd, hz, hl⟩ := PT_zero pt k3 (hm (v 2))
  have start : fX6_slotOf v = fX6_slotOf_41 fX6_slotOf_76 FU (nI ((hm (v 2) + 0) % 1024)) v := by
    unfold fX6_slotOf
    rw [n7, n0, M_mmL v 1040 FU 0 _ (by decide) (by omega)]
    unfold fX6_slotOf_30
    rw [bn_eq, hb_and, Nat.add_zero, Nat.mod_eq_of_lt (hm_lt _)]
    rfl
  unfold fX6_meets
  rw [start]
  rcases M_slotL k3 kt pt.1 hz hl d FU 0 (by omega) (by omega) with ⟨s, s1, p1, p2, p3⟩ | ⟨p1, p2⟩
  · have hle := pt.1 s s1
    refine ⟨v, ?_, ?_, fun _ _ _ _ => rfl, fun _ _ _ => rfl⟩
    · rw [bd_eq p1, gi_eq (inb_nI s1 (by decide)), nI_clamp (by omega), kt s s1, if_neg (nI_nle p2 (by omega))]
    · rw [kp_old ⟨tab s - 1, by omega, (iff1 _ (by omega)).mp p3⟩]
      exact hT0
  · have hno : ¬ ∃ k, k < z.2.1 ∧ LK w (z.1 k) y := by
      rintro ⟨k, hk, hlk⟩
      have hmm := (iff1 k hk).mpr hlk
      have hh : hs k = hm (v 2) := by rw [ph k hk]; exact hm_congr hmm
      obtain ⟨e, e1, e2⟩ := PT_hit pt (k := k) (d := d) hk (by rw [hh]; exact hz)
      rw [hh] at e2
      refine p2 e (Nat.zero_le _) e1 ?_
      rw [e2, Nat.add_sub_cancel]
      exact hmm
    have hsl : (hm (v 2) + d) % 1024 < 1024 := Nat.mod_lt _ (by decide)
    rw [bd_eq p1, gi_eq (inb_nI hsl (by decide)), nI_clamp (by omega), kt _ hsl, hz, if_pos (show nI 0 ≤ (0 : Int32) from by decide), k7]
    by_cases c3 : z.2.1 < 300
    · rw [kp_new hno c3, if_neg (show ¬ nI z.2.1 = (300 : Int32) from nI_ne (b := 300) (by omega) (by decide) (by omega)), gi_eq (inb_nI hsl (by decide)), bw_eq, nI_1]
      obtain ⟨v8, hv8⟩ : ∃ q, q = wr v 7 ((hm (v 2) + d) % 1024) (nI (z.2.1 + 1)) := ⟨_, rfl⟩
      have v80 : v8 0 13 = nI z.2.1 := by rw [hv8, wr_ne _ _ _ (by decide)]; exact k7
      obtain ⟨v9, e9, f9, q9⟩ := cp_loop (F := fX6_meets_45 fX6_meets_79) (k := fX6_meets_79) (N := 1040) (cs := 2) (os := 0) (cd := 6) (od := z.2.1 * 1040) (u0 := v8) (by omega) (Or.inl (by decide)) (fun m q _ => by rw [fX6_meets_45.eq_2, if_pos (show (1040 : Int32) ≤ nI 1040 from by decide)]) (fun m i q hi hq => by
        rw [fX6_meets_45.eq_2, if_neg (show ¬ (1040 : Int32) ≤ nI i from nI_ge (b := 1040) hi (by decide)), hq 0 (by decide), v80, gi_eq (inb_nI hi (by decide)), n1040, nI_mul, nI_add, gi_eq (inb_nI (by omega) (by decide)), nI_clamp (by omega), nI_clamp (by omega), bw_eq, nI_1, show 1040 * z.2.1 + i = z.2.1 * 1040 + i by omega, Nat.zero_add])
      rw [← hv8, e9]
      unfold fX6_meets_79
      rw [bw_eq, f9 0 (by decide), v80, nI_1]
      have o : ∀ c, c ≠ 0 → c ≠ 6 → c ≠ 7 → wr v9 0 13 (nI (z.2.1 + 1)) c = v c := fun c c0 c6 c7 => by rw [wr_ne _ _ _ c0, f9 c c6, hv8, wr_ne _ _ _ c7]
      have o0 : ∀ k, k ≠ 13 → wr v9 0 13 (nI (z.2.1 + 1)) 0 k = v 0 k := fun k hk => by rw [wr_same, upd_ne _ _ hk, f9 0 (by decide), hv8, wr_ne _ _ _ (by decide)]
      have o6 : ∀ q, wr v9 0 13 (nI (z.2.1 + 1)) 6 q = if z.2.1 * 1040 ≤ q ∧ q < z.2.1 * 1040 + 1040 then v 2 (q - z.2.1 * 1040) else v 6 q := fun q => by
        rw [wr_ne _ _ _ (by decide), q9, hv8, wr_ne _ _ _ (by decide), wr_ne _ _ _ (by decide), Nat.zero_add]
      have o7 : ∀ s, wr v9 0 13 (nI (z.2.1 + 1)) 7 s = if s = (hm (v 2) + d) % 1024 then nI (z.2.1 + 1) else v 7 s := fun s => by
        rw [wr_ne _ _ _ (by decide), f9 7 (by decide), hv8, wr_same]; rfl
      have row : ∀ k, k < z.2.1 → ∀ q, q < 1040 → wr v9 0 13 (nI (z.2.1 + 1)) 6 (k * 1040 + q) = v 6 (k * 1040 + q) := fun k hk q hq => by
        rw [o6, if_neg (by omega)]
      have rowc : ∀ q, q < 1040 → wr v9 0 13 (nI (z.2.1 + 1)) 6 (z.2.1 * 1040 + q) = v 2 q := fun q hq => by
        rw [o6, if_pos (by omega), show z.2.1 * 1040 + q - z.2.1 * 1040 = q by omega]
      refine ⟨_, rfl, ⟨by dsimp only; omega, by rw [wr_same, upd_same], by rw [o0 _ (by decide)]; exact k8, fun k hk => ?_, fun s => if s = (hm (v 2) + d) % 1024 then z.2.1 + 1 else tab s, fun k => if k = z.2.1 then hm (v 2) else hs k, PT_new pt (hm_lt _) hd hz hl, fun k hk => ?_, fun s hs2 => ?_⟩, o, fun k k13 _ => o0 k k13⟩
      · dsimp only at hk ⊢
        by_cases q : k = z.2.1
        · subst q
          rw [if_pos rfl]
          exact MC_eq hc (fun a ha => rowc a ha)
        · rw [if_neg q]
          exact MC_eq (kr k (by omega)) (fun a ha => row k (by omega) a ha)
      · dsimp only at hk ⊢
        by_cases q : k = z.2.1
        · subst q
          rw [if_pos rfl]
          exact hm_congr (fun a ha => (rowc a ha).symm)
        · rw [if_neg q, ph k (by omega)]
          exact hm_congr (fun a ha => (row k (by omega) a ha).symm)
      · dsimp only
        rw [o7]
        by_cases q : s = (hm (v 2) + d) % 1024
        · rw [if_pos q, if_pos q]
        · rw [if_neg q, if_neg q, kt s hs2]
    · rw [kp_full hno c3]
      have c300 : z.2.1 = 300 := by omega
      rw [c300, if_pos (show nI 300 = (300 : Int32) from rfl), bw_eq]
      refine ⟨wr v 0 17 1, rfl, ⟨by dsimp only; omega, by rw [wr_same, upd_ne _ _ (by decide), k7, c300], by rw [wr_same, upd_same], fun k hk => by rw [wr_ne _ _ _ (by decide)]; dsimp only at hk ⊢; exact kr k (by omega), tab, hs, by dsimp only; rw [← c300]; exact pt, fun k hk => by rw [wr_ne _ _ _ (by decide)]; dsimp only at hk; exact ph k (by omega), fun s hs2 => by rw [wr_ne _ _ _ (by decide)]; exact kt s hs2⟩, fun c c0 _ _ => by rw [wr_ne _ _ _ c0], fun k _ k17 => by rw [wr_same, upd_ne _ _ k17]⟩
