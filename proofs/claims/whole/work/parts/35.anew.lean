-- both sides together: begin, parent
/-- as at first -/
def x0 (w n : Nat) : XS := ((fun f i => if w = 2 ∧ (f = 5 ∨ f = 14) ∧ 0 < i ∧ i < n then (i - 1) / 2 else 0, fun _ => [], fun _ => []), fun _ => 0, 0, fun _ _ => 0)
theorem fd_x0 (w n f i : Nat) : fd (x0 w n) f i = if w = 2 ∧ (f = 5 ∨ f = 14) ∧ 0 < i ∧ i < n then (i - 1) / 2 else 0 := rfl
theorem x0_le (w n f i : Nat) (hn : n ≤ 6) : fd (x0 w n) f i ≤ 2 := by
  rw [fd_x0]
  split <;> omega
theorem ck_x0 (w n k i j : Nat) : ck (x0 w n) k i j = 0 := rfl
theorem INV_x0 {w n B : Nat} (h2 : 2 ≤ n) (hn : n ≤ 6) (hB : 64 ≤ B) : INV w n B (x0 w n) := by
  refine ⟨⟨fun f i => Nat.le_trans (x0_le w n f i hn) (by omega), fun p q hq => (by cases hq), Nat.zero_le _⟩, ⟨fun i hi => ?_, fun i hi => ⟨?_, ?_⟩, fun i q hq => (by cases hq), fun p q hq => (by cases hq), fun a b hb hc => rfl, ?_⟩, ⟨fun q i hi => ⟨?_, ?_, ?_, ?_, ?_⟩, fun q => ⟨fun i hi => ⟨?_, fun j hj => ?_⟩, ?_, rfl⟩, fun q i hi => ⟨?_, ?_, rfl⟩⟩, fun q => ?_, fun q => ?_, fun q => ?_, ?_⟩
  · rw [fd_x0]; split <;> omega
  · exact Nat.lt_of_le_of_lt (x0_le w n 4 i hn) (by decide)
  · exact Nat.lt_of_le_of_lt (x0_le w n 7 i hn) (by decide)
  · exact Nat.le_trans (x0_le w n 5 6 hn) (by decide)
  · rw [fd_x0, if_neg (by omega)]
  · rw [fd_x0, if_neg (by omega)]
  · rw [fd_x0, if_neg (by omega)]
  · rw [fd_x0, if_neg (by omega)]
  · rw [fd_x0, if_neg (by omega)]
  · rw [fd_x0, if_neg (by omega)]
  · rw [fd_x0, if_neg (by omega)]
  · rw [fd_x0, if_neg (by omega)]
  · rw [fd_x0, if_neg (by omega)]
  · rw [fd_x0, if_neg (by omega)]
  · subst q
    have f0 : ∀ f i, fd (x0 0 n) f i = 0 := fun f i => by rw [fd_x0, if_neg (by omega)]
    refine ⟨fun i hi j hj hij => ?_, fun i hi hm => ?_, fun i hi j hj hc => ?_, fun i hi hm => ?_, fun i hi hc => ?_⟩
    · rw [ck_x0, ck_x0, f0, f0, bt_zero, if_neg (by decide)]
    · rw [f0] at hm; cases hm
    · rw [f0, f0, bt_zero]; exact ⟨rfl, rfl⟩
    · rw [f0, f0, f0, if_pos rfl]; exact ⟨rfl, rfl⟩
    · rw [f0, f0]; exact ⟨rfl, rfl⟩
  · subst q
    have f0 : ∀ f i, fd (x0 1 n) f i = 0 := fun f i => by rw [fd_x0, if_neg (by omega)]
    refine ⟨fun q => Nat.zero_le _, fun a b ha hb hc => ?_, fun _ => ⟨rfl, fun _ => rfl⟩, fun i hi hm => ?_⟩
    · rw [ck_x0] at hc; omega
    · rw [f0] at hm; cases hm
  · subst q
    have f0 : ∀ i, fd (x0 2 n) 0 i = 0 := fun i => by rw [fd_x0, if_neg (by omega)]
    have f6 : ∀ i, fd (x0 2 n) 6 i = 0 := fun i => by rw [fd_x0, if_neg (by omega)]
    refine ⟨fun i hi j hj hij => ?_, fun j hj => ?_, fun i hi => ?_⟩
    · rw [ck_x0, ck_x0, f6, if_neg (by omega)]; rfl
    · rw [f6]; omega
    · rw [f0, if_neg (by decide)]; rfl
  · rw [fd_x0, if_neg (by omega)]
theorem CC_zero {r : Nat → Int32} (h : ∀ k, k < 618 → r k = 0) (w : Nat) : CC (x0 w 1) r := by
  have f0 : ∀ f i, fd (x0 w 1) f i = 0 := fun f i => by rw [fd_x0, if_neg (by omega)]
  refine ⟨fun f i hf hi => ?_, ?_, ?_, fun i hi => ?_, fun q hq => ?_⟩
  · have := lC_low f (okC_lt hf) hf
    rw [h _ (by omega), f0]; rfl
  · rw [h _ (by decide), f0]; rfl
  · exact ⟨h _ (by decide), Nat.zero_le _, fun k hk => h _ (by omega)⟩
  · exact ⟨h _ (by omega), Nat.zero_le _, fun k hk => h _ (by omega)⟩
  · exact ⟨h _ (by omega), Nat.zero_le _, fun k hk => h _ (by omega)⟩
theorem x0_no {w : Nat} (hw : w ≠ 2) (n m : Nat) : x0 w n = x0 w m := by
  have : (fun f i => if w = 2 ∧ (f = 5 ∨ f = 14) ∧ 0 < i ∧ i < n then (i - 1) / 2 else 0) = (fun f i => if w = 2 ∧ (f = 5 ∨ f = 14) ∧ 0 < i ∧ i < m then (i - 1) / 2 else 0 : Nat → Nat → Nat) := by
    funext f i
    rw [if_neg (by omega), if_neg (by omega)]
  unfold x0
  rw [this]
theorem x0_succ {i : Nat} (hi : 0 < i) : fs (fs (x0 2 i) 14 i ((i - 1) / 2)) 5 i ((i - 1) / 2) = x0 2 (i + 1) := by
  have : (fun g j => if g = 5 ∧ j = i then (i - 1) / 2 else fd (fs (x0 2 i) 14 i ((i - 1) / 2)) g j) = (fun f j => if 2 = 2 ∧ (f = 5 ∨ f = 14) ∧ 0 < j ∧ j < i + 1 then (j - 1) / 2 else 0 : Nat → Nat → Nat) := by
    funext g j
    rw [fd_fs, fd_x0]
    by_cases e : j = i
    · subst e
      by_cases e5 : g = 5
      · subst e5
        rw [if_pos ⟨rfl, rfl⟩, if_pos (by omega)]
      · rw [if_neg (fun q => e5 q.1)]
        by_cases e4 : g = 14
        · subst e4
          rw [if_pos ⟨rfl, rfl⟩, if_pos (by omega)]
        · rw [if_neg (fun q => e4 q.1), if_neg (by omega), if_neg (by omega)]
    · rw [if_neg (fun q => e q.2), if_neg (fun q => e q.2)]
      by_cases e2 : (g = 5 ∨ g = 14) ∧ 0 < j ∧ j < i
      · rw [if_pos ⟨rfl, e2⟩, if_pos ⟨rfl, e2.1, e2.2.1, by omega⟩]
      · rw [if_neg (fun q => e2 q.2), if_neg (fun q => e2 ⟨q.2.1, q.2.2.1, by omega⟩)]
  show ((_, _), _) = _
  rw [this]
  rfl
theorem C_anew (u : Wo) {w n : Nat} (hw : w < 3) (hn : n ≤ 6) (h1 : 1 ≤ n) : ∃ u1, fX3_startAnew (nI w) (nI n) u = some (0, u1) ∧ (∀ c, c ≠ 1 → c ≠ 6 → u1 c = u c) ∧ u1 1 1 = nI w ∧ u1 1 2 = nI n ∧ u1 1 3 = u 1 3 ∧ CC (x0 w n) (u1 6) ∧ ∀ k, 608 ≤ k → k < 618 → u1 6 k = 0 := by
  obtain ⟨u2, hu2⟩ : ∃ z, z = wr (wr u 1 1 (nI w)) 1 2 (nI n) := ⟨_, rfl⟩
  have t1 : u2 1 1 = nI w := by rw [hu2, wr_same, upd_ne _ _ (by decide), wr_same, upd_same]
  have t2 : u2 1 2 = nI n := by rw [hu2, wr_same, upd_same]
  have t3 : u2 1 3 = u 1 3 := by rw [hu2, wr_same, upd_ne _ _ (by decide), wr_same, upd_ne _ _ (by decide)]
  have t4 : ∀ c, c ≠ 1 → u2 c = u c := fun c q => by rw [hu2, wr_ne _ _ _ q, wr_ne _ _ _ q]
  obtain ⟨u3, e3, f3, q3⟩ := fl_loop (F := fun m i z => fJ7_fill_53178_6_5 fJ7_fill_53178_6_20 m (0 : Int32) i (618 : Int32) z) (k := fJ7_fill_53178_6_20) (N := 618) (cd := 6) (val := fun _ => 0) (u0 := u2) (by decide) (fun m z _ => by rw [fJ7_fill_53178_6_5.eq_2, if_pos (show (618 : Int32) ≤ nI 618 from by decide)]) (fun m i z hi _ => by
    rw [fJ7_fill_53178_6_5.eq_2, if_neg (show ¬ (618 : Int32) ≤ nI i from nI_ge (b := 618) hi (by decide)), gi_eq (inb_nI hi (by decide)), nI_clamp (by omega), bw_eq, nI_1])
  have z3 : CC (x0 w 1) (u3 6) := CC_zero (fun k hk => by rw [q3, if_pos hk]) w
  have hgo : ∃ u1, fX3_startAnew_20 fX3_startAnew_66 FU (nI 1) u3 = some (0, u1) ∧ (∀ c, c ≠ 6 → u1 c = u3 c) ∧ CC (x0 w n) (u1 6) ∧ ∀ k, 608 ≤ k → k < 618 → u1 6 k = 0 := by
    by_cases ew : w = 2
    · subst ew
      refine lp_post (σ := Int32 × Wo) (fun m s => fX3_startAnew_20 fX3_startAnew_66 m s.1 s.2) (fun d s => ∃ i, 1 ≤ i ∧ i + d = n ∧ s.1 = nI i ∧ (∀ c, c ≠ 6 → s.2 c = u3 c) ∧ CC (x0 2 i) (s.2 6) ∧ ∀ k, 608 ≤ k → k < 618 → s.2 6 k = 0) (fun y => ∃ u1, y = some (0, u1) ∧ (∀ c, c ≠ 6 → u1 c = u3 c) ∧ CC (x0 2 n) (u1 6) ∧ ∀ k, 608 ≤ k → k < 618 → u1 6 k = 0) ?_ ?_ (n - 1) FU (nI 1, u3) (by have := FU_ge; omega) ⟨1, by omega, by omega, rfl, fun _ _ => rfl, z3, fun k a b => by dsimp only; rw [q3, if_pos b]⟩
      · rintro m ⟨s1, su⟩ ⟨i, hi1, hi, hs1, hF, hq, hz⟩
        dsimp only at hs1 hF hq hz ⊢
        obtain rfl : i = n := by omega
        rw [hs1, fX3_startAnew_20.eq_2, hF 1 (by decide), f3 1 (by decide), t2, if_pos (nI_le (by omega) (by omega))]
        exact ⟨su, rfl, hF, hq, hz⟩
      · rintro m d ⟨s1, su⟩ ⟨i, hi1, hi, hs1, hF, hq, hz⟩
        dsimp only at hs1 hF hq hz ⊢
        have ed : (nI i - (1 : Int32)) / (2 : Int32) = nI ((i - 1) / 2) := by rw [n1, nI_sub hi1, n2, pk_div (by omega) (by decide) (by decide)]
        refine Or.inr ⟨(nI (i + 1), wr (wr su 6 (80 + i) (nI ((i - 1) / 2))) 6 (86 + i) (nI ((i - 1) / 2))), ?_, i + 1, by omega, by omega, rfl, fun c hc => by dsimp only; rw [wr_ne _ _ _ hc, wr_ne _ _ _ hc]; exact hF c hc, ?_, fun k a b => ?_⟩
        · rw [hs1, fX3_startAnew_20.eq_2, hF 1 (by decide), f3 1 (by decide), t2, t1, if_neg (nI_ge (by omega) (by omega)), if_pos (show nI 2 = (2 : Int32) from rfl), ed, n80, bd_eq (C_set su _ (by omega)), n86, bd_eq (C_set _ _ (by omega)), nI_1]
        · dsimp only
          rw [wr_same, wr_same, ← x0_succ hi1]
          exact CC_field (CC_field hq (f := 14) (i := i) ((i - 1) / 2) rfl (by omega)) (f := 5) (i := i) ((i - 1) / 2) rfl (by omega)
        · dsimp only
          rw [wr_same, wr_same, upd_ne _ _ (by omega), upd_ne _ _ (by omega)]
          exact hz k a b
    · refine ⟨u3, ?_, fun _ _ => rfl, by rw [x0_no ew n 1]; exact z3, fun k a b => by rw [q3, if_pos b]⟩
      obtain ⟨m, hm⟩ : ∃ m, FU = m + 1 := ⟨FU - 1, by have := FU_ge; omega⟩
      rw [hm, fX3_startAnew_20.eq_2, f3 1 (by decide), t1, if_neg (show ¬ nI w = (2 : Int32) from nI_ne (b := 2) (by omega) (by decide) ew)]
      split <;> rfl
  obtain ⟨u1, e1, f1, c1, d1⟩ := hgo
  refine ⟨u1, ?_, fun c q1 q6 => by rw [f1 c q6, f3 c q6, t4 c q1], by rw [f1 1 (by decide), f3 1 (by decide), t1], by rw [f1 1 (by decide), f3 1 (by decide), t2], by rw [f1 1 (by decide), f3 1 (by decide), t3], c1, d1⟩
  unfold fX3_startAnew fJ7_fill_53178_6
  rw [bw_eq, bw_eq, ← hu2, bd_eq (show fJ7_fill_53178_6_5 fJ7_fill_53178_6_20 FU (0 : Int32) (0 : Int32) (618 : Int32) u2 = some (0, u3) from e3), n1]
  exact e1
