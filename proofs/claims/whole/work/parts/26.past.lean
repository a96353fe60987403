-- what is kept: the latest states that can come back, on both sides
theorem wcp_same (u : Wo) (a i b j n : Nat) : wcp u a i b j n b = va_cpy (u a) (u b) i j n := if_pos rfl
theorem wcp_ne (u : Wo) {a i b j n d : Nat} (h : d ≠ b) : wcp u a i b j n d = u d := if_neg h
theorem cpy_in {f g : Nat → Int32} {i j n k : Nat} (h1 : j ≤ k) (h2 : k < j + n) : va_cpy f g i j n k = f (i + (k - j)) := if_pos ⟨h1, h2⟩
theorem cpy_out {f g : Nat → Int32} {i j n k : Nat} (h : k < j ∨ j + n ≤ k) : va_cpy f g i j n k = g k := if_neg (by omega)
/-- the counts in a row of the class -/
def CN (x : XS) (r : Nat → Int32) : Prop := (∀ k, k < 3 → r (608 + k) = bb x (7 + k)) ∧ r 611 = nI (ev x) ∧ ∀ i, i < 6 → r (612 + i) = bb x (1 + i)
/-- the book from number lo on -/
def BK (lo e : Nat) (L : Nat → Nat → Int32) (r : Nat → Int32) : Prop := ∀ m, lo ≤ m → m < e → ∀ w, w < 3 → r (m % 90 * 3 + w) = L m w
theorem CC_eq {x : XS} {r r1 : Nat → Int32} (h : CC x r) (e : ∀ k, k < 608 → r1 k = r k) : CC x r1 := CC_out h e
theorem CN_eq {x : XS} {r r1 : Nat → Int32} (h : CN x r) (e : ∀ k, 608 ≤ k → k < 618 → r1 k = r k) : CN x r1 :=
  ⟨fun k hk => by rw [e _ (by omega) (by omega)]; exact h.1 k hk, by rw [e _ (by omega) (by omega)]; exact h.2.1, fun i hi => by rw [e _ (by omega) (by omega)]; exact h.2.2 i hi⟩
/-- the class: what it keeps, H 0 .. H (kept - 1), and what it is at, H kept -/
def CG (w n : Nat) (H : Nat → XS) (kept : Nat) (L : Nat → Nat → Int32) (ac : Int32) (u : Wo) : Prop :=
  u 1 1 = nI w ∧ u 1 2 = nI n ∧ (∃ o : Nat, o ≤ 1 ∧ u 1 3 = nI o) ∧ u 3 2 = 1 ∧ CC (H kept) (u 6) ∧ CN (H kept) (u 6) ∧ BK (ev (H 0) - 60) (ev (H kept)) L (u 7) ∧ u 0 7 = ac ∧ u 4 3 = nI kept ∧
  ∃ p : Nat, p < 31 ∧ u 4 2 = nI p ∧ ∀ t, t < kept → CC (H t) (fun k => u 8 ((p + 31 - kept + t) % 31 * 618 + k)) ∧ CN (H t) (fun k => u 8 ((p + 31 - kept + t) % 31 * 618 + k))
/-- the reference: the same -/
def MG (w n : Nat) (H : Nat → XS) (kept : Nat) (ac : Int32) (v : Wo) : Prop :=
  v 0 0 = nI w ∧ v 0 1 = nI n ∧ v 0 6 = 1 ∧ MC w n (H kept) (v 2) ∧ MB (H kept) (v 3) ∧ v 0 7 = ac ∧ v 0 10 = nI kept ∧ (∀ t, t < kept → MC w n (H t) (fun k => v 4 (t * 1230 + k)) ∧ MB (H t) (fun k => v 4 (t * 1230 + 1040 + k))) ∧ v 1 0 = -4 ∧ (w = 2 → ∀ i, 0 < i → i < n → v 1 i = nI (fd (H kept) 14 i))
/-- what is true of the states kept -/
def AG (w n B : Nat) (H : Nat → XS) (kept : Nat) (L : Nat → Nat → Int32) (ac : Int32) : Prop :=
  w < 3 ∧ 2 ≤ n ∧ n ≤ 6 ∧ 64 ≤ B ∧ kept ≤ 30 ∧ (∀ t, t ≤ kept → INV w n B (H t)) ∧ (∀ t, t < kept → ev (H t) ≤ ev (H (t + 1)) ∧ ev (H (t + 1)) ≤ ev (H t) + 1) ∧ (∀ t, t ≤ kept → ∀ m, m < ev (H t) → lg (H t) m = L m) ∧ (∀ t, t ≤ kept → ∀ i, i < 6 → fd (H t) 14 i = fd (H kept) 14 i) ∧ (ac = 0 ∨ ac = 1) ∧ (ac = 0 → kept = 0 ∧ (∀ j, j < 6 → fd (H 0) 6 j = 0) ∧ (w = 2 → fd (H 0) 5 0 = 0 ∧ ∀ i, 0 < i → i < n → fd (H 0) 5 i = fd (H 0) 14 i))
theorem ev_chain {H : Nat → XS} {kept : Nat} (h : ∀ t, t < kept → ev (H t) ≤ ev (H (t + 1)) ∧ ev (H (t + 1)) ≤ ev (H t) + 1) : ∀ d s, s + d ≤ kept → ev (H s) ≤ ev (H (s + d)) ∧ ev (H (s + d)) ≤ ev (H s) + d
  | 0, s, _ => ⟨Nat.le_refl _, Nat.le_refl _⟩
  | d + 1, s, hd => by
    have a := ev_chain h d s (by omega)
    have b := h (s + d) (by omega)
    rw [show s + (d + 1) = s + d + 1 from rfl]
    omega
/-- behind an act that stands: x is kept, y is there -/
def kup (kept : Nat) : Nat := if kept < 30 then kept + 1 else 30
def sg (kept t : Nat) : Nat := if kept < 30 then t else t + 1
def push (H : Nat → XS) (kept : Nat) (y : XS) : Nat → XS := fun t => if t = kup kept then y else H (sg kept t)
def logp (L : Nat → Nat → Int32) (e : Nat) (y : XS) : Nat → Nat → Int32 := fun m => if m = e ∧ e < ev y then lg y m else L m
theorem push_top (H : Nat → XS) (kept : Nat) (y : XS) : push H kept y (kup kept) = y := if_pos rfl
theorem push_low (H : Nat → XS) {kept : Nat} (y : XS) {t : Nat} (ht : t < kup kept) : push H kept y t = H (sg kept t) := if_neg (by omega)
theorem sg_le {kept t : Nat} (hk : kept ≤ 30) (ht : t < kup kept) : sg kept t ≤ kept := by unfold kup at ht; unfold sg; split <;> (split at ht <;> omega)
theorem sg_top {kept t : Nat} (hk : kept ≤ 30) (ht : t + 1 = kup kept) : sg kept t = kept := by unfold kup at ht; unfold sg; split <;> (split at ht <;> omega)
theorem sg_lt {kept t : Nat} (hk : kept ≤ 30) (ht : t + 1 < kup kept) : sg kept t < kept := by unfold kup at ht; unfold sg; split <;> (split at ht <;> omega)
theorem sg_succ (kept t : Nat) : sg kept (t + 1) = sg kept t + 1 := by unfold sg; split <;> rfl
theorem AG_push {w n B : Nat} {H : Nat → XS} {kept : Nat} {L : Nat → Nat → Int32} {ac : Int32} (h : AG w n B H kept L ac) {y : XS} (hy : INV w n (B + 1) y) (hl : LG (H kept) y) (h14 : ∀ i, i < 6 → fd y 14 i = fd (H kept) 14 i) : AG w n (B + 1) (push H kept y) (kup kept) (logp L (ev (H kept)) y) 1 := by
  obtain ⟨h3, h2, h6, hB, hk, hI, hc, hL, hp, hac, h0⟩ := h
  have mono : ∀ t, t ≤ kept → INV w n (B + 1) (H t) := fun t ht => by
    have := hI t ht
    exact ⟨NB_mono this.1 (Nat.le_succ B), this.2⟩
  have hkup : kup kept ≤ 30 := by unfold kup; split <;> omega
  have elast : ev (H kept) ≤ ev y ∧ ev y ≤ ev (H kept) + 1 := by rcases hl with ⟨e, -⟩ | ⟨-, e, -⟩ <;> omega
  refine ⟨h3, h2, h6, by omega, hkup, fun t ht => ?_, fun t ht => ?_, fun t ht m hm => ?_, fun t ht i hi => ?_, Or.inr rfl, fun q => by cases q⟩
  · by_cases e : t = kup kept
    · rw [e, push_top]; exact hy
    · rw [push_low H y (by omega)]; exact mono _ (sg_le hk (by omega))
  · rw [push_low H y ht]
    by_cases e : t + 1 = kup kept
    · rw [e, push_top, sg_top hk e]; exact elast
    · rw [push_low H y (show t + 1 < kup kept by omega), sg_succ]
      exact hc _ (sg_lt hk (by omega))
  · unfold logp
    by_cases e : t = kup kept
    · rw [e, push_top] at hm ⊢
      rcases hl with ⟨e1, e2⟩ | ⟨-, e1, e2⟩
      · rw [if_neg (by omega), e2]; exact hL kept (Nat.le_refl _) m (by omega)
      · by_cases em : m = ev (H kept)
        · rw [if_pos ⟨em, by omega⟩]
        · rw [if_neg (fun q => em q.1), e2 m em]; exact hL kept (Nat.le_refl _) m (by omega)
    · have hs := sg_le hk (show t < kup kept by omega)
      rw [push_low H y (by omega)] at hm ⊢
      have := ev_chain hc (kept - sg kept t) (sg kept t) (by omega)
      rw [show sg kept t + (kept - sg kept t) = kept from by omega] at this
      rw [if_neg (show ¬ (m = ev (H kept) ∧ ev (H kept) < ev y) by omega)]
      exact hL _ hs m hm
  · rw [push_top, h14 i hi]
    by_cases e : t = kup kept
    · rw [e, push_top, h14 i hi]
    · rw [push_low H y (by omega)]; exact hp _ (sg_le hk (by omega)) i hi
theorem C_mark {u : Wo} {p : Nat} (hp : p < 31) (h : u 4 2 = nI p) : fX1_mark u = some (0, wcp u 6 0 8 (p * 618) 618) := by
  unfold fX1_mark fX3_copyTo_8
  rw [h, n618, nI_mul, if_neg (nI_pos (by omega)), if_neg (nI_pos (by omega)), if_neg (nI_nlt (Nat.le_refl _) (by omega)), n19158, nI_sub (by omega), if_neg (nI_nlt (by omega) (by omega))]
  have hc : cpo (0 : Int32) (nI (p * 618)) (nI 618) 618 19158 = true := by
    simp only [cpo, Bool.and_eq_true, decide_eq_true_eq]
    exact ⟨by decide, nI_pos (by omega), nI_pos (by omega), by rw [nI_clamp (by omega)]; decide, by rw [nI_clamp (by omega), nI_clamp (by omega)]; omega⟩
  rw [gi_eq hc, bw_eq, nI_clamp (by omega), nI_clamp (by omega)]
  rfl
theorem C_back {u : Wo} {p : Nat} (hp : p < 31) (h : u 4 2 = nI p) : fX1_backToMark u = some (0, wcp u 8 (p * 618) 6 0 618) := by
  unfold fX1_backToMark fX3_copyFrom_8
  rw [h, n618, nI_mul, if_neg (nI_pos (by omega)), if_neg (nI_pos (by omega)), if_neg (nI_nlt (Nat.le_refl _) (by omega)), n19158, nI_sub (by omega), if_neg (nI_nlt (by omega) (by omega))]
  have hc : cpo (nI (p * 618)) (0 : Int32) (nI 618) 19158 618 = true := by
    simp only [cpo, Bool.and_eq_true, decide_eq_true_eq]
    exact ⟨nI_pos (by omega), by decide, nI_pos (by omega), by rw [nI_clamp (by omega), nI_clamp (by omega)]; omega, by rw [nI_clamp (by omega)]; decide⟩
  rw [gi_eq hc, bw_eq, nI_clamp (by omega), nI_clamp (by omega)]
  rfl
theorem C_keep {u : Wo} {p kept : Nat} (hp : p < 31) (hk : kept ≤ 30) (h : u 4 2 = nI p) (h2 : u 4 3 = nI kept) : fX1_keepMark u = some (0, wr (wr u 4 2 (nI ((p + 1) % 31))) 4 3 (nI (kup kept))) := by
  unfold fX1_keepMark
  rw [h, n1, nI_add, n31, pk_rem (by omega) (by omega) (by omega), bw_eq, bw_eq]
  have e : (wr u 4 2 (nI ((p + 1) % 31))) 4 3 = nI kept := by rw [wr_same, upd_ne _ _ (by decide), h2]
  rw [e, nI_add]
  have e2 : (if (30 : Int32) < nI (kept + 1) then (30 : Int32) else nI (kept + 1)) = nI (kup kept) := by
    unfold kup
    by_cases q : kept < 30
    · rw [if_neg (show ¬ (30 : Int32) < nI (kept + 1) from nI_nlt (a := 30) (by omega) (by decide)), if_pos q]
    · rw [if_pos (show (30 : Int32) < nI (kept + 1) from nI_lt (a := 30) (by omega) (by omega)), if_neg q]; rfl
  rw [e2]
theorem AG_chain0 {w n B : Nat} {H : Nat → XS} {kept : Nat} {L : Nat → Nat → Int32} {ac : Int32} (h : AG w n B H kept L ac) {y : XS} (hl : LG (H kept) y) : ev (H 0) ≤ ev (push H kept y 0) ∧ ev y ≤ ev (push H kept y 0) + 30 := by
  obtain ⟨h3, h2, h6, hB, hk, hI, hc, hL, hp, hac, h0⟩ := h
  have elast : ev (H kept) ≤ ev y ∧ ev y ≤ ev (H kept) + 1 := by rcases hl with ⟨e, -⟩ | ⟨-, e, -⟩ <;> omega
  have k0 : 0 < kup kept := by unfold kup; split <;> omega
  rw [push_low H y k0]
  have s0 := sg_le hk k0
  have a := ev_chain hc (sg kept 0) 0 (by omega)
  have b := ev_chain hc (kept - sg kept 0) (sg kept 0) (by omega)
  rw [Nat.zero_add] at a
  rw [show sg kept 0 + (kept - sg kept 0) = kept from by omega] at b
  have : kept - sg kept 0 ≤ 29 := by unfold sg; split <;> omega
  omega
theorem CG_act {w n B : Nat} {H : Nat → XS} {kept : Nat} {L : Nat → Nat → Int32} {ac : Int32} {u : Wo} (ha : AG w n B H kept L ac) (h : CG w n H kept L ac u) (F : Wo → Re) (y : XS)
    (hF : ∀ u1 : Wo, ∀ o : Nat, o ≤ 1 → u1 3 2 = 1 → RC u1 w n (ev (H 0) - 60) (fs (H kept) 13 0 o) u1 → Gd (F u1) (fun _ u2 => RC u1 w n (ev (H 0) - 60) y u2)) (hl : LG (H kept) y) (ho : fd y 13 0 ≤ 1) :
    ∃ u1 r2 u2 u3, fX1_mark u = some (0, u1) ∧ F u1 = some (r2, u2) ∧ (∀ c, c ≠ 1 → c ≠ 6 → c ≠ 7 → c ≠ 8 → u2 c = u c) ∧ u1 6 = u 6 ∧ RC u1 w n (ev (H 0) - 60) y u2 ∧ u1 3 2 = 1 ∧ fX5_settled u2 = some (if fd y 13 0 = 0 then 1 else 0, u3) ∧ (∀ c, c ≠ 0 → c ≠ 1 → c ≠ 4 → c ≠ 6 → c ≠ 7 → c ≠ 8 → u3 c = u c) ∧ (∀ k, k ≠ 7 → u3 0 k = u 0 k) ∧
      (fd y 13 0 = 0 → CG w n (push H kept y) (kup kept) (logp L (ev (H kept)) y) 1 u3 ∧ u3 6 = u2 6) ∧ (fd y 13 0 = 1 → CG w n H kept L ac u3) := by
  obtain ⟨h1, h2, ⟨o, ho1, h3⟩, h4, h5, h6, h7, h8, h9, p, hp, h10, h11⟩ := h
  have ha' := ha
  obtain ⟨g3, g2, g6, gB, hk, hI, hc, hL, hp14, hac, h0⟩ := ha
  have hm := C_mark hp h10
  have R1 : RC (wcp u 6 0 8 (p * 618) 618) w n (ev (H 0) - 60) (fs (H kept) 13 0 o) (wcp u 6 0 8 (p * 618) 618) := by
    refine ⟨fun _ _ _ _ => rfl, by rw [wcp_ne _ (by decide)]; exact h1, by rw [wcp_ne _ (by decide)]; exact h2, by rw [wcp_ne _ (by decide), fd_fs, if_pos ⟨rfl, rfl⟩]; exact h3, by rw [wcp_ne _ (by decide)]; exact CC_free h5 rfl (by decide), fun _ => ?_, fun _ => rfl⟩
    unfold CB
    rw [wcp_ne _ (by decide), wcp_ne _ (by decide)]
    refine ⟨h6.1, h6.2.1, h6.2.2, fun m m1 m2 m3 z hz => ?_⟩
    show u 7 (m % 90 * 3 + z) = lg (H kept) m z
    have m3 : m < ev (H kept) := m3
    rw [h7 m m1 m3 z hz, hL kept (Nat.le_refl _) m m3]
  have hU : (wcp u 6 0 8 (p * 618) 618) 3 2 = 1 := by rw [wcp_ne _ (by decide)]; exact h4
  obtain ⟨r2, u2, e2, R2⟩ := hF _ o ho1 hU R1
  have R2' := R2
  obtain ⟨q1, q2, q3, q4, q5, q6, q7⟩ := R2
  have q6 := q6 hU
  have frame : ∀ c, c ≠ 1 → c ≠ 6 → c ≠ 7 → c ≠ 8 → u2 c = u c := fun c c1 c6 c7 c8 => by rw [q1 c c1 c6 c7, wcp_ne _ c8]
  have e8 : u2 8 = va_cpy (u 6) (u 8) 0 (p * 618) 618 := by rw [q1 8 (by decide) (by decide) (by decide), wcp_same]
  have e42 : u2 4 2 = nI p := by rw [frame 4 (by decide) (by decide) (by decide) (by decide)]; exact h10
  have e43 : u2 4 3 = nI kept := by rw [frame 4 (by decide) (by decide) (by decide) (by decide)]; exact h9
  have rp : ∀ k, k < 618 → u2 8 (p * 618 + k) = u 6 k := fun k hk => by
    rw [e8, cpy_in (by omega) (by omega)]
    congr 1
    omega
  have ro : ∀ t, t < kept → ∀ k, k < 618 → u2 8 ((p + 31 - kept + t) % 31 * 618 + k) = u 8 ((p + 31 - kept + t) % 31 * 618 + k) := fun t ht k hk2 => by
    rw [e8, cpy_out]
    omega
  have hch := ev_chain hc kept 0 (by omega)
  rw [Nat.zero_add] at hch
  rcases (show fd y 13 0 = 0 ∨ fd y 13 0 = 1 by omega) with ho0 | ho1
  · have es : fX5_settled u2 = some (1, wr (wr (wr u2 4 2 (nI ((p + 1) % 31))) 4 3 (nI (kup kept))) 0 7 1) := by
      unfold fX5_settled
      rw [q4, ho0, if_pos (show nI 0 = (0 : Int32) from rfl), bd_eq (C_keep hp hk e42 e43), bw_eq]
    refine ⟨_, r2, u2, _, hm, e2, frame, by rw [wcp_ne _ (by decide)], R2', hU, by rw [ho0, if_pos rfl]; exact es, fun c c0 c1 c4 c6 c7 c8 => ?_, fun k hk => ?_, fun _ => ⟨⟨?_, ?_, ⟨0, by omega, ?_⟩, ?_, ?_, ?_, ?_, ?_, ?_, (p + 1) % 31, Nat.mod_lt _ (by decide), ?_, fun t ht => ?_⟩, ?_⟩, fun q => by omega⟩
    · rw [wr_ne _ _ _ c0, wr_ne _ _ _ c4, wr_ne _ _ _ c4]; exact frame c c1 c6 c7 c8
    · rw [wr_same, upd_ne _ _ hk, wr_ne _ _ _ (by decide), wr_ne _ _ _ (by decide), frame 0 (by decide) (by decide) (by decide) (by decide)]
    · rw [wr_ne _ _ _ (by decide), wr_ne _ _ _ (by decide), wr_ne _ _ _ (by decide)]; exact q2
    · rw [wr_ne _ _ _ (by decide), wr_ne _ _ _ (by decide), wr_ne _ _ _ (by decide)]; exact q3
    · rw [wr_ne _ _ _ (by decide), wr_ne _ _ _ (by decide), wr_ne _ _ _ (by decide), q4, ho0]
    · rw [wr_ne _ _ _ (by decide), wr_ne _ _ _ (by decide), wr_ne _ _ _ (by decide), frame 3 (by decide) (by decide) (by decide) (by decide)]; exact h4
    · rw [push_top, wr_ne _ _ _ (by decide), wr_ne _ _ _ (by decide), wr_ne _ _ _ (by decide)]; exact q5
    · rw [push_top, wr_ne _ _ _ (by decide), wr_ne _ _ _ (by decide), wr_ne _ _ _ (by decide)]; exact ⟨q6.1, q6.2.1, q6.2.2.1⟩
    · rw [push_top, wr_ne _ _ _ (by decide), wr_ne _ _ _ (by decide), wr_ne _ _ _ (by decide)]
      have A := AG_chain0 ha' hl
      intro m m1 m2 z hz
      have hm1 : ev (H 0) - 60 ≤ m := by omega
      rw [q6.2.2.2 m hm1 (by omega) m2 z hz]
      unfold logp
      rcases hl with ⟨e1, e3⟩ | ⟨-, e1, e3⟩
      · rw [if_neg (by omega), e3, hL kept (Nat.le_refl _) m (by omega)]
      · by_cases em : m = ev (H kept)
        · rw [if_pos ⟨em, by omega⟩]
        · rw [if_neg (fun q => em q.1), e3 m em, hL kept (Nat.le_refl _) m (by omega)]
    · rw [wr_same, upd_same]
    · rw [wr_ne _ _ _ (by decide), wr_same, upd_same]
    · rw [wr_ne _ _ _ (by decide), wr_same, upd_ne _ _ (by decide), wr_same, upd_same]
    · rw [push_low H y ht, wr_ne _ _ _ (by decide), wr_ne _ _ _ (by decide), wr_ne _ _ _ (by decide)]
      have hs := sg_le hk ht
      by_cases es : sg kept t = kept
      · have ep : ((p + 1) % 31 + 31 - kup kept + t) % 31 = p := by
          unfold sg at es; unfold kup at ht ⊢
          split at es <;> (split at ht <;> (split <;> omega))
        rw [ep, es]
        exact ⟨CC_eq h5 (fun k hk => rp k (by omega)), CN_eq h6 (fun k _ hk => rp k hk)⟩
      · have ep : ((p + 1) % 31 + 31 - kup kept + t) % 31 = (p + 31 - kept + sg kept t) % 31 := by
          unfold sg at es ⊢; unfold kup at ht ⊢
          split at es <;> (split at ht <;> (split <;> (try split) <;> omega))
        rw [ep]
        have := h11 (sg kept t) (by omega)
        exact ⟨CC_eq this.1 (fun k hk => ro _ (by omega) k (by omega)), CN_eq this.2 (fun k _ hk => ro _ (by omega) k hk)⟩
    · rw [wr_ne _ _ _ (by decide), wr_ne _ _ _ (by decide), wr_ne _ _ _ (by decide)]
  · have es : fX5_settled u2 = some (0, wcp u2 8 (p * 618) 6 0 618) := by
      unfold fX5_settled
      rw [q4, ho1, if_neg (show ¬ nI 1 = (0 : Int32) from by decide), bd_eq (C_back hp e42)]
    have r6 : ∀ k, k < 618 → (wcp u2 8 (p * 618) 6 0 618) 6 k = u 6 k := fun k hk => by
      rw [wcp_same, cpy_in (Nat.zero_le _) (by omega), Nat.sub_zero]; exact rp k hk
    refine ⟨_, r2, u2, _, hm, e2, frame, by rw [wcp_ne _ (by decide)], R2', hU, by rw [ho1, if_neg (by decide)]; exact es, fun c c0 c1 c4 c6 c7 c8 => ?_, fun k hk => ?_, fun q => by omega, fun _ => ⟨?_, ?_, ⟨1, by omega, ?_⟩, ?_, ?_, ?_, ?_, ?_, ?_, p, hp, ?_, fun t ht => ?_⟩⟩
    · rw [wcp_ne _ c6]; exact frame c c1 c6 c7 c8
    · rw [wcp_ne _ (by decide), frame 0 (by decide) (by decide) (by decide) (by decide)]
    · rw [wcp_ne _ (by decide)]; exact q2
    · rw [wcp_ne _ (by decide)]; exact q3
    · rw [wcp_ne _ (by decide), q4, ho1]
    · rw [wcp_ne _ (by decide), frame 3 (by decide) (by decide) (by decide) (by decide)]; exact h4
    · exact CC_eq h5 (fun k hk => r6 k (by omega))
    · exact CN_eq h6 (fun k _ hk => r6 k hk)
    · rw [wcp_ne _ (by decide)]
      intro m m1 m2 z hz
      rcases hl with ⟨e1, e3⟩ | ⟨q, -, -⟩
      · rw [q6.2.2.2 m m1 (by omega) (by omega) z hz, e3, hL kept (Nat.le_refl _) m m2]
      · omega
    · rw [wcp_ne _ (by decide), frame 0 (by decide) (by decide) (by decide) (by decide)]; exact h8
    · rw [wcp_ne _ (by decide)]; exact e43
    · rw [wcp_ne _ (by decide)]; exact e42
    · rw [wcp_ne _ (by decide)]
      have := h11 t ht
      exact ⟨CC_eq this.1 (fun k hk => ro t ht k (by omega)), CN_eq this.2 (fun k _ hk => ro t ht k hk)⟩
