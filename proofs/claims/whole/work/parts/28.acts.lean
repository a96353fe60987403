-- both sides together: wants, leaves, comings
theorem fs_back {x : XS} {f i o z : Nat} (h : fd x f i = z) : fs (fs x f i o) f i z = x := by
  have : (fun g j => if g = f ∧ j = i then z else fd (fs x f i o) g j) = fd x := by
    funext g j
    by_cases e : g = f ∧ j = i
    · rw [if_pos e, e.1, e.2, h]
    · rw [if_neg e, fd_fs, if_neg e]
  show ((_, _), _) = x
  rw [this]
  rfl
theorem OV_snd {x : XS} (h : fd x 13 0 ≤ 1) (i j kd nm : Nat) : fd (snd x i j kd nm) 13 0 ≤ 1 := (ov_snd h).1
theorem OV_fs {x : XS} (h : fd x 13 0 ≤ 1) {f : Nat} (i v : Nat) (hf : f ≠ 13) : fd (fs x f i v) 13 0 ≤ 1 := by rw [fd_fs, if_neg (by omega)]; exact h
theorem OV_ent {x : XS} (h : fd x 13 0 ≤ 1) (i : Nat) : fd (ent x i) 13 0 ≤ 1 := by rw [fd_ent, if_neg (by omega)]; exact h
theorem OV_sno {x : XS} (h : fd x 13 0 ≤ 1) (i kd nm : Nat) : ∀ j, fd (sno x i kd nm j) 13 0 ≤ 1
  | 0 => h
  | j + 1 => by
    unfold sno
    split
    · exact OV_sno h i kd nm j
    · exact OV_snd (OV_sno h i kd nm j) _ _ _ _
theorem OV_gvo {x : XS} (h : fd x 13 0 ≤ 1) (m i : Nat) : ∀ j, fd (gvo m x i j) 13 0 ≤ 1
  | 0 => h
  | j + 1 => by
    unfold gvo
    split
    · exact OV_snd (OV_gvo h m i j) _ _ _ _
    · exact OV_gvo h m i j
theorem f14_ru1 (x : XS) (i k : Nat) : fd (ru1 x i) 14 k = fd x 14 k := by
  by_cases hc : fd x 5 i = i ∧ fd x 0 i ≠ 2
  · cases hl : qu x i with
    | nil => rw [ru1_nil hl]
    | cons f t =>
      rw [ru1_cons hl hc.1 hc.2]
      split
      · rw [fd_ent, if_neg (by omega), fd_fs, if_neg (by omega), fd_fs, if_neg (by omega)]; rfl
      · rw [fd_snd _ _ _ _ _ _ (by decide), fd_fs, if_neg (by omega), fd_fs, if_neg (by omega)]; rfl
  · rw [ru1_no hc]
theorem f14_ru2 (x : XS) (i k : Nat) : fd (ru2 x i) 14 k = fd x 14 k := by
  unfold ru2
  split
  · rw [fd_fs, if_neg (by omega), fd_snd _ _ _ _ _ _ (by decide)]
  · rfl
theorem f14_rul (x : XS) (i k : Nat) : fd (rul x i) 14 k = fd x 14 k := (f14_ru2 _ i k).trans (f14_ru1 x i k)
theorem OV_rul {x : XS} (h : fd x 13 0 ≤ 1) (i : Nat) : fd (rul x i) 13 0 ≤ 1 := by
  have h1 : fd (ru1 x i) 13 0 ≤ 1 := by
    by_cases hc : fd x 5 i = i ∧ fd x 0 i ≠ 2
    · cases hl : qu x i with
      | nil => rw [ru1_nil hl]; exact h
      | cons f t =>
        rw [ru1_cons hl hc.1 hc.2]
        split
        · exact OV_ent (OV_fs (x := fs (qs x i t) 5 i f) (OV_fs (x := qs x i t) h _ _ (by decide)) _ _ (by decide)) _
        · exact OV_snd (x := fs (fs (qs x i t) 5 i f) 6 i 0) (OV_fs (x := fs (qs x i t) 5 i f) (OV_fs (x := qs x i t) h _ _ (by decide)) _ _ (by decide)) _ _ _ _
    · rw [ru1_no hc]; exact h
  unfold rul ru2
  split
  · exact OV_fs (OV_snd h1 _ _ _ _) _ _ (by decide)
  · exact h1
theorem wan_14 (w n : Nat) {x : XS} {i : Nat} (hi : i < 6) (h : fd x 13 0 = 0) : fd (wan w n x i) 13 0 ≤ 1 ∧ ∀ k, fd (wan w n x i) 14 k = fd x 14 k := by
  have h0 : fd (bs (fs x 0 i 1) (1 + i) (nI (ev x))) 13 0 ≤ 1 := OV_fs (by omega) _ _ (by decide)
  have h1 : ∀ k, fd (bs (fs x 0 i 1) (1 + i) (nI (ev x))) 14 k = fd x 14 k := fun k => by rw [fd_bs, fd_fs, if_neg (by omega)]
  unfold wan
  split
  · refine ⟨OV_sno (OV_fs (OV_fs (OV_fs (OV_fs h0 _ _ (by decide)) _ _ (by decide)) _ _ (by decide)) _ _ (by decide)) _ _ _ n, fun k => ?_⟩
    rw [fd_sno _ _ _ _ _ (by decide), fd_fs, if_neg (by omega), fd_fs, if_neg (by omega), fd_fs, if_neg (by omega), fd_fs, if_neg (by omega)]
    exact h1 k
  · split
    · split
      · exact ⟨OV_ent h0 i, fun k => by rw [fd_ent, if_neg (by omega)]; exact h1 k⟩
      · refine ⟨OV_sno (OV_fs h0 _ _ (by omega)) _ _ _ n, fun k => ?_⟩
        rw [fd_sno _ _ _ _ _ (by decide), fd_fs, if_neg (by omega)]
        exact h1 k
    · exact ⟨OV_rul (x := qs (bs (fs x 0 i 1) (1 + i) (nI (ev x))) i (qu x i ++ [i])) h0 i, fun k => by rw [f14_rul]; exact h1 k⟩
theorem lef_14 (w n : Nat) {x : XS} {i : Nat} (h : fd x 13 0 = 0) : fd (lef w n x i) 13 0 ≤ 1 ∧ ∀ k, fd (lef w n x i) 14 k = fd x 14 k := by
  have h0 : fd (fs x 0 i 0) 13 0 ≤ 1 := OV_fs (by omega) _ _ (by decide)
  have h1 : ∀ k, fd (fs x 0 i 0) 14 k = fd x 14 k := fun k => by rw [fd_fs, if_neg (by omega)]
  unfold lef
  split
  · refine ⟨OV_gvo (OV_fs h0 _ _ (by decide)) _ _ n, fun k => ?_⟩
    rw [fd_gvo _ _ _ _ (by decide), fd_fs, if_neg (by omega)]
    exact h1 k
  · split
    · have hf := fd_rwo (fs (fs x 0 i 0) 9 i (fd x (20 + i) i)) i n
      have o1 : fd (rwo (fs (fs x 0 i 0) 9 i (fd x (20 + i) i)) i n) 13 0 ≤ 1 := by rw [hf]; exact OV_fs h0 _ _ (by decide)
      have o2 : ∀ k, fd (rwo (fs (fs x 0 i 0) 9 i (fd x (20 + i) i)) i n) 14 k = fd x 14 k := fun k => by rw [hf, fd_fs, if_neg (by omega)]; exact h1 k
      unfold pafi
      split
      · exact ⟨o1, o2⟩
      · rename_i f t _
        unfold pas
        exact ⟨OV_snd (x := fs (qs (rwo (fs (fs x 0 i 0) 9 i (fd x (20 + i) i)) i n) 6 t) 5 6 6) (OV_fs (x := qs (rwo (fs (fs x 0 i 0) 9 i (fd x (20 + i) i)) i n) 6 t) o1 _ _ (by decide)) _ _ _ _, fun k => by rw [fd_snd _ _ _ _ _ _ (by decide), fd_fs, if_neg (by omega)]; exact o2 k⟩
    · exact ⟨OV_rul h0 i, fun k => by rw [f14_rul]; exact h1 k⟩
theorem com_14 (w : Nat) {x : XS} {i j kd nm : Nat} {t : List (Nat × Nat)} (hj : j < 6) (hl : lt x (i * 6 + j) = (kd, nm) :: t) (h : fd x 13 0 = 0) : fd (com w x i j) 13 0 ≤ 1 ∧ ∀ k, fd (com w x i j) 14 k = fd x 14 k := by
  have h0 : fd (ls x (i * 6 + j) t) 13 0 ≤ 1 := by rw [fd_ls]; omega
  rw [com_cons hl]
  split
  · split
    · unfold aba
      split
      · exact ⟨OV_fs (OV_fs h0 _ _ (by decide)) _ _ (by decide), fun k => by rw [fd_fs, if_neg (by omega), fd_fs, if_neg (by omega)]; rfl⟩
      · exact ⟨OV_snd (OV_fs h0 _ _ (by decide)) _ _ _ _, fun k => by rw [fd_snd _ _ _ _ _ _ (by decide), fd_fs, if_neg (by omega)]; rfl⟩
    · split
      · exact ⟨OV_ent (OV_fs (OV_fs h0 _ _ (by decide)) _ _ (by decide)) _, fun k => by rw [fd_ent, if_neg (by omega), fd_fs, if_neg (by omega), fd_fs, if_neg (by omega)]; rfl⟩
      · exact ⟨OV_fs (OV_fs h0 _ _ (by decide)) _ _ (by decide), fun k => by rw [fd_fs, if_neg (by omega), fd_fs, if_neg (by omega)]; rfl⟩
  · split
    · split
      · split
        · unfold pas
          exact ⟨OV_snd (OV_fs (OV_fs h0 _ _ (by omega)) _ _ (by decide)) _ _ _ _, fun k => by rw [fd_snd _ _ _ _ _ _ (by decide), fd_fs, if_neg (by omega), fd_fs, if_neg (by omega)]; rfl⟩
        · exact ⟨OV_fs h0 _ _ (by omega), fun k => by rw [fd_fs, if_neg (by omega)]; rfl⟩
      · exact ⟨OV_ent (OV_fs h0 _ _ (by decide)) _, fun k => by rw [fd_ent, if_neg (by omega), fd_fs, if_neg (by omega)]; rfl⟩
    · split
      · exact ⟨OV_rul (x := qs (ls x (i * 6 + j) t) j (qu x j ++ [i])) h0 _, fun k => by rw [f14_rul]; rfl⟩
      · exact ⟨OV_rul (OV_fs h0 _ _ (by decide)) _, fun k => by rw [f14_rul, fd_fs, if_neg (by omega)]; rfl⟩
/-- both sides hold the same -/
def GG (B : Nat) (u v : Wo) : Prop := ∃ w n H kept L ac, AG w n B H kept L ac ∧ CG w n H kept L ac u ∧ MG w n H kept ac v ∧ u 0 5 = v 0 8 ∧ (∃ b, b ≤ 10 ∧ u 0 5 = nI b) ∧ u 0 6 = v 0 9 ∧ (∃ p, p ≤ 15 ∧ u 0 6 = nI p) ∧ ∀ k, k < 7 → u 13 k = v 8 k
/-- both sides answer alike and hold the same again -/
def RS (B : Nat) (X Y : Re) : Prop := ∃ r u v, X = some (r, u) ∧ Y = some (r, v) ∧ GG B u v
theorem AG_mono {w n B C : Nat} {H : Nat → XS} {kept : Nat} {L : Nat → Nat → Int32} {ac : Int32} (h : AG w n B H kept L ac) (hc : B ≤ C) : AG w n C H kept L ac := by
  obtain ⟨h3, h2, h6, hB, hk, hI, rest⟩ := h
  exact ⟨h3, h2, h6, by omega, hk, fun t ht => ⟨NB_mono (hI t ht).1 hc, (hI t ht).2⟩, rest⟩
theorem GG_mono {B C : Nat} {u v : Wo} (h : GG B u v) (hc : B ≤ C) : GG C u v := by
  obtain ⟨w, n, H, kept, L, ac, a, rest⟩ := h
  exact ⟨w, n, H, kept, L, ac, AG_mono a hc, rest⟩
theorem RS_stay {B C : Nat} {u v : Wo} {X Y : Re} {r : Int32} (h : GG B u v) (hc : B ≤ C) (hX : X = some (r, u)) (hY : Y = some (r, v)) : RS C X Y := ⟨r, u, v, hX, hY, GG_mono h hc⟩
theorem isk {n : Nat} (hn : 1 ≤ n ∧ n ≤ 6) (x : Int32) {u v : Wo} (hu : u 1 2 = nI n) (hv : v 0 1 = nI n) : (∃ i, i < n ∧ x = nI i ∧ fX3_isKeeper x u = some (1, u) ∧ fX6_isKeeper x v = some (1, v)) ∨ ((∀ i, i < n → x ≠ nI i) ∧ fX3_isKeeper x u = some (0, u) ∧ fX6_isKeeper x v = some (0, v)) := by
  by_cases h0 : x < 0
  · right
    refine ⟨fun i hi q => ?_, ?_, ?_⟩
    · rw [q] at h0; exact nI_pos (by omega) h0
    · unfold fX3_isKeeper
      rw [if_pos h0]
      rfl
    · unfold fX6_isKeeper fX6_in
      rw [if_pos h0]
      rfl
  · obtain ⟨j, hj, rfl⟩ := nI_of h0
    by_cases hjn : j < n
    · left
      refine ⟨j, hjn, rfl, ?_, ?_⟩
      · unfold fX3_isKeeper
        rw [if_neg h0, hu, if_neg (nI_ge hjn (by omega))]
        rfl
      · unfold fX6_isKeeper fX6_in
        rw [if_neg h0, hv, n1, nI_sub hn.1, if_neg (nI_nlt (by omega) (by omega))]
        rfl
    · right
      refine ⟨fun i hi q => hjn (by have := nI_inj hj (by omega) q; omega), ?_, ?_⟩
      · unfold fX3_isKeeper
        rw [if_neg h0, hu, if_pos (nI_le (by omega) hj)]
        rfl
      · unfold fX6_isKeeper fX6_in
        rw [if_neg h0, hv, n1, nI_sub hn.1, if_pos (nI_lt (by omega) hj)]
        rfl
theorem CG_rd {w n : Nat} {H : Nat → XS} {kept : Nat} {L : Nat → Nat → Int32} {ac : Int32} {u : Wo} (h : CG w n H kept L ac u) {f i : Nat} (hf : okC f = true) (hi : i < 6) : fX3_of (nI i) (nI (lC f)) u = some (nI (fd (H kept) f i), u) := by
  have hl := lC_low f (okC_lt hf) hf
  rw [C_of u (by omega), h.2.2.2.2.1.1 f i hf hi]
theorem CG_mode {w n : Nat} {H : Nat → XS} {kept : Nat} {L : Nat → Nat → Int32} {ac : Int32} {u : Wo} (h : CG w n H kept L ac u) {i : Nat} (hi : i < 6) : fX3_of (nI i) (0 : Int32) u = some (nI (fd (H kept) 0 i), u) := CG_rd h (f := 0) rfl hi
theorem MG_mode {w n : Nat} {H : Nat → XS} {kept : Nat} {ac : Int32} {v : Wo} (h : MG w n H kept ac v) {i : Nat} (hi : i < 6) : v 2 (21 * i) = nI (fd (H kept) 0 i) := h.2.2.2.1.1 0 i rfl hi
/-- an act of both sides -/
theorem act2 {w n B : Nat} {H : Nat → XS} {kept : Nat} {L : Nat → Nat → Int32} {ac : Int32} {u v : Wo} (ha : AG w n B H kept L ac) (hc : CG w n H kept L ac u) (hm : MG w n H kept ac v) (h5 : u 0 5 = v 0 8) (hb : ∃ b, b ≤ 10 ∧ u 0 5 = nI b) (h6 : u 0 6 = v 0 9) (hp : ∃ p, p ≤ 15 ∧ u 0 6 = nI p) (ht : ∀ k, k < 7 → u 13 k = v 8 k)
    (F G : Wo → Re) (y : XS) (P : Int32 → Prop) (hF : ∀ u1 : Wo, ∀ o : Nat, o ≤ 1 → u1 3 2 = 1 → RC u1 w n (ev (H 0) - 60) (fs (H kept) 13 0 o) u1 → Gd (F u1) (fun _ u2 => RC u1 w n (ev (H 0) - 60) y u2)) (hG : ∀ v1 : Wo, v1 0 6 = 1 → RM v1 w n (H kept) v1 → Gd (G v1) (fun r v2 => P r ∧ RM v1 w n y v2))
    (hl : LG (H kept) y) (ho : fd y 13 0 ≤ 1) (h14 : ∀ k, fd y 14 k = fd (H kept) 14 k) (hy : fd y 13 0 = 0 → INV w n (B + 1) y) :
    ∃ u1 r2 u2 u3 v1 r3 v2 v3, fX1_mark u = some (0, u1) ∧ F u1 = some (r2, u2) ∧ fX5_settled u2 = some (if fd y 13 0 = 0 then 1 else 0, u3) ∧ fX6_store v = some (0, v1) ∧ v1 3 = v 3 ∧ G v1 = some (r3, v2) ∧ P r3 ∧ fX6_stands v2 = some (if fd y 13 0 = 0 then 1 else 0, v3) ∧ GG (B + 1) u3 v3 ∧
      (fd y 13 0 = 0 → (∀ i, i < 6 → fX3_of (nI i) (0 : Int32) u3 = some (nI (fd y 0 i), u3) ∧ v3 2 (21 * i) = nI (fd y 0 i)) ∧ ∀ k, k < 3 → u3 6 (608 + k) = v3 3 (7 + k)) := by
  obtain ⟨u1, r2, u2, u3, a1, a2, a3, a4, a5, a6, a7, a8, a9, a10, a11⟩ := CG_act ha hc F y hF hl ho
  obtain ⟨v1, r3, v2, v3, b1, b2, b3, b4, b5, b6, b7, b8, b9, b10, b11, b12⟩ := MG_act ha hm G y P hG ho (fun i _ => h14 i)
  have x5 : u3 0 5 = v3 0 8 := by rw [a9 5 (by decide), b10 8 (by decide) (by decide) (by decide)]; exact h5
  have x6 : u3 0 6 = v3 0 9 := by rw [a9 6 (by decide), b10 9 (by decide) (by decide) (by decide)]; exact h6
  have xb : ∃ b, b ≤ 10 ∧ u3 0 5 = nI b := by rw [a9 5 (by decide)]; exact hb
  have xp : ∃ p, p ≤ 15 ∧ u3 0 6 = nI p := by rw [a9 6 (by decide)]; exact hp
  have xt : ∀ k, k < 7 → u3 13 k = v3 8 k := fun k hk => by rw [a8 13 (by decide) (by decide) (by decide) (by decide) (by decide) (by decide), b9 8 (by decide) (by decide) (by decide) (by decide) (by decide)]; exact ht k hk
  refine ⟨u1, r2, u2, u3, v1, r3, v2, v3, a1, a2, a7, b1, b5, b2, b3, b8, ?_, fun h0 => ?_⟩
  · rcases (show fd y 13 0 = 0 ∨ fd y 13 0 = 1 by omega) with h0 | h1
    · exact ⟨w, n, _, _, _, _, AG_push ha (hy h0) hl (fun i _ => h14 i), (a10 h0).1, (b11 h0).1, x5, xb, x6, xp, xt⟩
    · exact ⟨w, n, _, _, _, _, AG_mono ha (Nat.le_succ B), a11 h1, b12 h1, x5, xb, x6, xp, xt⟩
  · have c := (a10 h0).1
    have m := (b11 h0).1
    refine ⟨fun i hi => ⟨?_, ?_⟩, fun k hk => ?_⟩
    · have := CG_mode c hi; rw [push_top] at this; exact this
    · have := MG_mode m hi; rw [push_top] at this; exact this
    · have e1 := c.2.2.2.2.2.1.1 k hk
      have e2 := m.2.2.2.2.1.2.1 (7 + k) (by omega) (by omega)
      rw [e1, e2]
theorem WF_over {x : XS} (h : WF x) {o : Nat} (ho : o ≤ 1) : WF (fs x 13 0 o) := WF_fs h (by omega) (fun q => by omega) (fun q => by omega)
theorem op_want {B : Nat} {u v : Wo} (hB : B < 268435454) (h : GG B u v) (x1 : Int32) : RS (B + 1) (fX5_want x1 u) (fX6_want x1 v) := by
  have hG := h
  obtain ⟨w, n, H, kept, L, ac, ha, hc, hm, h5, hb, h6, hp, ht⟩ := h
  have ha' := ha
  obtain ⟨g3, g2, g6, gB, hk, hI, -⟩ := ha
  have inv := hI kept (Nat.le_refl _)
  have wf := INV_WF inv g6 (by omega)
  have ov := inv.2.2.2.2.2.2
  unfold fX5_want fX6_want
  rcases isk ⟨by omega, g6⟩ x1 hc.2.1 hm.2.1 with ⟨i, hi, rfl, k1, k2⟩ | ⟨-, k1, k2⟩
  · rw [bd_eq k1, bd_eq k2, if_neg (by decide), if_neg (by decide), bd_eq (CG_mode hc (by omega)), n21, nI_mul, show nI (21 * i) + (0 : Int32) = nI (21 * i) from by rw [n0, nI_add, Nat.add_zero], gi_eq (inb_nI (by omega) (by decide)), nI_clamp (by omega), MG_mode hm (by omega)]
    have b0 := wf.1 0 i
    by_cases e0 : fd (H kept) 0 i = 0
    · rw [e0, if_pos (show nI 0 = (0 : Int32) from rfl), if_pos (show nI 0 = (0 : Int32) from rfl)]
      have h14 := wan_14 w n (i := i) (by omega) ov
      have nq : w = 2 → (qu (H kept) i).length < 6 := fun q => by subst q; exact (need_wan inv g6 hi e0).2
      obtain ⟨u1, r2, u2, u3, v1, r3, v2, v3, c1, c2, c3, d1, -, d2, -, d3, gg, post⟩ := act2 ha' hc hm h5 hb h6 hp ht (fX4_wanted (nI i)) (fX6_wants (nI i)) (wan w n (H kept) i) (fun _ => True) (fun u1 o ho hU R => by
        have := C_wan R (WF_over wf ho) g3 g6 (i := i) (by omega) (Or.inr hU) nq
        rw [fs_back ov] at this
        exact this) (fun v1 hV R => gd_mono (M_wan R wf g3 g6 (by omega) (by omega) hV ov nq) (fun _ _ z => ⟨trivial, z⟩)) (LG_wan (by omega) ov) h14.1 h14.2 (fun q => inv_wan inv g3 g6 g2 gB hi e0 q)
      rw [bd_eq c1, bd_eq c2, bd_eq c3, bd_eq d1, bd_eq d2, bd_eq d3]
      rcases (show fd (wan w n (H kept) i) 13 0 = 0 ∨ fd (wan w n (H kept) i) 13 0 = 1 by omega) with q0 | q1
      · obtain ⟨p1, p2⟩ := post q0
        obtain ⟨p3, p4⟩ := p1 i (by omega)
        rw [if_pos q0, if_neg (by decide), if_neg (by decide), bd_eq p3, gi_eq (inb_nI (by omega) (by decide)), p4]
        by_cases e2 : nI (fd (wan w n (H kept) i) 0 i) = (2 : Int32)
        · rw [if_pos e2, if_pos e2]
          exact ⟨1, u3, v3, rfl, rfl, gg⟩
        · rw [if_neg e2, if_neg e2]
          exact ⟨0, u3, v3, rfl, rfl, gg⟩
      · rw [if_neg (show ¬ fd (wan w n (H kept) i) 13 0 = 0 by omega), if_pos rfl, if_pos rfl]
        exact ⟨-3, u3, v3, rfl, rfl, gg⟩
    · rw [if_neg (nI_ne0 (by omega) (by omega)), if_neg (nI_ne0 (by omega) (by omega))]
      exact RS_stay hG (Nat.le_succ B) rfl rfl
  · rw [bd_eq k1, bd_eq k2, if_pos rfl, if_pos rfl]
    exact RS_stay hG (Nat.le_succ B) rfl rfl
theorem sent_eq {w n : Nat} {H : Nat → XS} {kept : Nat} {L : Nat → Nat → Int32} {ac : Int32} {u v : Wo} (hc : CG w n H kept L ac u) (hm : MG w n H kept ac v) : ∀ k, k < 3 → u 6 (608 + k) = v 3 (7 + k) := fun k hk => by
  rw [hc.2.2.2.2.2.1.1 k hk, hm.2.2.2.2.1.2.1 (7 + k) (by omega) (by omega)]
theorem M_sent (v : Wo) : fX6_sent v = some (v 3 7 + v 3 8 + v 3 9, v) := by
  unfold fX6_sent
  rw [gi_eq (by decide), gi_eq (by decide), gi_eq (by decide)]
  rfl
theorem op_leave {B : Nat} {u v : Wo} (hB : B < 268435454) (h : GG B u v) (x1 : Int32) : RS (B + 1) (fX5_leave x1 u) (fX6_leave x1 v) := by
  have hG := h
  obtain ⟨w, n, H, kept, L, ac, ha, hc, hm, h5, hb, h6, hp, ht⟩ := h
  have ha' := ha
  obtain ⟨g3, g2, g6, gB, hk, hI, -⟩ := ha
  have inv := hI kept (Nat.le_refl _)
  have wf := INV_WF inv g6 (by omega)
  have ov := inv.2.2.2.2.2.2
  unfold fX5_leave fX6_leave
  rcases isk ⟨by omega, g6⟩ x1 hc.2.1 hm.2.1 with ⟨i, hi, rfl, k1, k2⟩ | ⟨-, k1, k2⟩
  · rw [bd_eq k1, bd_eq k2, if_neg (by decide), if_neg (by decide), bd_eq (CG_mode hc (by omega)), n21, nI_mul, show nI (21 * i) + (0 : Int32) = nI (21 * i) from by rw [n0, nI_add, Nat.add_zero], gi_eq (inb_nI (by omega) (by decide)), nI_clamp (by omega), MG_mode hm (by omega)]
    have b0 := wf.1 0 i
    by_cases e0 : fd (H kept) 0 i = 2
    · rw [e0, if_pos (show nI 2 = (2 : Int32) from rfl), if_pos (show nI 2 = (2 : Int32) from rfl)]
      have h14 := lef_14 w n (i := i) ov
      have hT : w = 1 → ∀ y, y = rwo (fs (fs (H kept) 0 i 0) 9 i (fd (H kept) (20 + i) i)) i → WF (y n) ∧ ∀ j, j < n → WF (y j) ∧ (¬ j ∈ qu (y j) 6 → (qu (y j) 6).length < 6) := fun q y hy => by
        subst q
        have := need_lef inv g6 (by omega) i y hy
        exact ⟨(this.1 n (Nat.le_refl _)).1, fun j hj => ⟨(this.1 j (by omega)).1, this.2 j hj⟩⟩
      obtain ⟨u1, r2, u2, u3, v1, r3, v2, v3, c1, c2, c3, d1, dx, d2, -, d3, gg, post⟩ := act2 ha' hc hm h5 hb h6 hp ht (fX4_left (nI i)) (fX6_leaves (nI i)) (lef w n (H kept) i) (fun _ => True) (fun u1 o ho hU R => by
        have hk20 : fd (fs (H kept) 13 0 o) (20 + i) i = fd (H kept) (20 + i) i := by rw [fd_fs, if_neg (by omega)]
        have := C_lef R (WF_over wf ho) g3 g6 (i := i) (by omega) (Or.inr hU) (by rw [fs_back ov, hk20]; exact hT)
        rw [fs_back ov] at this
        exact this) (fun v1 hV R => gd_mono (M_lef R wf g3 g6 (by omega) (Or.inr hV) hT) (fun _ _ z => ⟨trivial, z⟩)) (LG_lef (by omega) ov) h14.1 h14.2 (fun q => inv_lef inv g3 g6 gB (by omega) hi e0 q)
      rw [bd_eq (C_sentInAll u), bd_eq c1, bd_eq c2, bd_eq c3, bd_eq d1, bd_eq (M_sent v1), bd_eq d2, bd_eq d3]
      have se := sent_eq hc hm
      have e7 : u 6 608 + u 6 609 + u 6 610 = v1 3 7 + v1 3 8 + v1 3 9 := by rw [dx, ← se 0 (by decide), ← se 1 (by decide), ← se 2 (by decide)]
      rcases (show fd (lef w n (H kept) i) 13 0 = 0 ∨ fd (lef w n (H kept) i) 13 0 = 1 by have := h14.1; omega) with q0 | q1
      · obtain ⟨p1, p2⟩ := post q0
        rw [if_pos q0, if_neg (by decide), if_neg (by decide), bd_eq (C_sentInAll u3), bd_eq (M_sent v3)]
        have e8 : u3 6 608 + u3 6 609 + u3 6 610 = v3 3 7 + v3 3 8 + v3 3 9 := by rw [← p2 0 (by decide), ← p2 1 (by decide), ← p2 2 (by decide)]
        rw [e7, e8]
        exact ⟨_, u3, v3, rfl, rfl, gg⟩
      · rw [if_neg (show ¬ fd (lef w n (H kept) i) 13 0 = 0 by omega), if_pos rfl, if_pos rfl]
        exact ⟨-3, u3, v3, rfl, rfl, gg⟩
    · rw [if_neg (show ¬ nI (fd (H kept) 0 i) = (2 : Int32) from nI_ne (b := 2) (by omega) (by decide) e0), if_neg (show ¬ nI (fd (H kept) 0 i) = (2 : Int32) from nI_ne (b := 2) (by omega) (by decide) e0)]
      exact RS_stay hG (Nat.le_succ B) rfl rfl
  · rw [bd_eq k1, bd_eq k2, if_pos rfl, if_pos rfl]
    exact RS_stay hG (Nat.le_succ B) rfl rfl
/-- a letter comes, on both sides: the answers, alike -/
theorem op_bring {B : Nat} {u v : Wo} (hB : B < 268435454) {w n : Nat} {H : Nat → XS} {kept : Nat} {L : Nat → Nat → Int32} {ac : Int32} (ha : AG w n B H kept L ac) (hc : CG w n H kept L ac u) (hm : MG w n H kept ac v) (h5 : u 0 5 = v 0 8) (hb : ∃ b, b ≤ 10 ∧ u 0 5 = nI b) (h6 : u 0 6 = v 0 9) (hp : ∃ p, p ≤ 15 ∧ u 0 6 = nI p) (ht : ∀ k, k < 7 → u 13 k = v 8 k) {i j : Nat} (hi : i < n) (hj : j < n) (hl : lt (H kept) (i * 6 + j) ≠ []) :
    ∃ r u3 v3 v1 r3 v2, fX5_bring (nI i) (nI j) u = some (r, u3) ∧ fX6_store v = some (0, v1) ∧ fX6_comes (nI i) (nI j) v1 = some (r3, v2) ∧ (∃ z : Int32, fX6_stands v2 = some (z, v3) ∧ (z = 0 ∧ r = -3 ∨ ¬ z = 0 ∧ r = r3)) ∧ (r = -3 ∨ 0 ≤ r) ∧ GG (B + 1) u3 v3 := by
  have ha' := ha
  obtain ⟨g3, g2, g6, gB, hk, hI, -⟩ := ha
  have inv := hI kept (Nat.le_refl _)
  have wf := INV_WF inv g6 (by omega)
  have ov := inv.2.2.2.2.2.2
  obtain ⟨kd, nm, t, hl⟩ : ∃ kd nm t, lt (H kept) (i * 6 + j) = (kd, nm) :: t := by
    cases e : lt (H kept) (i * 6 + j) with
    | nil => exact (hl e).elim
    | cons a t => exact ⟨a.1, a.2, t, rfl⟩
  have hj6 : j < 6 := by omega
  have hmem : (kd, nm) ∈ lt (H kept) (i * 6 + j) := by rw [hl]; exact List.mem_cons_self
  have hk3 := inv.2.1.2.2.2.1 _ _ hmem
  have hnm : nm ≤ B := inv.1.2.1 _ _ hmem
  have hb1 : fd (H kept) 1 j ≤ B := inv.1.1 1 j
  have h14 := com_14 w hj6 hl ov
  have hkd : if w = 0 then kd = 0 ∨ kd = 1 else kd = 0 ∨ kd = 2 := by
    dsimp only at hk3
    split
    · have := hk3.2.1 (by assumption); omega
    · have := hk3.2.2 (by assumption); omega
  have hg : w = 0 → kd ≠ 0 → fd (H kept) 0 j = 1 ∧ pc6 (fd (H kept) 7 j ||| 2 ^ i) + fd (H kept) 3 j = n ∧ 1 ≤ fd (H kept) 3 j := fun q1 q2 => by
    subst q1
    rw [if_pos rfl] at hkd
    obtain rfl : kd = 1 := by omega
    have := IA_need inv g6 hj6 hl
    exact ⟨this.1, this.2.2.1, this.2.2.2⟩
  have hq : w = 2 → kd = 0 → (qu (H kept) j).length < 6 := fun q1 q2 => by
    subst q1; subst q2
    exact (need_com inv g6 hj6 hl).2
  obtain ⟨u1, r2, u2, u3, v1, r3, v2, v3, c1, c2, c3, d1, dx, d2, dp, d3, gg, post⟩ := act2 ha' hc hm h5 hb h6 hp ht (fX4_coming (nI i) (nI j)) (fX6_comes (nI i) (nI j)) (com w (H kept) i j) (fun r => r = nI kd) (fun u1 o ho hU R => by
    have f0 : fd (fs (H kept) 13 0 o) 0 j = fd (H kept) 0 j := by rw [fd_fs, if_neg (by omega)]
    have f3 : fd (fs (H kept) 13 0 o) 3 j = fd (H kept) 3 j := by rw [fd_fs, if_neg (by omega)]
    have f7 : fd (fs (H kept) 13 0 o) 7 j = fd (H kept) 7 j := by rw [fd_fs, if_neg (by omega)]
    have f1 : fd (fs (H kept) 13 0 o) 1 j = fd (H kept) 1 j := by rw [fd_fs, if_neg (by omega)]
    have := C_com R (WF_over wf ho) g3 g6 (i := i) (j := j) (by omega) hj6 (Or.inr hU) hl (by omega) (by rw [f1]; omega) (by rw [f0, f3, f7]; exact hg) hq
    rw [fs_back ov] at this
    exact this) (fun v1 hV R => M_com R wf g3 (by omega) hj6 (Or.inr hV) hl (by omega) (by omega) (fun q1 q2 => (hg q1 q2).2.2) hq hkd) (LG_com hj6 hl ov) h14.1 h14.2 (fun q => inv_com inv g3 g6 gB hj6 hl q)
  have hz := hc.2.2.2.2.1.2.2.2.2 (i * 6 + j) (by omega)
  rw [hl, List.map_cons] at hz
  have eb : fX5_bring (nI i) (nI j) u = some (if fd (com w (H kept) i j) 13 0 = 0 then nI kd else -3, u3) := by
    unfold fX5_bring
    have e1 : fX3_letterAt (nI i) (nI j) (0 : Int32) u = some (nI (pk (kd, nm)), u) := by
      have := C_letterAt u (i := i) (j := j) (k := 0) (by omega) hj6 (by omega)
      rw [show u 6 (140 + (i * 6 + j) * 13 + 1 + 0) = nI (pk (kd, nm)) from hz.2.2 0 (by omega)] at this
      exact this
    rw [bd_eq e1, bd_eq (C_kindOf u hk3.1), bd_eq c1, bd_eq c2, bd_eq c3]
    by_cases q : fd (com w (H kept) i j) 13 0 = 0
    · rw [if_pos q, if_pos q, if_neg (by decide)]; rfl
    · rw [if_neg q, if_neg q, if_pos rfl]; rfl
  have hk3 := hk3.1
  dsimp only at hk3
  refine ⟨_, u3, v3, v1, r3, v2, eb, d1, d2, ⟨_, d3, ?_⟩, ?_, gg⟩
  · by_cases q : fd (com w (H kept) i j) 13 0 = 0
    · rw [if_pos q, if_pos q]; exact Or.inr ⟨by decide, dp.symm⟩
    · rw [if_neg q, if_neg q]; exact Or.inl ⟨rfl, rfl⟩
  · by_cases q : fd (com w (H kept) i j) 13 0 = 0
    · rw [if_pos q]; exact Or.inr (nI_pos' (by omega))
    · rw [if_neg q]; exact Or.inl rfl
