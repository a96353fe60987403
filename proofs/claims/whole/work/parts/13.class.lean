-- the class's methods do the acts
theorem fd_snd (x : XS) (i j kd nm : Nat) {g : Nat} (k : Nat) (hg : g ≠ 13) : fd (snd x i j kd nm) g k = fd x g k := by
  unfold snd
  by_cases h : (lt x (i * 6 + j)).length < 12
  · rw [if_pos h]; rfl
  · rw [if_neg h, fd_fs, if_neg (fun q => hg q.1)]; rfl
theorem qu_snd (x : XS) (i j kd nm : Nat) : qu (snd x i j kd nm) = qu x := by
  unfold snd
  by_cases h : (lt x (i * 6 + j)).length < 12
  · rw [if_pos h]; rfl
  · rw [if_neg h]; rfl
theorem fd_ent (x : XS) (i g k : Nat) : fd (ent x i) g k = if g = 0 ∧ k = i then 2 else fd x g k := rfl
theorem qu_ent (x : XS) (i : Nat) : qu (ent x i) = qu x := rfl
theorem lt_ent (x : XS) (i : Nat) : lt (ent x i) = lt x := rfl
theorem ne01 {a : Int32} (h : a = 0) (q : a = 1) : False := absurd (h.symm.trans q) (by decide)
section CT
variable {U u : Wo} {w n lo : Nat} {x : XS}
theorem RC_cnt (h : RC U w n lo x u) {k : Nat} (v : Int32) (hk : k < 3) : RC U w n lo (bs x (7 + k) v) (wr u 6 (608 + k) v) := by
  obtain ⟨h1, h2, h3, h4, h5, h6, h7⟩ := h
  refine ⟨fun c c1 c6 c7 => by rw [wr_ne _ _ _ c6]; exact h1 c c1 c6 c7, by rw [wr_ne _ _ _ (by decide)]; exact h2, by rw [wr_ne _ _ _ (by decide)]; exact h3, by rw [wr_ne _ _ _ (by decide)]; exact h4, ?_, fun hU => ?_, fun hU => by rw [wr_ne _ _ _ (by decide)]; exact h7 hU⟩
  · rw [wr_same]
    exact CC_out (CC_bs h5 _ _) (fun j hj => upd_ne _ _ (by omega))
  · obtain ⟨b1, b2, b3, b4⟩ := h6 hU
    refine ⟨fun j hj => ?_, ?_, fun i hi => ?_, fun m q1 q2 q3 z hz => by rw [wr_ne _ _ _ (by decide)]; exact b4 m q1 q2 q3 z hz⟩
    · rw [wr_same, bb_bs]
      by_cases e : j = k
      · subst e; rw [upd_same, upd_same]
      · rw [upd_ne _ _ (by omega), upd_ne _ _ (by omega)]; exact b1 j hj
    · rw [wr_same, upd_ne _ _ (by omega)]; exact b2
    · rw [wr_same, bb_bs, upd_ne _ _ (by omega), upd_ne _ _ (by omega)]; exact b3 i hi
theorem RC_since (h : RC U w n lo x u) {k : Nat} (v : Int32) (hk : k < 6) : RC U w n lo (bs x (1 + k) v) (wr u 6 (612 + k) v) := by
  obtain ⟨h1, h2, h3, h4, h5, h6, h7⟩ := h
  refine ⟨fun c c1 c6 c7 => by rw [wr_ne _ _ _ c6]; exact h1 c c1 c6 c7, by rw [wr_ne _ _ _ (by decide)]; exact h2, by rw [wr_ne _ _ _ (by decide)]; exact h3, by rw [wr_ne _ _ _ (by decide)]; exact h4, ?_, fun hU => ?_, fun hU => by rw [wr_ne _ _ _ (by decide)]; exact h7 hU⟩
  · rw [wr_same]
    exact CC_out (CC_bs h5 _ _) (fun j hj => upd_ne _ _ (by omega))
  · obtain ⟨b1, b2, b3, b4⟩ := h6 hU
    refine ⟨fun j hj => ?_, ?_, fun i hi => ?_, fun m q1 q2 q3 z hz => by rw [wr_ne _ _ _ (by decide)]; exact b4 m q1 q2 q3 z hz⟩
    · rw [wr_same, bb_bs, upd_ne _ _ (by omega), upd_ne _ _ (by omega)]; exact b1 j hj
    · rw [wr_same, upd_ne _ _ (by omega)]; exact b2
    · rw [wr_same, bb_bs]
      by_cases e : i = k
      · subst e; rw [upd_same, upd_same]
      · rw [upd_ne _ _ (by omega), upd_ne _ _ (by omega)]; exact b3 i hi
theorem RC_over (h : RC U w n lo x u) (v : Nat) : RC U w n lo (fs x 13 0 v) (wr u 1 3 (nI v)) := by
  obtain ⟨h1, h2, h3, h4, h5, h6, h7⟩ := h
  refine ⟨fun c c1 c6 c7 => by rw [wr_ne _ _ _ c1]; exact h1 c c1 c6 c7, by rw [wr_same, upd_ne _ _ (by decide)]; exact h2, by rw [wr_same, upd_ne _ _ (by decide)]; exact h3, by rw [wr_same, upd_same, fd_fs, if_pos ⟨rfl, rfl⟩], ?_, fun hU => ?_, fun hU => by rw [wr_ne _ _ _ (by decide)]; exact h7 hU⟩
  · rw [wr_ne _ _ _ (by decide)]
    exact CC_free h5 rfl (by decide)
  · obtain ⟨b1, b2, b3, b4⟩ := h6 hU
    unfold CB
    rw [wr_ne _ _ _ (show (6 : Nat) ≠ 1 by decide), wr_ne _ _ _ (show (7 : Nat) ≠ 1 by decide)]
    exact ⟨b1, b2, b3, b4⟩
theorem C_snd25 (h : RC U w n lo x u) {kd : Nat} (hk : kd < 3) (hU : bb x (7 + kd) = bb x (7 + kd)) : Gd (fX3_send_25 (nI kd) u) (fun _ u1 => ∃ v, RC U w n lo (bs x (7 + kd) v) u1 ∧ (U 3 2 = 1 → v = bb x (7 + kd) + 1)) := by
  unfold fX3_send_25
  rw [n608, nI_add, bd_eq (C_get u (by omega)), bd_eq (C_put u _ (by omega))]
  exact gd_ret ⟨_, RC_cnt h _ hk, fun h1 => by rw [(h.2.2.2.2.2.1 h1).1 kd hk]⟩
/-- counts are told only while entries are written -/
theorem RC_bsI (h : RC U w n lo x u) (k : Nat) (v : Int32) (hU : U 3 2 = 0) : RC U w n lo (bs x k v) u := by
  obtain ⟨h1, h2, h3, h4, h5, h6, h7⟩ := h
  exact ⟨h1, h2, h3, h4, h5, fun q => (ne01 hU q).elim, h7⟩
theorem C_cnt (h : RC U w n lo x u) {kd : Nat} (hk : kd < 3) (hU : U 3 2 = 0 ∨ U 3 2 = 1) : Gd (fX3_send_25 (nI kd) u) (fun _ u1 => RC U w n lo (bs x (7 + kd) (bb x (7 + kd) + 1)) u1) := by
  refine gd_mono (C_snd25 h hk rfl) (fun r u1 ⟨v, R, hv⟩ => ?_)
  rcases hU with hU | hU
  · have := RC_bsI R (7 + kd) (bb x (7 + kd) + 1) hU
    refine ⟨this.1, this.2.1, this.2.2.1, this.2.2.2.1, this.2.2.2.2.1, fun q => (ne01 hU q).elim, this.2.2.2.2.2.2⟩
  · rw [← hv hU]; exact R
theorem C_snd (h : RC U w n lo x u) {i j kd nm : Nat} (hi : i < 6) (hj : j < 6) (hk : kd < 3) (hU : U 3 2 = 0 ∨ U 3 2 = 1) : Gd (fX3_send (nI i) (nI j) (nI kd) (nI nm) u) (fun _ u1 => RC U w n lo (snd x i j kd nm) u1) := by
  have hL := h.2.2.2.2.1.2.2.2.2 (i * 6 + j) (by omega)
  unfold fX3_send snd
  rw [bd_eq (C_lettersOf u i j), pack_nI hk]
  by_cases hc : (lt x (i * 6 + j)).length < 12
  · rw [if_pos hc]
    refine gd_bd (C_append_ok (m := 12) u (pk (kd, nm)) (by omega) hL (by rw [List.length_map]; exact hc)) (fun r u1 ⟨hr, hF, hl⟩ => ?_)
    subst hr
    rw [if_neg (by decide)]
    have R1 : RC U w n lo (ls x (i * 6 + j) (lt x (i * 6 + j) ++ [(kd, nm)])) u1 := RC_row h hF.1 (fun k hk => hF.2 k (by omega)) (CC_let h.2.2.2.2.1 (by omega) hF.2 (by rw [List.map_append]; exact hl)) rfl rfl
    exact gd_mono (C_cnt R1 hk hU) (fun r u2 R2 => R2)
  · rw [if_neg hc]
    refine gd_eq (C_append_full (m := 12) u _ (by omega) hL (by rw [List.length_map]; omega)) ?_
    rw [if_pos rfl]
    refine gd_bw ?_
    exact gd_mono (C_cnt (RC_over h 1) hk hU) (fun r u2 R2 => R2)
theorem C_sno (h : RC U w n lo x u) (hn : n ≤ 6) {i kd nm : Nat} (hi : i < 6) (hk : kd < 3) (hU : U 3 2 = 0 ∨ U 3 2 = 1) : Gd (fX3_sendToOthers (nI i) (nI kd) (nI nm) u) (fun _ u1 => RC U w n lo (sno x i kd nm n) u1) := by
  unfold fX3_sendToOthers
  refine lp_gd (σ := Int32 × Wo) (fun m s => fX3_sendToOthers_3 fX3_sendToOthers_33 m (nI i) (nI kd) (nI nm) s.1 s.2) (fun d s => ∃ j, j + d = n ∧ s.1 = nI j ∧ RC U w n lo (sno x i kd nm j) s.2) _ ?_ ?_ (d := n) (s := (0, u)) (by have := FU_ge; omega) ⟨0, by omega, rfl, h⟩
  · rintro m ⟨sj, su⟩ ⟨j, hj, rfl, R⟩
    dsimp only at R ⊢
    obtain rfl : j = n := by omega
    rw [fX3_sendToOthers_3.eq_2, R.2.2.1, if_pos (nI_le (Nat.le_refl _) (by omega))]
    exact gd_ret R
  · rintro m d ⟨sj, su⟩ ⟨j, hj, rfl, R⟩
    dsimp only at R ⊢
    refine Or.inr ?_
    rw [fX3_sendToOthers_3.eq_2, R.2.2.1, if_neg (nI_ge (by omega) (by omega))]
    by_cases e : j = i
    · subst e
      rw [if_pos rfl]
      exact ⟨(nI (j + 1), su), by unfold fX3_sendToOthers_27; rw [n1, nI_add], j + 1, by omega, rfl, by show RC U w n lo (if j = j then _ else _) su; rw [if_pos rfl]; exact R⟩
    · rw [if_neg (fun q => e (nI_inj (by omega) (by omega) q))]
      obtain ⟨r, u1, e1, R1⟩ := C_snd R hi (show j < 6 by omega) hk hU (nm := nm)
      rw [bd_eq e1]
      exact ⟨(nI (j + 1), u1), by unfold fX3_sendToOthers_27; rw [n1, nI_add], j + 1, by omega, rfl, by show RC U w n lo (if j = i then _ else _) u1; rw [if_neg e]; exact R1⟩
theorem C_tok1 (h : RC U 1 n lo x u) {i : Nat} (hi : i < 6) : fX3_hasToken (nI i) u = some (if fd x 5 6 = i then 1 else 0, u) := by
  unfold fX3_hasToken
  rw [h.2.1, if_pos (show nI 1 = (1 : Int32) from rfl), bd_eq (show fX3_get (30 : Int32) u = some (u 6 30, u) from C_get (k := 30) u (by omega)), h.2.2.2.2.1.2.1]
  by_cases e : fd x 5 6 = i
  · rw [e, plC, if_pos hi, if_pos rfl, if_pos rfl]
    rfl
  · rw [if_neg e, if_neg (fun q => ?_)]
    · unfold fX3_hasToken_18
      rw [h.2.1, if_neg (by decide)]
      rfl
    · unfold plC at q
      by_cases h6 : fd x 5 6 < 6
      · rw [if_pos h6] at q
        exact e (nI_inj (by omega) (by omega) q)
      · rw [if_neg h6] at q
        have := nI_pos (n := i) (by omega)
        rw [← q] at this
        exact this (by decide)
theorem C_tok2 (h : RC U 2 n lo x u) {i : Nat} (hi : i < 6) (hb : fd x 5 i < 6) : fX3_hasToken (nI i) u = some (if fd x 5 i = i then 1 else 0, u) := by
  unfold fX3_hasToken
  rw [h.2.1, if_neg (by decide)]
  unfold fX3_hasToken_18
  rw [h.2.1, if_pos (show nI 2 = (2 : Int32) from rfl), bd_eq (C_r5 h hi)]
  by_cases e : fd x 5 i = i
  · rw [if_pos e, if_pos (by rw [e])]
    rfl
  · rw [if_neg e, if_neg (fun q => e (nI_inj (by omega) (by omega) q))]
    rfl
theorem C_tok0 (h : RC U 0 n lo x u) (i : Int32) : fX3_hasToken i u = some (0, u) := by
  unfold fX3_hasToken
  rw [h.2.1, if_neg (by decide)]
  unfold fX3_hasToken_18
  rw [h.2.1, if_neg (by decide)]
  rfl
theorem C_write (u : Wo) {e : Nat} (a b c : Int32) (he : e < 268435456) : fX0_write (nI e) a b c u = some (0, wr (wr (wr u 7 (e % 90 * 3) a) 7 (e % 90 * 3 + 1) b) 7 (e % 90 * 3 + 2) c) := by
  have h3 : e % 90 < 90 := Nat.mod_lt _ (by decide)
  unfold fX0_write
  rw [bn_eq, n90, pk_rem (by omega) (by omega) (by omega), n3, nI_mul, if_neg (nI_pos (by omega)), n2, nI_add, if_neg (show ¬ (270 : Int32) ≤ nI (e % 90 * 3 + 2) from nI_ge (b := 270) (by omega) (by decide)), gi_eq (inb_nI (by omega) (by decide)), nI_clamp (by omega), bw_eq, n1, nI_add, gi_eq (inb_nI (by omega) (by decide)), nI_clamp (by omega), bw_eq, gi_eq (inb_nI (by omega) (by decide)), nI_clamp (by omega), bw_eq]
  rfl
theorem C_ent (h : RC U w n lo x u) {i : Nat} (hi : i < 6) (he : ev x < 268435456) (hU : U 3 2 = 0 ∨ U 3 2 = 1) : Gd (fX4_enter (nI i) u) (fun _ u1 => RC U w n lo (ent x i) u1) := by
  unfold fX4_enter
  refine gd_bd (C_st h (f := 0) 2 rfl hi) (fun r u1 R => ?_)
  have h3 : u1 3 2 = U 3 2 := by rw [R.1 3 (by decide) (by decide) (by decide)]
  rw [h3]
  rcases hU with hU | hU
  · rw [hU, if_pos rfl]
    obtain ⟨h1, h2, h3, h4, h5, h6, h7⟩ := R
    exact gd_ret ⟨h1, h2, h3, h4, h5, fun q => (ne01 hU q).elim, h7⟩
  · rw [hU, if_neg (by decide)]
    obtain ⟨b1, b2, b3, b4⟩ := R.2.2.2.2.2.1 hU
    rw [n611, n612, nI_add, bd_eq (C_get u1 (by omega)), bd_eq (C_get u1 (by omega)), bd_eq (C_sentInAll u1), b2, bd_eq (C_write u1 _ _ _ (show ev (fs x 0 i 2) < _ from he)), bd_eq (C_put _ _ (by omega))]
    have hs : u1 6 608 + u1 6 609 + u1 6 610 = bb x 7 + bb x 8 + bb x 9 := by rw [b1 0 (by decide), b1 1 (by decide), b1 2 (by decide)]; rfl
    rw [hs, b3 i hi]
    refine gd_ret ⟨fun c c1 c6 c7 => ?_, ?_, ?_, ?_, ?_, fun _ => ⟨fun k hk => ?_, ?_, fun j hj => ?_, fun m q1 q2 q3 z hz => ?_⟩, fun q => (ne01 q hU).elim⟩
    · rw [wr_ne _ _ _ c6, wr_ne _ _ _ c7, wr_ne _ _ _ c7, wr_ne _ _ _ c7]; exact R.1 c c1 c6 c7
    · rw [wr_ne _ _ _ (by decide), wr_ne _ _ _ (by decide), wr_ne _ _ _ (by decide), wr_ne _ _ _ (by decide)]; exact R.2.1
    · rw [wr_ne _ _ _ (by decide), wr_ne _ _ _ (by decide), wr_ne _ _ _ (by decide), wr_ne _ _ _ (by decide)]; exact R.2.2.1
    · rw [wr_ne _ _ _ (by decide), wr_ne _ _ _ (by decide), wr_ne _ _ _ (by decide), wr_ne _ _ _ (by decide)]; exact R.2.2.2.1
    · rw [wr_same, wr_ne _ _ _ (by decide), wr_ne _ _ _ (by decide), wr_ne _ _ _ (by decide)]
      exact CC_out (x := ent x i) R.2.2.2.2.1 (fun k hk => upd_ne _ _ (by omega))
    · rw [wr_same, upd_ne _ _ (by omega), wr_ne _ _ _ (by decide), wr_ne _ _ _ (by decide), wr_ne _ _ _ (by decide)]; exact b1 k hk
    · rw [wr_same, upd_same, n1, nI_add]; rfl
    · rw [wr_same, upd_ne _ _ (by omega), wr_ne _ _ _ (by decide), wr_ne _ _ _ (by decide), wr_ne _ _ _ (by decide)]; exact b3 j hj
    · rw [wr_ne _ _ _ (by decide), wr_same, wr_same, wr_same]
      have q2 : ev x + 1 ≤ m + 90 := q2
      have q3 : m < ev x + 1 := q3
      have e90 : ev (fs x 0 i 2) = ev x := rfl
      have hlg : lg (ent x i) m z = if m = ev x then (if z = 0 then nI i else if z = 1 then nI (ev x) - bb x (1 + i) else bb x 7 + bb x 8 + bb x 9) else lg x m z := rfl
      rw [hlg, e90]
      by_cases em : m = ev x
      · rw [if_pos em, em]
        rcases (show z = 0 ∨ z = 1 ∨ z = 2 by omega) with rfl | rfl | rfl
        · rw [upd_ne _ _ (by omega), upd_ne _ _ (by omega), Nat.add_zero, upd_same]; rfl
        · rw [upd_ne _ _ (by omega), upd_same]; rfl
        · rw [upd_same]; rfl
      · rw [if_neg em, upd_ne _ _ (by omega), upd_ne _ _ (by omega), upd_ne _ _ (by omega)]
        exact b4 m q1 (by show ev x ≤ _; omega) (by show m < ev x; omega) z hz
end CT
