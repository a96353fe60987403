-- both sides together: new objects; a call of the script
theorem RS_mono {B C : Nat} {X Y : Re} (h : RS B X Y) (hc : B ≤ C) : RS C X Y := by
  obtain ⟨r, u, v, h1, h2, h3⟩ := h
  exact ⟨r, u, v, h1, h2, GG_mono h3 hc⟩
theorem GG_new (u v : Wo) (hu : ∀ c k, u c k = if c = 3 ∧ k = 2 then 1 else 0) (hv : ∀ c k, v c k = if c = 0 ∧ k = 1 then 2 else if c = 0 ∧ k = 6 then 1 else 0) : ∃ u2 v2, fX3_startAnew (0 : Int32) (2 : Int32) u = some (0, u2) ∧ fX6_clear v = some (0, v2) ∧ GG 64 u2 v2 := by
  obtain ⟨u2, a1, a2, a3, a4, a5, a6, a7⟩ := C_anew u (w := 0) (n := 2) (by decide) (by decide) (by decide)
  obtain ⟨v2, b1, b2, b3, b4, b5, b6, b7, b8, b9, b10, b11⟩ := M_clear v (n := 2) (by rw [hv]; rfl) (by decide)
  have u0 : ∀ c k, c ≠ 1 → c ≠ 6 → u2 c k = if c = 3 ∧ k = 2 then 1 else 0 := fun c k c1 c6 => by rw [a2 c c1 c6, hu]
  refine ⟨u2, v2, a1, b1, 0, 2, fun _ => x0 0 2, 0, fun _ _ => 0, 0, ?_, ?_, ?_, ?_, ?_, ?_, ?_, ?_⟩
  · refine ⟨by decide, by decide, by decide, by decide, by decide, fun t _ => INV_x0 (by decide) (by decide) (by decide), fun t q => (by omega), fun t _ m q => (by cases q), fun t _ i _ => rfl, Or.inl rfl, fun _ => ⟨rfl, fun j hj => ?_, fun q => absurd q (by decide)⟩⟩
    rw [fd_x0, if_neg (by omega)]
  · refine ⟨a3, a4, ⟨0, by decide, by rw [a5, hu, if_neg (by decide)]; rfl⟩, by rw [u0 3 2 (by decide) (by decide), if_pos ⟨rfl, rfl⟩], a6, ⟨fun k hk => a7 _ (by omega) (by omega), a7 _ (by decide) (by decide), fun i hi => a7 _ (by omega) (by omega)⟩, fun m _ q => (by cases q), by rw [u0 0 7 (by decide) (by decide), if_neg (by decide)], by rw [u0 4 3 (by decide) (by decide), if_neg (by decide)]; rfl, 0, by decide, by rw [u0 4 2 (by decide) (by decide), if_neg (by decide)]; rfl, fun t q => (by omega)⟩
  · refine ⟨by rw [b3 0 (by decide) (by decide) (by decide), hv]; rfl, by rw [b3 1 (by decide) (by decide) (by decide), hv]; rfl, by rw [b3 6 (by decide) (by decide) (by decide), hv]; rfl, MC_x0 (by decide) (by decide) b9 b10, MB_x0 b11, b4, by rw [b6]; rfl, fun t q => (by omega), b7, fun q => absurd q (by decide)⟩
  · rw [u0 0 5 (by decide) (by decide), if_neg (by decide), b3 8 (by decide) (by decide) (by decide), hv]; rfl
  · exact ⟨0, by decide, by rw [u0 0 5 (by decide) (by decide), if_neg (by decide)]; rfl⟩
  · rw [u0 0 6 (by decide) (by decide), if_neg (by decide), b5]
  · exact ⟨0, by decide, by rw [u0 0 6 (by decide) (by decide), if_neg (by decide)]; rfl⟩
  · intro k hk
    rw [u0 13 k (by decide) (by decide), if_neg (by omega), b2 8 (by decide) (by decide) (by decide) (by decide), hv, if_neg (by omega), if_neg (by omega)]
/-- every call of the script: both sides answer alike, and hold the same again -/
theorem law_ops {B : Nat} {u v : Wo} (hB : B < 268434000) (h : GG B u v) (a1 a2 a3 a4 : Int32) :
    RS (B + 100) (fX5_begin a1 a2 u) (fX6_begin a1 a2 v) ∧ RS (B + 100) (fX5_parent a1 a2 u) (fX6_parent a1 a2 v) ∧ RS (B + 100) (fX5_want a1 u) (fX6_want a1 v) ∧ RS (B + 100) (fX5_leave a1 u) (fX6_leave a1 v) ∧ RS (B + 100) (fX5_come a1 a2 u) (fX6_come a1 a2 v) ∧ RS (B + 100) (fX5_run a1 a2 u) (fX6_run a1 a2 v) ∧ RS (B + 100) (fX5_keeper a1 a2 u) (fX6_keeper a1 a2 v) ∧ RS (B + 100) (fX5_knows a1 a2 u) (fX6_knows a1 a2 v) ∧ RS (B + 100) (fX5_token a1 a2 u) (fX6_token a1 a2 v) ∧ RS (B + 100) (fX5_letter a1 a2 a3 a4 u) (fX6_letter a1 a2 a3 a4 v) ∧ RS (B + 100) (fX5_entry a1 a2 u) (fX6_entry a1 a2 v) ∧ RS (B + 100) (fX5_undo u) (fX6_undo v) ∧ RS (B + 100) (fX5_pass u) (fX6_pass v) ∧ RS (B + 100) (fX5_passed a1 u) (fX6_passed a1 v) ∧ RS (B + 100) (fX5_count a1 u) (fX6_count a1 v) :=
  ⟨RS_mono (op_begin h a1 a2) (by omega), RS_mono (op_parent (by omega) h a1 a2) (by omega), RS_mono (op_want (by omega) h a1) (by omega), RS_mono (op_leave (by omega) h a1) (by omega), RS_mono (op_come (by omega) h a1 a2) (by omega), op_run (by omega) h a1 a2, RS_mono (op_keeper (by omega) h a1 a2) (by omega), RS_mono (op_knows h a1 a2) (by omega), RS_mono (op_token h a1 a2) (by omega), RS_mono (op_letter (by omega) h a1 a2 a3 a4) (by omega), RS_mono (op_entry (by omega) h a1 a2) (by omega), RS_mono (op_undo h) (by omega), RS_mono (op_pass (by omega) h) (by omega), RS_mono (op_passed h a1) (by omega), RS_mono (op_count (by omega) h a1) (by omega)⟩
