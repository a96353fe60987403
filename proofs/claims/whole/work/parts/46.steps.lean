-- the search: acts in it
theorem com_f {w n B : Nat} {x : XS} (h : INV w n B x) (h3 : w < 3) (hn : n ≤ 6) (hB : 64 ≤ B) {i j : Nat} (hj : j < 6) (hl : 0 < (lt x (i * 6 + j)).length) : fd (com w x i j) 13 0 ≤ 1 ∧ (∀ k, fd (com w x i j) 14 k = fd x 14 k) ∧ (fd (com w x i j) 13 0 = 0 → INV w n (B + 1) (com w x i j)) := by
  cases e : lt x (i * 6 + j) with
  | nil => rw [e] at hl; cases hl
  | cons a t =>
    have h14 := com_14 (kd := a.1) (nm := a.2) w hj e h.2.2.2.2.2.2
    exact ⟨h14.1, h14.2, fun q => inv_com (kd := a.1) (nm := a.2) h h3 hn hB hj e q⟩
theorem lef_f {w n B : Nat} {x : XS} (h : INV w n B x) (h3 : w < 3) (hn : n ≤ 6) (hB : 64 ≤ B) (hB2 : B < 268435456) {i : Nat} (hi : i < n) (hm : fd x 0 i = 2) : fd (lef w n x i) 13 0 ≤ 1 ∧ (∀ k, fd (lef w n x i) 14 k = fd x 14 k) ∧ (fd (lef w n x i) 13 0 = 0 → INV w n (B + 1) (lef w n x i)) := by
  have h14 := lef_14 w n (i := i) h.2.2.2.2.2.2
  exact ⟨h14.1, h14.2, fun q => inv_lef h h3 hn hB hB2 hi hm q⟩
theorem KW_RC {U : Wo} {w n : Nat} {x : XS} {z : ZS} {u : Wo} (h : KW U w n x z u) : ∃ o : Nat, o ≤ 1 ∧ RC u w n 0 (fs x 13 0 o) u ∧ u 3 2 = 0 := by
  obtain ⟨a1, a2, a3, a4, ⟨o, o1, o2⟩, a6, a7, a8, a9⟩ := h
  have e3 : u 3 2 = 0 := by rw [a1 3 (by decide) (by decide) (by decide) (by decide) (by decide) (by decide) (by decide)]; exact a2
  exact ⟨o, o1, ⟨fun _ _ _ _ => rfl, a3, a4, by rw [fd_fs, if_pos ⟨rfl, rfl⟩]; exact o2, CC_free a9 rfl (by decide), fun q => by rw [e3] at q; exact absurd q (by decide), fun _ => rfl⟩, e3⟩
theorem KW_of {U : Wo} {w n : Nat} {x y : XS} {z : ZS} {u u1 : Wo} (h : KW U w n x z u) (e3 : u 3 2 = 0) (R : RC u w n 0 y u1) (ho : fd y 13 0 ≤ 1) : KW U w n y z u1 ∧ u1 1 3 = nI (fd y 13 0) := by
  obtain ⟨a1, a2, a3, a4, a5, a6, a7, a8, a9⟩ := h
  obtain ⟨b1, b2, b3, b4, b5, b6, b7⟩ := R
  have b7 := b7 e3
  have o : ∀ c, c ≠ 1 → c ≠ 6 → u1 c = u c := fun c c1 c6 => by
    by_cases c7 : c = 7
    · rw [c7]; exact b7
    · exact b1 c c1 c6 c7
  exact ⟨⟨fun c c1 c5 c6 c9 c10 c11 c13 => by rw [o c c1 c6]; exact a1 c c1 c5 c6 c9 c10 c11 c13, a2, b2, b3, ⟨_, ho, b4⟩, KT_eq a6 (by rw [o 5 (by decide) (by decide)]) (by rw [o 5 (by decide) (by decide)]) (o 9 (by decide) (by decide)) (o 10 (by decide) (by decide)) (o 11 (by decide) (by decide)), fun k hk => by rw [o 13 (by decide) (by decide)]; exact a7 k hk, by rw [o 5 (by decide) (by decide)]; exact a8, b5⟩, b4⟩
theorem C_comS {U : Wo} {w n B : Nat} {x : XS} {z : ZS} {u : Wo} (hw : w < 3) (hn : n ≤ 6) (hB0 : 64 ≤ B) (hB : B < 268435454) (hx : INV w n B x) (hW : KW U w n x z u) {i j : Nat} (hi : i < n) (hj : j < n) (hl : 0 < (lt x (i * 6 + j)).length) : ∃ r u1, fX4_coming (nI i) (nI j) u = some (r, u1) ∧ KW U w n (com w x i j) z u1 ∧ u1 1 3 = nI (fd (com w x i j) 13 0) := by
  have wf := INV_WF hx hn (by omega)
  have ov := hx.2.2.2.2.2.2
  have hj6 : j < 6 := by omega
  obtain ⟨o, o1, R, e3⟩ := KW_RC hW
  obtain ⟨kd, nm, t, hl⟩ : ∃ kd nm t, lt x (i * 6 + j) = (kd, nm) :: t := by
    cases e : lt x (i * 6 + j) with
    | nil => rw [e] at hl; cases hl
    | cons a t => exact ⟨a.1, a.2, t, rfl⟩
  have hmem : (kd, nm) ∈ lt x (i * 6 + j) := by rw [hl]; exact List.mem_cons_self
  have hk3 := hx.2.1.2.2.2.1 _ _ hmem
  have hnm : nm ≤ B := hx.1.2.1 _ _ hmem
  have hb1 : fd x 1 j ≤ B := hx.1.1 1 j
  have h14 := com_14 w hj6 hl ov
  dsimp only at hk3
  have hg : w = 0 → kd ≠ 0 → fd x 0 j = 1 ∧ pc6 (fd x 7 j ||| 2 ^ i) + fd x 3 j = n ∧ 1 ≤ fd x 3 j := fun q1 q2 => by
    subst q1
    have := hk3.2.1 rfl
    obtain rfl : kd = 1 := by omega
    have := IA_need hx hn hj6 hl
    exact ⟨this.1, this.2.2.1, this.2.2.2⟩
  have hq : w = 2 → kd = 0 → (qu x j).length < 6 := fun q1 q2 => by
    subst q1; subst q2
    exact (need_com hx hn hj6 hl).2
  have f0 : fd (fs x 13 0 o) 0 j = fd x 0 j := by rw [fd_fs, if_neg (by omega)]
  have f3 : fd (fs x 13 0 o) 3 j = fd x 3 j := by rw [fd_fs, if_neg (by omega)]
  have f7 : fd (fs x 13 0 o) 7 j = fd x 7 j := by rw [fd_fs, if_neg (by omega)]
  have f1 : fd (fs x 13 0 o) 1 j = fd x 1 j := by rw [fd_fs, if_neg (by omega)]
  have := C_com R (WF_over wf o1) hw hn (i := i) (j := j) (by omega) hj6 (Or.inl e3) hl (by omega) (by rw [f1]; omega) (by rw [f0, f3, f7]; exact hg) hq
  rw [fs_back ov] at this
  obtain ⟨r, u1, g1, g2⟩ := this
  obtain ⟨p1, p2⟩ := KW_of hW e3 g2 h14.1
  exact ⟨r, u1, g1, p1, p2⟩
theorem C_lefS {U : Wo} {w n B : Nat} {x : XS} {z : ZS} {u : Wo} (hw : w < 3) (hn : n ≤ 6) (hB0 : 64 ≤ B) (hB : B < 268435454) (hx : INV w n B x) (hW : KW U w n x z u) {i : Nat} (hi : i < n) : ∃ r u1, fX4_left (nI i) u = some (r, u1) ∧ KW U w n (lef w n x i) z u1 ∧ u1 1 3 = nI (fd (lef w n x i) 13 0) := by
  have wf := INV_WF hx hn (by omega)
  have ov := hx.2.2.2.2.2.2
  obtain ⟨o, o1, R, e3⟩ := KW_RC hW
  have h14 := lef_14 w n (i := i) ov
  have hT : w = 1 → ∀ y, y = rwo (fs (fs x 0 i 0) 9 i (fd x (20 + i) i)) i → WF (y n) ∧ ∀ j, j < n → WF (y j) ∧ (¬ j ∈ qu (y j) 6 → (qu (y j) 6).length < 6) := fun q y hy => by
    subst q
    have := need_lef hx hn (by omega) i y hy
    exact ⟨(this.1 n (Nat.le_refl _)).1, fun j hj => ⟨(this.1 j (by omega)).1, this.2 j hj⟩⟩
  have hk20 : fd (fs x 13 0 o) (20 + i) i = fd x (20 + i) i := by rw [fd_fs, if_neg (by omega)]
  have := C_lef R (WF_over wf o1) hw hn (i := i) (by omega) (Or.inl e3) (by rw [fs_back ov, hk20]; exact hT)
  rw [fs_back ov] at this
  obtain ⟨r, u1, g1, g2⟩ := this
  obtain ⟨p1, p2⟩ := KW_of hW e3 g2 h14.1
  exact ⟨r, u1, g1, p1, p2⟩
theorem MW_RM {V : Wo} {w n : Nat} {x : XS} {z : ZS} {v : Wo} (h : MW V w n x z v) (h5 : v 0 5 = 0) (hx : fd x 13 0 = 0) : RM v w n x v ∧ v 0 6 = 0 := by
  obtain ⟨a1, a2, a3, a4, a5, a6, a7, a8, a9⟩ := h
  have e6 : v 0 6 = 0 := by rw [a2 6 (by decide) (by decide) (by decide)]; exact a3
  exact ⟨⟨fun _ _ _ _ => rfl, fun _ _ => rfl, by rw [a2 0 (by decide) (by decide) (by decide)]; exact a4, by rw [a2 1 (by decide) (by decide) (by decide)]; exact a5, by rw [h5, hx]; rfl, a9, fun q => by rw [e6] at q; exact absurd q (by decide), fun _ => rfl⟩, e6⟩
theorem MW_of {V : Wo} {w n : Nat} {x y : XS} {z : ZS} {v v1 : Wo} (h : MW V w n x z v) (e6 : v 0 6 = 0) (R : RM v w n y v1) (ho : fd y 13 0 ≤ 1) : MW V w n y z v1 ∧ v1 0 5 = nI (fd y 13 0) := by
  obtain ⟨a1, a2, a3, a4, a5, a6, a7, a8, a9⟩ := h
  obtain ⟨b1, b2, b3, b4, b5, b6, b7, b8⟩ := R
  have b8 := b8 e6
  have o : ∀ c, c ≠ 0 → c ≠ 2 → v1 c = v c := fun c c0 c2 => by
    by_cases c3 : c = 3
    · rw [c3]; exact b8
    · exact b1 c c0 c2 c3
  exact ⟨⟨fun c c0 c2 c6 c7 c8 => by rw [o c c0 c2]; exact a1 c c0 c2 c6 c7 c8, fun k k5 k13 k17 => by rw [b2 k k5]; exact a2 k k5 k13 k17, a3, a4, a5, ⟨_, ho, b5⟩, MT_eq a7 (b2 13 (by decide)) (b2 17 (by decide)) (o 6 (by decide) (by decide)) (o 7 (by decide) (by decide)), fun k hk => by rw [o 8 (by decide) (by decide)]; exact a8 k hk, b6⟩, b5⟩
theorem M_comS {V : Wo} {w n B : Nat} {x : XS} {z : ZS} {v : Wo} (hw : w < 3) (hn : n ≤ 6) (hB0 : 64 ≤ B) (hB : B < 268435454) (hx : INV w n B x) (hW : MW V w n x z v) (h5 : v 0 5 = 0) {i j : Nat} (hi : i < n) (hj : j < n) (hl : 0 < (lt x (i * 6 + j)).length) : ∃ r v1, fX6_comes (nI i) (nI j) v = some (r, v1) ∧ MW V w n (com w x i j) z v1 ∧ v1 0 5 = nI (fd (com w x i j) 13 0) := by
  have wf := INV_WF hx hn (by omega)
  have ov := hx.2.2.2.2.2.2
  have hj6 : j < 6 := by omega
  obtain ⟨R, e6⟩ := MW_RM hW h5 ov
  obtain ⟨kd, nm, t, hl⟩ : ∃ kd nm t, lt x (i * 6 + j) = (kd, nm) :: t := by
    cases e : lt x (i * 6 + j) with
    | nil => rw [e] at hl; cases hl
    | cons a t => exact ⟨a.1, a.2, t, rfl⟩
  have hmem : (kd, nm) ∈ lt x (i * 6 + j) := by rw [hl]; exact List.mem_cons_self
  have hk3 := hx.2.1.2.2.2.1 _ _ hmem
  have hnm : nm ≤ B := hx.1.2.1 _ _ hmem
  have hb1 : fd x 1 j ≤ B := hx.1.1 1 j
  have h14 := com_14 w hj6 hl ov
  dsimp only at hk3
  have hkd : if w = 0 then kd = 0 ∨ kd = 1 else kd = 0 ∨ kd = 2 := by
    split
    · have := hk3.2.1 (by assumption); omega
    · have := hk3.2.2 (by assumption); omega
  have hg : w = 0 → kd ≠ 0 → 1 ≤ fd x 3 j := fun q1 q2 => by
    subst q1
    have := hk3.2.1 rfl
    obtain rfl : kd = 1 := by omega
    exact (IA_need hx hn hj6 hl).2.2.2
  have hq : w = 2 → kd = 0 → (qu x j).length < 6 := fun q1 q2 => by
    subst q1; subst q2
    exact (need_com hx hn hj6 hl).2
  obtain ⟨r, v1, g1, -, g2⟩ := M_com R wf hw (by omega) hj6 (Or.inl e6) hl (by omega) (by omega) hg hq hkd
  obtain ⟨p1, p2⟩ := MW_of hW e6 g2 h14.1
  exact ⟨r, v1, g1, p1, p2⟩
theorem M_lefS {V : Wo} {w n B : Nat} {x : XS} {z : ZS} {v : Wo} (hw : w < 3) (hn : n ≤ 6) (hB0 : 64 ≤ B) (hB : B < 268435454) (hx : INV w n B x) (hW : MW V w n x z v) (h5 : v 0 5 = 0) {i : Nat} (hi : i < n) : ∃ r v1, fX6_leaves (nI i) v = some (r, v1) ∧ MW V w n (lef w n x i) z v1 ∧ v1 0 5 = nI (fd (lef w n x i) 13 0) := by
  have wf := INV_WF hx hn (by omega)
  have ov := hx.2.2.2.2.2.2
  obtain ⟨R, e6⟩ := MW_RM hW h5 ov
  have h14 := lef_14 w n (i := i) ov
  have hT : w = 1 → ∀ y, y = rwo (fs (fs x 0 i 0) 9 i (fd x (20 + i) i)) i → WF (y n) ∧ ∀ j, j < n → WF (y j) ∧ (¬ j ∈ qu (y j) 6 → (qu (y j) 6).length < 6) := fun q y hy => by
    subst q
    have := need_lef hx hn (by omega) i y hy
    exact ⟨(this.1 n (Nat.le_refl _)).1, fun j hj => ⟨(this.1 j (by omega)).1, this.2 j hj⟩⟩
  obtain ⟨r, v1, g1, g2⟩ := M_lef R wf hw hn (by omega) (Or.inl e6) hT
  obtain ⟨p1, p2⟩ := MW_of hW e6 g2 h14.1
  exact ⟨r, v1, g1, p1, p2⟩
theorem M_goesS {V : Wo} {w n B : Nat} {P : Nat → Nat} {y : XS} {z : ZS} {v : Wo} {k : Nat} (hw : w < 3) (hn : n ≤ 6) (hB : B + 300 < 268435456) (hS : SI w n B P z.1) (hk : k < z.1.2.1) (hy : fd y 13 0 = 0 → INV w n (B + k + 1) y) (ho : fd y 13 0 ≤ 1) (h5 : v 0 5 = nI (fd y 13 0)) (hW : MW V w n y z v) : ∃ v1, fX6_goes v = some (if fd y 13 0 = 0 then 1 else 0, v1) ∧ MW V w n y (tr w y z) v1 := by
  obtain ⟨a1, a2, a3, a4, a5, a6, a7, a8, a9⟩ := hW
  have k300 := a7.1
  unfold fX6_goes
  rw [h5]
  by_cases e : fd y 13 0 = 0
  · have hi := hy e
    obtain ⟨v1, g1, g2, g3, g4⟩ := M_meetsS (z := z.1) (y := y) (P := P) hw hn hB a9 a7 hS ⟨NB_mono hi.1 (by omega), hi.2⟩
    have et : tr w y z = (kp w z.1 y, z.2.1, z.2.2 + 1) := if_pos e
    rw [if_pos (show nI (fd y 13 0) = (0 : Int32) from by rw [e]; rfl), bd_eq g1, if_pos e, et]
    exact ⟨v1, rfl, fun c c0 c2 c6 c7 c8 => by rw [g3 c c0 c6 c7]; exact a1 c c0 c2 c6 c7 c8, fun k k5 k13 k17 => by rw [g4 k k13 k17]; exact a2 k k5 k13 k17, a3, a4, a5, ⟨0, by decide, by rw [g4 5 (by decide) (by decide), h5, e]⟩, g2, fun q hq => by rw [g3 8 (by decide) (by decide) (by decide)]; exact a8 q hq, by rw [g3 2 (by decide) (by decide) (by decide)]; exact a9⟩
  · have e1 : fd y 13 0 = 1 := by omega
    have w8 : ∀ c, c ≠ 8 → wr v 8 5 (z.2.1 5 + 1) c = v c := fun c q => wr_ne _ _ _ q
    have et : tr w y z = (z.1, upd z.2.1 5 (z.2.1 5 + 1), z.2.2) := if_neg e
    rw [if_neg (show ¬ nI (fd y 13 0) = (0 : Int32) from by rw [e1]; decide), gi_eq (by decide), gi_eq (by decide), bw_eq, show ((5 : Int32)).toNatClampNeg = 5 from rfl, a8 5 (by decide), if_neg e, et]
    refine ⟨_, rfl, fun c c0 c2 c6 c7 c8 => by rw [w8 c c8]; exact a1 c c0 c2 c6 c7 c8, fun k k5 k13 k17 => by rw [w8 0 (by decide)]; exact a2 k k5 k13 k17, a3, a4, a5, by rw [w8 0 (by decide)]; exact a6, MT_eq a7 (by rw [w8 0 (by decide)]) (by rw [w8 0 (by decide)]) (w8 6 (by decide)) (w8 7 (by decide)), fun q hq => ?_, by rw [w8 2 (by decide)]; exact a9⟩
    rw [wr_same]
    dsimp only
    unfold upd
    by_cases c : q = 5
    · rw [if_pos c, if_pos c]
    · rw [if_neg c, if_neg c]; exact a8 q hq
theorem M_loadS {V : Wo} {w n : Nat} {y : XS} {z : ZS} {v : Wo} {k : Nat} (hk : k < z.1.2.1) (hW : MW V w n y z v) : ∃ v1, fX6_load (nI k) v = some (0, v1) ∧ MW V w n (z.1.1 k) z v1 ∧ v1 0 5 = 0 := by
  obtain ⟨a1, a2, a3, a4, a5, a6, a7, a8, a9⟩ := hW
  have k300 := a7.1
  obtain ⟨v2, e2, f2, q2⟩ := cp_loop (F := fun m i q => fX6_load_2 fX6_load_33 m (nI k) i q) (k := fX6_load_33) (N := 1040) (cs := 6) (os := k * 1040) (cd := 2) (od := 0) (u0 := v) (by omega) (Or.inl (by decide)) (fun m q _ => by rw [fX6_load_2.eq_2, if_pos (show (1040 : Int32) ≤ nI 1040 from by decide)]) (fun m i q hi hq => by
    rw [fX6_load_2.eq_2, if_neg (show ¬ (1040 : Int32) ≤ nI i from nI_ge (b := 1040) hi (by decide)), n1040, nI_mul, nI_add, gi_eq (inb_nI (by omega) (by decide)), gi_eq (inb_nI hi (by decide)), nI_clamp (by omega), nI_clamp (by omega), bw_eq, nI_1, show 1040 * k + i = k * 1040 + i by omega, Nat.zero_add])
  have o : ∀ c, c ≠ 0 → c ≠ 2 → wr v2 0 5 0 c = v c := fun c c0 c2 => by rw [wr_ne _ _ _ c0, f2 c c2]
  have o0 : ∀ q, q ≠ 5 → wr v2 0 5 0 0 q = v 0 q := fun q hq => by rw [wr_same, upd_ne _ _ hq, f2 0 (by decide)]
  refine ⟨wr v2 0 5 0, ?_, ⟨fun c c0 c2 c6 c7 c8 => by rw [o c c0 c2]; exact a1 c c0 c2 c6 c7 c8, fun q k5 k13 k17 => by rw [o0 q k5]; exact a2 q k5 k13 k17, a3, a4, a5, ⟨0, by decide, by rw [wr_same, upd_same]; rfl⟩, MT_eq a7 (o0 13 (by decide)) (o0 17 (by decide)) (o 6 (by decide) (by decide)) (o 7 (by decide) (by decide)), fun q hq => by rw [o 8 (by decide) (by decide)]; exact a8 q hq, ?_⟩, by rw [wr_same, upd_same]⟩
  · unfold fX6_load
    rw [show fX6_load_2 fX6_load_33 FU (nI k) (0 : Int32) v = fX6_load_33 v2 from e2]
    unfold fX6_load_33
    rw [bw_eq]
  · rw [wr_ne _ _ _ (by decide)]
    exact MC_eq (a7.2.2.2.1 k hk) (fun q hq => by rw [q2, if_pos (by omega), Nat.sub_zero])
