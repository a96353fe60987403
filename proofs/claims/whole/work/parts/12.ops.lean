-- what the acts do, on the state that both sides hold
def snd (x : XS) (i j kd nm : Nat) : XS := if (lt x (i * 6 + j)).length < 12 then ls (bs x (7 + kd) (bb x (7 + kd) + 1)) (i * 6 + j) (lt x (i * 6 + j) ++ [(kd, nm)]) else fs (bs x (7 + kd) (bb x (7 + kd) + 1)) 13 0 1
def ent (x : XS) (i : Nat) : XS := ((fs x 0 i 2).1, (bb x, (ev x + 1, fun m w => if m = ev x then (if w = 0 then nI i else if w = 1 then nI (ev x) - bb x (1 + i) else bb x 7 + bb x 8 + bb x 9) else lg x m w)))
def ru1 (x : XS) (i : Nat) : XS := match qu x i with
  | [] => x
  | f :: t => if fd x 5 i = i ∧ fd x 0 i ≠ 2 then (if f = i then ent (fs (fs (qs x i t) 5 i f) 6 i 0) i else snd (fs (fs (qs x i t) 5 i f) 6 i 0) i f 2 0) else x
def ru2 (x : XS) (i : Nat) : XS := if fd x 5 i ≠ i ∧ qu x i ≠ [] ∧ fd x 6 i = 0 then fs (snd x i (fd x 5 i) 0 0) 6 i 1 else x
def rul (x : XS) (i : Nat) : XS := ru2 (ru1 x i) i
def sno (x : XS) (i kd nm : Nat) : Nat → XS
  | 0 => x
  | j + 1 => if j = i then sno x i kd nm j else snd (sno x i kd nm j) i j kd nm
def gvo (m : Nat) (x : XS) (i : Nat) : Nat → XS
  | 0 => x
  | j + 1 => if m / 2 ^ j % 2 = 1 then snd (gvo m x i j) i j 1 0 else gvo m x i j
def rwo (x : XS) (i : Nat) : Nat → XS
  | 0 => x
  | j + 1 => if ¬ j ∈ qu (rwo x i j) 6 ∧ fd (rwo x i j) (20 + i) j = fd (rwo x i j) 9 j + 1 then qs (rwo x i j) 6 (qu (rwo x i j) 6 ++ [j]) else rwo x i j
def pas (x : XS) (i f : Nat) : XS := snd (fs x 5 6 6) i f 2 0
def pafi (x : XS) (i : Nat) : XS := match qu x 6 with
  | [] => x
  | f :: t => pas (qs x 6 t) i f
def wan (w n : Nat) (x : XS) (i : Nat) : XS :=
  if w = 0 then sno (fs (fs (fs (fs (bs (fs x 0 i 1) (1 + i) (nI (ev x))) 1 i (fd x 1 i + 1)) 2 i (fd x 1 i + 1)) 3 i (n - 1)) 7 i 0) i 0 (fd x 1 i + 1) n
  else if w = 1 then (if fd x 5 6 = i then ent (bs (fs x 0 i 1) (1 + i) (nI (ev x))) i else sno (fs (bs (fs x 0 i 1) (1 + i) (nI (ev x))) (20 + i) i (fd x (20 + i) i + 1)) i 0 (fd x (20 + i) i + 1) n)
  else rul (qs (bs (fs x 0 i 1) (1 + i) (nI (ev x))) i (qu x i ++ [i])) i
def lef (w n : Nat) (x : XS) (i : Nat) : XS :=
  if w = 0 then gvo (fd x 4 i) (fs (fs x 0 i 0) 4 i 0) i n
  else if w = 1 then pafi (rwo (fs (fs x 0 i 0) 9 i (fd x (20 + i) i)) i n) i
  else rul (fs x 0 i 0) i
def com (w : Nat) (x : XS) (i j : Nat) : XS := match lt x (i * 6 + j) with
  | [] => x
  | (kd, nm) :: t =>
    if w = 0 then
      (if kd = 0 then
        (if fd x 0 j = 2 ∨ fd x 0 j = 1 ∧ (fd x 2 j < nm ∨ fd x 2 j = nm ∧ j < i) then fs (fs (ls x (i * 6 + j) t) 1 j (Nat.max (fd x 1 j) nm + 1)) 4 j (fd x 4 j ||| 2 ^ i)
         else snd (fs (ls x (i * 6 + j) t) 1 j (Nat.max (fd x 1 j) nm + 1)) j i 1 0)
       else if fd x 3 j - 1 = 0 then ent (fs (fs (ls x (i * 6 + j) t) 7 j (fd x 7 j ||| 2 ^ i)) 3 j (fd x 3 j - 1)) j else fs (fs (ls x (i * 6 + j) t) 7 j (fd x 7 j ||| 2 ^ i)) 3 j (fd x 3 j - 1))
    else if w = 1 then
      (if kd = 0 then
        (if fd x 5 6 = j ∧ fd x 0 j = 0 ∧ Nat.max (fd x (20 + j) i) nm = fd x 9 i + 1 then pas (fs (ls x (i * 6 + j) t) (20 + j) i (Nat.max (fd x (20 + j) i) nm)) j i else fs (ls x (i * 6 + j) t) (20 + j) i (Nat.max (fd x (20 + j) i) nm))
       else ent (fs (ls x (i * 6 + j) t) 5 6 j) j)
    else
      (if kd = 0 then rul (qs (ls x (i * 6 + j) t) j (qu x j ++ [i])) j else rul (fs (ls x (i * 6 + j) t) 5 j j) j)
/-- the class's counts and the entries that its book has, from number lo on -/
def CB (lo : Nat) (x : XS) (u : Wo) : Prop := (∀ k, k < 3 → u 6 (608 + k) = bb x (7 + k)) ∧ u 6 611 = nI (ev x) ∧ (∀ i, i < 6 → u 6 (612 + i) = bb x (1 + i)) ∧ ∀ m, lo ≤ m → ev x ≤ m + 90 → m < ev x → ∀ w, w < 3 → u 7 (m % 90 * 3 + w) = lg x m w
/-- the class holds x: its other cells are those of U -/
def RC (U : Wo) (w n lo : Nat) (x : XS) (u : Wo) : Prop := (∀ c, c ≠ 1 → c ≠ 6 → c ≠ 7 → u c = U c) ∧ u 1 1 = nI w ∧ u 1 2 = nI n ∧ u 1 3 = nI (fd x 13 0) ∧ CC x (u 6) ∧ (U 3 2 = 1 → CB lo x u) ∧ (U 3 2 = 0 → u 7 = U 7)
/-- numbers are small, places are places -/
def WF (x : XS) : Prop := (∀ f i, fd x f i < 268435456) ∧ (∀ i, i < 6 → fd x 5 i < 6) ∧ (∀ i, i < 6 → fd x 4 i < 64 ∧ fd x 7 i < 64) ∧ (∀ i, ∀ q ∈ qu x i, q < 6) ∧ (∀ p, ∀ q ∈ lt x p, q.1 < 3 ∧ q.2 < 268435456) ∧ ev x < 268435456
theorem RC_row {U : Wo} {w n lo : Nat} {x y : XS} {u v : Wo} (h : RC U w n lo x u) (e : ∀ c, c ≠ 6 → v c = u c) (e2 : ∀ k, 608 ≤ k → v 6 k = u 6 k) (hc : CC y (v 6)) (ho : fd y 13 0 = fd x 13 0) (hy : y.2 = x.2) : RC U w n lo y v := by
  obtain ⟨h1, h2, h3, h4, h5, h6, h7⟩ := h
  have e1 : v 1 = u 1 := e 1 (by decide)
  refine ⟨fun c c1 c6 c7 => by rw [e c c6]; exact h1 c c1 c6 c7, by rw [e1]; exact h2, by rw [e1]; exact h3, by rw [e1, ho]; exact h4, hc, fun hU => ?_, fun hU => by rw [e 7 (by decide)]; exact h7 hU⟩
  obtain ⟨b1, b2, b3, b4⟩ := h6 hU
  unfold CB bb ev lg
  rw [hy]
  exact ⟨fun k hk => by rw [e2 _ (by omega)]; exact b1 k hk, by rw [e2 _ (by omega)]; exact b2, fun i hi => by rw [e2 _ (by omega)]; exact b3 i hi, fun m q1 q2 q3 z hz => by rw [e 7 (by decide)]; exact b4 m q1 q2 q3 z hz⟩
section CS
variable {U u : Wo} {w n lo : Nat} {x : XS}
theorem C_rd (h : RC U w n lo x u) {f i : Nat} (hf : okC f = true) (hi : i < 6) : fX3_of (nI i) (nI (lC f)) u = some (nI (fd x f i), u) := by
  have hl := lC_low f (okC_lt hf) hf
  rw [C_of u (by omega), h.2.2.2.2.1.1 f i hf hi]
theorem C_r0 (h : RC U w n lo x u) {i : Nat} (hi : i < 6) : fX3_of (nI i) (0 : Int32) u = some (nI (fd x 0 i), u) := C_rd h (f := 0) rfl hi
theorem C_r1 (h : RC U w n lo x u) {i : Nat} (hi : i < 6) : fX3_of (nI i) (6 : Int32) u = some (nI (fd x 1 i), u) := C_rd h (f := 1) rfl hi
theorem C_r2 (h : RC U w n lo x u) {i : Nat} (hi : i < 6) : fX3_of (nI i) (12 : Int32) u = some (nI (fd x 2 i), u) := C_rd h (f := 2) rfl hi
theorem C_r4 (h : RC U w n lo x u) {i : Nat} (hi : i < 6) : fX3_of (nI i) (24 : Int32) u = some (nI (fd x 4 i), u) := C_rd h (f := 4) rfl hi
theorem C_r5 (h : RC U w n lo x u) {i : Nat} (hi : i < 6) : fX3_of (nI i) (86 : Int32) u = some (nI (fd x 5 i), u) := C_rd h (f := 5) rfl hi
theorem C_r6 (h : RC U w n lo x u) {i : Nat} (hi : i < 6) : fX3_of (nI i) (92 : Int32) u = some (nI (fd x 6 i), u) := C_rd h (f := 6) rfl hi
theorem C_r7 (h : RC U w n lo x u) {i : Nat} (hi : i < 6) : fX3_of (nI i) (18 : Int32) u = some (nI (fd x 7 i), u) := C_rd h (f := 7) rfl hi
theorem C_r14 (h : RC U w n lo x u) {i : Nat} (hi : i < 6) : fX3_of (nI i) (80 : Int32) u = some (nI (fd x 14 i), u) := C_rd h (f := 14) rfl hi
theorem C_st (h : RC U w n lo x u) {f i : Nat} (v : Nat) (hf : okC f = true) (hi : i < 6) : Gd (fX3_set (nI i) (nI (lC f)) (nI v) u) (fun _ u1 => RC U w n lo (fs x f i v) u1) := by
  have hl := lC_low f (okC_lt hf) hf
  refine ⟨_, _, C_set u _ (by omega), RC_row h (fun c hc => wr_ne _ _ _ hc) (fun k hk => ?_) ?_ ?_ rfl⟩
  · rw [wr_same, upd_ne _ _ (by omega)]
  · rw [wr_same]; exact CC_field h.2.2.2.2.1 v hf hi
  · rw [fd_fs, if_neg (fun q => by rw [← q.1] at hf; cases hf)]
theorem C_rdk (h : RC U w n lo x u) {i j : Nat} (hi : i < 6) (hj : j < 6) : fX3_known (nI i) (nI j) u = some (nI (fd x (20 + i) j), u) := by
  have h1 := h.2.2.2.2.1.1 (20 + i) j (by simp [okC]; omega) hj
  rw [C_known u hi hj, ← lC_kn, h1]
theorem C_stk (h : RC U w n lo x u) {i j : Nat} (v : Nat) (hi : i < 6) (hj : j < 6) : Gd (fX3_setKnown (nI i) (nI j) (nI v) u) (fun _ u1 => RC U w n lo (fs x (20 + i) j v) u1) := by
  have ho : okC (20 + i) = true := by simp [okC]; omega
  have hl := lC_low _ (okC_lt ho) ho
  have he : 44 + i * 6 + j = lC (20 + i) + j := by rw [lC_kn]
  refine ⟨_, _, C_setKnown u _ hi hj, RC_row h (fun c hc => wr_ne _ _ _ hc) (fun k hk => ?_) ?_ ?_ rfl⟩
  · rw [wr_same, upd_ne _ _ (by omega)]
  · rw [wr_same, he]; exact CC_field h.2.2.2.2.1 v ho hj
  · rw [fd_fs, if_neg (fun q => by omega)]
theorem nI_bv (n : Nat) : (nI n).toBitVec = BitVec.ofNat 32 n := rfl
theorem nI_sh2 (n : Nat) : nI n <<< ((2 : Int32) &&& (31 : Int32)) = nI (4 * n) := by
  apply Int32.toBitVec_inj.mp
  rw [Int32.toBitVec_shiftLeft, show (((2 : Int32) &&& (31 : Int32)).toBitVec.smod 32) = 2#32 from by decide, nI_bv, nI_bv]
  apply BitVec.eq_of_toNat_eq
  simp only [BitVec.shiftLeft_eq', BitVec.toNat_shiftLeft, BitVec.toNat_ofNat, Nat.shiftLeft_eq]
  show n % 4294967296 * 4 % 4294967296 = 4 * n % 4294967296
  omega
theorem nI_or (a b : Nat) : nI a ||| nI b = nI (a ||| b) := by
  apply Int32.toBitVec_inj.mp
  rw [Int32.toBitVec_or, nI_bv, nI_bv, nI_bv]
  apply BitVec.eq_of_toNat_eq
  simp only [BitVec.toNat_or, BitVec.toNat_ofNat]
  exact (Nat.or_mod_two_pow (n := 32)).symm
theorem nI_and (a b : Nat) : nI a &&& nI b = nI (a &&& b) := by
  apply Int32.toBitVec_inj.mp
  rw [Int32.toBitVec_and, nI_bv, nI_bv, nI_bv]
  apply BitVec.eq_of_toNat_eq
  simp only [BitVec.toNat_and, BitVec.toNat_ofNat]
  exact (Nat.and_mod_two_pow (n := 32)).symm
theorem pack_nI {kd nm : Nat} (hk : kd < 3) : (nI nm <<< ((2 : Int32) &&& (31 : Int32)) ||| nI kd) = nI (pk (kd, nm)) := by
  rw [nI_sh2, nI_or]
  have h := Nat.shiftLeft_add_eq_or_of_lt (b := kd) (i := 2) (by omega) nm
  rw [Nat.shiftLeft_eq] at h
  unfold pk
  rw [show 4 * nm = nm * 2 ^ 2 from by omega, ← h]
theorem C_kindOf (u : Wo) {kd nm : Nat} (hk : kd < 3) : fX3_kindOf (nI (pk (kd, nm))) u = some (nI kd, u) := by
  unfold fX3_kindOf
  rw [n3, nI_and, show (3 : Nat) = 2 ^ 2 - 1 from rfl, Nat.and_two_pow_sub_one_eq_mod, show pk (kd, nm) % 2 ^ 2 = kd from by unfold pk; omega]
theorem nI_shr {x j : Nat} (hx : x < 2 ^ 31) (hj : j < 32) : nI x >>> (nI j &&& (31 : Int32)) = nI (x / 2 ^ j) := by
  have hs : ∀ j : Fin 32, ((nI j.1 &&& (31 : Int32)).toBitVec.smod 32).toNat = j.1 := by decide +kernel
  apply Int32.toBitVec_inj.mp
  rw [Int32.toBitVec_shiftRight, nI_bv, nI_bv]
  have hm : (BitVec.ofNat 32 x).msb = false := by
    rw [BitVec.msb_eq_decide]
    simp only [BitVec.toNat_ofNat, decide_eq_false_iff_not]
    omega
  rw [BitVec.sshiftRight', BitVec.sshiftRight_eq_of_msb_false hm, hs ⟨j, hj⟩]
  apply BitVec.eq_of_toNat_eq
  simp only [BitVec.toNat_ushiftRight, BitVec.toNat_ofNat, Nat.shiftRight_eq_div_pow]
  have : x / 2 ^ j ≤ x := Nat.div_le_self _ _
  rw [Nat.mod_eq_of_lt (by omega), Nat.mod_eq_of_lt (by omega)]
theorem C_numberOf (u : Wo) {kd nm : Nat} (hk : kd < 3) (hn : nm < 268435456) : fX3_numberOf (nI (pk (kd, nm))) u = some (nI nm, u) := by
  unfold fX3_numberOf
  have h := nI_shr (x := pk (kd, nm)) (j := 2) (by unfold pk; omega) (by omega)
  rw [n2, h, show pk (kd, nm) / 2 ^ 2 = nm from by unfold pk; omega]
theorem m_or : ∀ (m : Fin 64) (j : Fin 6), nI m.1 ||| ((1 : Int32) <<< (nI j.1 &&& (31 : Int32))) = nI (m.1 ||| 2 ^ j.1) := by decide +kernel
theorem m_bit : ∀ (m : Fin 64) (j : Fin 6), (nI m.1 >>> (nI j.1 &&& (31 : Int32))) &&& 1 = nI (m.1 / 2 ^ j.1 % 2) := by decide +kernel
theorem m_or_lt : ∀ (m : Fin 64) (j : Fin 6), m.1 ||| 2 ^ j.1 < 64 := by decide +kernel
end CS
