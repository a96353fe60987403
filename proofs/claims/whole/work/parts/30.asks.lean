-- both sides together: what only asks
theorem bd_s (r : Int32) (u : Wo) (f : Int32 → Wo → Re) : bd (some (r, u)) f = f r u := rfl
def tk (w : Nat) (x : XS) (i : Nat) : Int32 := if w = 1 then (if fd x 5 6 = i then 1 else 0) else if w = 2 then (if fd x 5 i = i then 1 else 0) else 0
theorem tk_01 (w : Nat) (x : XS) (i : Nat) : tk w x i = 0 ∨ tk w x i = 1 := by
  unfold tk
  split
  · split
    · exact Or.inr rfl
    · exact Or.inl rfl
  · split
    · split
      · exact Or.inr rfl
      · exact Or.inl rfl
    · exact Or.inl rfl
theorem CC_rd {x : XS} {u : Wo} (hc : CC x (u 6)) {f i : Nat} (hf : okC f = true) (hi : i < 6) : fX3_of (nI i) (nI (lC f)) u = some (nI (fd x f i), u) := by
  have hl := lC_low f (okC_lt hf) hf
  rw [C_of u (by omega), hc.1 f i hf hi]
theorem plC_eq {h i : Nat} (hi : i < 6) : plC h = nI i ↔ h = i := by
  unfold plC
  by_cases h6 : h < 6
  · rw [if_pos h6]
    exact ⟨fun q => nI_inj (by omega) (by omega) q, fun q => by rw [q]⟩
  · rw [if_neg h6]
    refine ⟨fun q => ?_, fun q => by omega⟩
    have := nI_pos (n := i) (by omega)
    rw [← q] at this
    exact (this (by decide)).elim
theorem plM_eq {h i : Nat} (hi : i < 6) : plM h = nI i ↔ h = i := by
  unfold plM
  by_cases h6 : h < 6
  · rw [if_pos h6]
    exact ⟨fun q => nI_inj (by omega) (by omega) q, fun q => by rw [q]⟩
  · rw [if_neg h6]
    refine ⟨fun q => ?_, fun q => by omega⟩
    have := nI_pos (n := i) (by omega)
    rw [← q] at this
    exact (this (by decide)).elim
theorem C_tk {w : Nat} {x : XS} {u : Wo} (hw : w < 3) (hc : CC x (u 6)) (hu : u 1 1 = nI w) {i : Nat} (hi : i < 6) (hb : fd x 5 i < 2 ^ 31) : fX3_hasToken (nI i) u = some (tk w x i, u) := by
  unfold fX3_hasToken fX3_hasToken_18 tk
  rw [hu]
  rcases (show w = 0 ∨ w = 1 ∨ w = 2 by omega) with rfl | rfl | rfl
  · rw [if_neg (by decide), if_neg (by decide), if_neg (by decide), if_neg (by decide)]; rfl
  · rw [if_pos (by decide), if_pos rfl, bd_eq (show fX3_get (30 : Int32) u = some (u 6 30, u) from C_get (k := 30) u (by omega)), hc.2.1]
    by_cases e : fd x 5 6 = i
    · rw [if_pos ((plC_eq hi).mpr e), if_pos e]; rfl
    · rw [if_neg (fun q => e ((plC_eq hi).mp q)), if_neg e, hu, if_neg (by decide)]; rfl
  · rw [if_neg (by decide), if_pos (by decide), if_neg (by decide), if_pos rfl, bd_eq (show fX3_of (nI i) (86 : Int32) u = some (nI (fd x 5 i), u) from CC_rd hc (f := 5) rfl hi)]
    by_cases e : fd x 5 i = i
    · rw [if_pos (by rw [e]), if_pos e]; rfl
    · rw [if_neg (fun q => e (nI_inj hb (by omega) q)), if_neg e]; rfl
theorem M_tk {w n : Nat} {x : XS} {v : Wo} (hw : w < 3) (hc : MC w n x (v 2)) (hv : v 0 0 = nI w) {i : Nat} (hi : i < 6) (hb : fd x 5 i < 2 ^ 31) : fX6_hasToken (nI i) v = some (tk w x i, v) := by
  unfold fX6_hasToken tk
  rw [hv]
  rcases (show w = 0 ∨ w = 1 ∨ w = 2 by omega) with rfl | rfl | rfl
  · rw [if_neg (by decide), if_neg (by decide), if_neg (by decide), if_neg (by decide)]; rfl
  · rw [if_pos (by decide), if_pos rfl, gi_eq (by decide), show ((126 : Int32)).toNatClampNeg = 126 from rfl, hc.2.2.2.1]
    by_cases e : fd x 5 6 = i
    · rw [if_pos ((plM_eq hi).mpr e), if_pos e]; rfl
    · rw [if_neg (fun q => e ((plM_eq hi).mp q)), if_neg e]; rfl
  · rw [if_neg (show ¬ nI 2 = (1 : Int32) from by decide), if_pos (show nI 2 = (2 : Int32) from by decide), if_neg (show ¬ (2 : Nat) = 1 from by decide), if_pos (rfl : (2 : Nat) = 2), show (21 : Int32) * nI i + (5 : Int32) = nI (21 * i + 5) from by rw [n21, n5, nI_mul, nI_add], gi_eq (inb_nI (by omega) (by decide)), nI_clamp (by omega), show v 2 (21 * i + 5) = nI (fd x 5 i) from hc.1 5 i rfl hi]
    by_cases e : fd x 5 i = i
    · rw [if_pos (by rw [e]), if_pos e]; rfl
    · rw [if_neg (fun q => e (nI_inj hb (by omega) q)), if_neg e]; rfl
theorem C_still {x : XS} {u : Wo} {n i : Nat} (hc : CC x (u 6)) (hu : u 1 2 = nI n) (hi : i < 6) (h0 : fd x 0 i < 2 ^ 31) (h7 : fd x 7 i < 64) (hm : fd x 0 i = 1 → fd x 3 i + pc6 (fd x 7 i) + 1 = n) : fX4_stillToCome (nI i) u = some (if fd x 0 i = 1 then nI (fd x 3 i) else 0, u) := by
  unfold fX4_stillToCome
  rw [bd_eq (show fX3_of (nI i) (0 : Int32) u = some (nI (fd x 0 i), u) from CC_rd hc (f := 0) rfl hi)]
  unfold fX4_stillToCome_18 fX4_stillToCome_50
  by_cases e : fd x 0 i = 1
  · rw [if_pos (show nI (fd x 0 i) = (1 : Int32) from by rw [e]; rfl), if_neg (by decide), bd_eq (show fX3_of (nI i) (18 : Int32) u = some (nI (fd x 7 i), u) from CC_rd hc (f := 7) rfl hi), bd_eq (C_bitCount u h7), hu, if_pos e]
    have := hm e
    rw [n1, nI_sub (by omega), nI_sub (by omega), show n - 1 - pc6 (fd x 7 i) = fd x 3 i by omega]
  · rw [if_neg (show ¬ nI (fd x 0 i) = (1 : Int32) from nI_ne (b := 1) h0 (by decide) e), if_pos rfl, if_neg e]

/-- what a keeper tells -/
def kv (w : Nat) (x : XS) (i k : Nat) : Int32 :=
  if k = 0 then nI (fd x 0 i) else if k = 1 then (if w = 0 then nI (fd x 1 i) else 0)
  else if k = 2 then (if w = 0 then nI (fd x 2 i) else if w = 1 then nI (fd x (20 + i) i) else 0)
  else if k = 3 then (if w = 0 then (if fd x 0 i = 1 then nI (fd x 3 i) else 0) else 0)
  else if k = 4 then (if w = 0 then nI (fd x 4 i) else 0) else if k = 5 then tk w x i
  else if k = 6 then (if w = 2 then nI (fd x 5 i) else -4) else if k = 7 then (if w = 2 then nI (fd x 6 i) else 0)
  else if k = 8 then (if w = 2 then nI (qu x i).length else 0) else if w = 2 then (if i = 0 then -4 else nI (fd x 14 i)) else -4
theorem C_keeper {w n : Nat} {x : XS} {u : Wo} (hw : w < 3) (hc : CC x (u 6)) (hu : u 1 1 = nI w) (hu2 : u 1 2 = nI n) {i k : Nat} (hi : i < 6) (hk : k < 10) (k1 : fX3_isKeeper (nI i) u = some (1, u)) (h5 : fd x 5 i < 2 ^ 31) (h0 : fd x 0 i < 2 ^ 31) (h7 : fd x 7 i < 64) (hm : w = 0 → fd x 0 i = 1 → fd x 3 i + pc6 (fd x 7 i) + 1 = n) : fX5_keeper (nI i) (nI k) u = some (kv w x i k, u) := by
  have a0 : fX3_of (nI i) (0 : Int32) u = some (nI (fd x 0 i), u) := CC_rd hc (f := 0) rfl hi
  have a1 : fX3_of (nI i) (6 : Int32) u = some (nI (fd x 1 i), u) := CC_rd hc (f := 1) rfl hi
  have a2 : fX3_of (nI i) (12 : Int32) u = some (nI (fd x 2 i), u) := CC_rd hc (f := 2) rfl hi
  have a4 : fX3_of (nI i) (24 : Int32) u = some (nI (fd x 4 i), u) := CC_rd hc (f := 4) rfl hi
  have a5 : fX3_of (nI i) (86 : Int32) u = some (nI (fd x 5 i), u) := CC_rd hc (f := 5) rfl hi
  have a6 : fX3_of (nI i) (92 : Int32) u = some (nI (fd x 6 i), u) := CC_rd hc (f := 6) rfl hi
  have a14 : fX3_of (nI i) (80 : Int32) u = some (nI (fd x 14 i), u) := CC_rd hc (f := 14) rfl hi
  have at' := C_tk hw hc hu hi h5
  have akn : fX3_known (nI i) (nI i) u = some (nI (fd x (20 + i) i), u) := by
    have := hc.1 (20 + i) i (by unfold okC; simp; omega) hi
    rw [lC_kn] at this
    rw [C_known u hi hi, this]
  have aq : fX3_get (nI (98 + i * 7)) u = some (nI (qu x i).length, u) := by rw [C_get u (by omega), (hc.2.2.2.1 i hi).1]
  unfold fX5_keeper fX5_keeper_28 fX5_keeper_45
  rw [bd_eq k1, if_neg (by decide), hu]
  rcases (show k = 0 ∨ k = 1 ∨ k = 2 ∨ k = 3 ∨ k = 4 ∨ k = 5 ∨ k = 6 ∨ k = 7 ∨ k = 8 ∨ k = 9 by omega) with rfl | rfl | rfl | rfl | rfl | rfl | rfl | rfl | rfl | rfl <;> rcases (show w = 0 ∨ w = 1 ∨ w = 2 by omega) with rfl | rfl | rfl
  · simp (decide := true) only [↓reduceIte, bd_s, hu, a0, a1, a2, a4, a5, a6, a14, akn, C_queueOf, aq, fX5_keeper_132, fX5_keeper_155, fX5_keeper_174, fX5_keeper_191, fX5_keeper_212, fX5_keeper_232, fX5_keeper_253, fX5_keeper_278, fX5_keeper_276, fX5_timeOf, fX5_timeOf_45, kv]
  · simp (decide := true) only [↓reduceIte, bd_s, hu, a0, a1, a2, a4, a5, a6, a14, akn, C_queueOf, aq, fX5_keeper_132, fX5_keeper_155, fX5_keeper_174, fX5_keeper_191, fX5_keeper_212, fX5_keeper_232, fX5_keeper_253, fX5_keeper_278, fX5_keeper_276, fX5_timeOf, fX5_timeOf_45, kv]
  · simp (decide := true) only [↓reduceIte, bd_s, hu, a0, a1, a2, a4, a5, a6, a14, akn, C_queueOf, aq, fX5_keeper_132, fX5_keeper_155, fX5_keeper_174, fX5_keeper_191, fX5_keeper_212, fX5_keeper_232, fX5_keeper_253, fX5_keeper_278, fX5_keeper_276, fX5_timeOf, fX5_timeOf_45, kv]
  · simp (decide := true) only [↓reduceIte, bd_s, hu, a0, a1, a2, a4, a5, a6, a14, akn, C_queueOf, aq, fX5_keeper_132, fX5_keeper_155, fX5_keeper_174, fX5_keeper_191, fX5_keeper_212, fX5_keeper_232, fX5_keeper_253, fX5_keeper_278, fX5_keeper_276, fX5_timeOf, fX5_timeOf_45, kv]
  · simp (decide := true) only [↓reduceIte, bd_s, hu, a0, a1, a2, a4, a5, a6, a14, akn, C_queueOf, aq, fX5_keeper_132, fX5_keeper_155, fX5_keeper_174, fX5_keeper_191, fX5_keeper_212, fX5_keeper_232, fX5_keeper_253, fX5_keeper_278, fX5_keeper_276, fX5_timeOf, fX5_timeOf_45, kv]
  · simp (decide := true) only [↓reduceIte, bd_s, hu, a0, a1, a2, a4, a5, a6, a14, akn, C_queueOf, aq, fX5_keeper_132, fX5_keeper_155, fX5_keeper_174, fX5_keeper_191, fX5_keeper_212, fX5_keeper_232, fX5_keeper_253, fX5_keeper_278, fX5_keeper_276, fX5_timeOf, fX5_timeOf_45, kv]
  · simp (decide := true) only [↓reduceIte, bd_s, hu, a0, a1, a2, a4, a5, a6, a14, akn, C_queueOf, aq, fX5_keeper_132, fX5_keeper_155, fX5_keeper_174, fX5_keeper_191, fX5_keeper_212, fX5_keeper_232, fX5_keeper_253, fX5_keeper_278, fX5_keeper_276, fX5_timeOf, fX5_timeOf_45, kv]
  · simp (decide := true) only [↓reduceIte, bd_s, hu, a0, a1, a2, a4, a5, a6, a14, akn, C_queueOf, aq, fX5_keeper_132, fX5_keeper_155, fX5_keeper_174, fX5_keeper_191, fX5_keeper_212, fX5_keeper_232, fX5_keeper_253, fX5_keeper_278, fX5_keeper_276, fX5_timeOf, fX5_timeOf_45, kv]
  · simp (decide := true) only [↓reduceIte, bd_s, hu, a0, a1, a2, a4, a5, a6, a14, akn, C_queueOf, aq, fX5_keeper_132, fX5_keeper_155, fX5_keeper_174, fX5_keeper_191, fX5_keeper_212, fX5_keeper_232, fX5_keeper_253, fX5_keeper_278, fX5_keeper_276, fX5_timeOf, fX5_timeOf_45, kv]
  · have as := C_still hc hu2 hi h0 h7 (hm rfl)
    simp (decide := true) only [↓reduceIte, bd_s, as, fX5_keeper_132, fX5_keeper_155, fX5_keeper_174, fX5_keeper_191, fX5_keeper_212, fX5_keeper_232, fX5_keeper_253, fX5_keeper_278, fX5_keeper_276, fX5_timeOf, fX5_timeOf_45, kv]
  · simp (decide := true) only [↓reduceIte, bd_s, hu, a0, a1, a2, a4, a5, a6, a14, akn, C_queueOf, aq, fX5_keeper_132, fX5_keeper_155, fX5_keeper_174, fX5_keeper_191, fX5_keeper_212, fX5_keeper_232, fX5_keeper_253, fX5_keeper_278, fX5_keeper_276, fX5_timeOf, fX5_timeOf_45, kv]
  · simp (decide := true) only [↓reduceIte, bd_s, hu, a0, a1, a2, a4, a5, a6, a14, akn, C_queueOf, aq, fX5_keeper_132, fX5_keeper_155, fX5_keeper_174, fX5_keeper_191, fX5_keeper_212, fX5_keeper_232, fX5_keeper_253, fX5_keeper_278, fX5_keeper_276, fX5_timeOf, fX5_timeOf_45, kv]
  · simp (decide := true) only [↓reduceIte, bd_s, hu, a0, a1, a2, a4, a5, a6, a14, akn, C_queueOf, aq, fX5_keeper_132, fX5_keeper_155, fX5_keeper_174, fX5_keeper_191, fX5_keeper_212, fX5_keeper_232, fX5_keeper_253, fX5_keeper_278, fX5_keeper_276, fX5_timeOf, fX5_timeOf_45, kv]
  · simp (decide := true) only [↓reduceIte, bd_s, hu, a0, a1, a2, a4, a5, a6, a14, akn, C_queueOf, aq, fX5_keeper_132, fX5_keeper_155, fX5_keeper_174, fX5_keeper_191, fX5_keeper_212, fX5_keeper_232, fX5_keeper_253, fX5_keeper_278, fX5_keeper_276, fX5_timeOf, fX5_timeOf_45, kv]
  · simp (decide := true) only [↓reduceIte, bd_s, hu, a0, a1, a2, a4, a5, a6, a14, akn, C_queueOf, aq, fX5_keeper_132, fX5_keeper_155, fX5_keeper_174, fX5_keeper_191, fX5_keeper_212, fX5_keeper_232, fX5_keeper_253, fX5_keeper_278, fX5_keeper_276, fX5_timeOf, fX5_timeOf_45, kv]
  · rcases tk_01 0 x i with e | e <;> rw [e] at at' <;> simp (decide := true) only [↓reduceIte, bd_s, at', fX5_keeper_132, fX5_keeper_155, fX5_keeper_174, fX5_keeper_191, fX5_keeper_212, fX5_keeper_232, fX5_keeper_253, fX5_keeper_278, fX5_keeper_276, fX5_timeOf, fX5_timeOf_45, kv, e]
  · rcases tk_01 1 x i with e | e <;> rw [e] at at' <;> simp (decide := true) only [↓reduceIte, bd_s, at', fX5_keeper_132, fX5_keeper_155, fX5_keeper_174, fX5_keeper_191, fX5_keeper_212, fX5_keeper_232, fX5_keeper_253, fX5_keeper_278, fX5_keeper_276, fX5_timeOf, fX5_timeOf_45, kv, e]
  · rcases tk_01 2 x i with e | e <;> rw [e] at at' <;> simp (decide := true) only [↓reduceIte, bd_s, at', fX5_keeper_132, fX5_keeper_155, fX5_keeper_174, fX5_keeper_191, fX5_keeper_212, fX5_keeper_232, fX5_keeper_253, fX5_keeper_278, fX5_keeper_276, fX5_timeOf, fX5_timeOf_45, kv, e]
  · simp (decide := true) only [↓reduceIte, bd_s, hu, a0, a1, a2, a4, a5, a6, a14, akn, C_queueOf, aq, fX5_keeper_132, fX5_keeper_155, fX5_keeper_174, fX5_keeper_191, fX5_keeper_212, fX5_keeper_232, fX5_keeper_253, fX5_keeper_278, fX5_keeper_276, fX5_timeOf, fX5_timeOf_45, kv]
  · simp (decide := true) only [↓reduceIte, bd_s, hu, a0, a1, a2, a4, a5, a6, a14, akn, C_queueOf, aq, fX5_keeper_132, fX5_keeper_155, fX5_keeper_174, fX5_keeper_191, fX5_keeper_212, fX5_keeper_232, fX5_keeper_253, fX5_keeper_278, fX5_keeper_276, fX5_timeOf, fX5_timeOf_45, kv]
  · simp (decide := true) only [↓reduceIte, bd_s, hu, a0, a1, a2, a4, a5, a6, a14, akn, C_queueOf, aq, fX5_keeper_132, fX5_keeper_155, fX5_keeper_174, fX5_keeper_191, fX5_keeper_212, fX5_keeper_232, fX5_keeper_253, fX5_keeper_278, fX5_keeper_276, fX5_timeOf, fX5_timeOf_45, kv]
  · simp (decide := true) only [↓reduceIte, bd_s, hu, a0, a1, a2, a4, a5, a6, a14, akn, C_queueOf, aq, fX5_keeper_132, fX5_keeper_155, fX5_keeper_174, fX5_keeper_191, fX5_keeper_212, fX5_keeper_232, fX5_keeper_253, fX5_keeper_278, fX5_keeper_276, fX5_timeOf, fX5_timeOf_45, kv]
  · simp (decide := true) only [↓reduceIte, bd_s, hu, a0, a1, a2, a4, a5, a6, a14, akn, C_queueOf, aq, fX5_keeper_132, fX5_keeper_155, fX5_keeper_174, fX5_keeper_191, fX5_keeper_212, fX5_keeper_232, fX5_keeper_253, fX5_keeper_278, fX5_keeper_276, fX5_timeOf, fX5_timeOf_45, kv]
  · simp (decide := true) only [↓reduceIte, bd_s, hu, a0, a1, a2, a4, a5, a6, a14, akn, C_queueOf, aq, fX5_keeper_132, fX5_keeper_155, fX5_keeper_174, fX5_keeper_191, fX5_keeper_212, fX5_keeper_232, fX5_keeper_253, fX5_keeper_278, fX5_keeper_276, fX5_timeOf, fX5_timeOf_45, kv]
  · simp (decide := true) only [↓reduceIte, bd_s, hu, a0, a1, a2, a4, a5, a6, a14, akn, C_queueOf, aq, fX5_keeper_132, fX5_keeper_155, fX5_keeper_174, fX5_keeper_191, fX5_keeper_212, fX5_keeper_232, fX5_keeper_253, fX5_keeper_278, fX5_keeper_276, fX5_timeOf, fX5_timeOf_45, kv]
  · simp (decide := true) only [↓reduceIte, bd_s, hu, a0, a1, a2, a4, a5, a6, a14, akn, C_queueOf, aq, fX5_keeper_132, fX5_keeper_155, fX5_keeper_174, fX5_keeper_191, fX5_keeper_212, fX5_keeper_232, fX5_keeper_253, fX5_keeper_278, fX5_keeper_276, fX5_timeOf, fX5_timeOf_45, kv]
  · simp (decide := true) only [↓reduceIte, bd_s, hu, a0, a1, a2, a4, a5, a6, a14, akn, C_queueOf, aq, fX5_keeper_132, fX5_keeper_155, fX5_keeper_174, fX5_keeper_191, fX5_keeper_212, fX5_keeper_232, fX5_keeper_253, fX5_keeper_278, fX5_keeper_276, fX5_timeOf, fX5_timeOf_45, kv]
  · simp (decide := true) only [↓reduceIte, bd_s, hu, a0, a1, a2, a4, a5, a6, a14, akn, C_queueOf, aq, fX5_keeper_132, fX5_keeper_155, fX5_keeper_174, fX5_keeper_191, fX5_keeper_212, fX5_keeper_232, fX5_keeper_253, fX5_keeper_278, fX5_keeper_276, fX5_timeOf, fX5_timeOf_45, kv]
  · simp (decide := true) only [↓reduceIte, bd_s, hu, a0, a1, a2, a4, a5, a6, a14, akn, C_queueOf, aq, fX5_keeper_132, fX5_keeper_155, fX5_keeper_174, fX5_keeper_191, fX5_keeper_212, fX5_keeper_232, fX5_keeper_253, fX5_keeper_278, fX5_keeper_276, fX5_timeOf, fX5_timeOf_45, kv]
  · by_cases ei : i = 0
    · subst ei
      simp (decide := true) only [↓reduceIte, bd_s, fX5_keeper_132, fX5_keeper_155, fX5_keeper_174, fX5_keeper_191, fX5_keeper_212, fX5_keeper_232, fX5_keeper_253, fX5_keeper_278, fX5_keeper_276, fX5_timeOf, fX5_timeOf_45, kv]
    · have e2 : ¬ nI i ≤ 0 := nI_nle (by omega) (by omega)
      simp (decide := true) only [↓reduceIte, bd_s, a14, fX5_keeper_132, fX5_keeper_155, fX5_keeper_174, fX5_keeper_191, fX5_keeper_212, fX5_keeper_232, fX5_keeper_253, fX5_keeper_278, fX5_keeper_276, fX5_timeOf, fX5_timeOf_45, kv, e2, ei]
theorem M_keeper {w n : Nat} {x : XS} {v : Wo} (hw : w < 3) (hc : MC w n x (v 2)) (hv : v 0 0 = nI w) (zr : ZR w x) {i k : Nat} (hi : i < 6) (hin : i < n) (hk : k < 10) (k1 : fX6_isKeeper (nI i) v = some (1, v)) (h5 : fd x 5 i < 2 ^ 31) (h0 : fd x 0 i < 2 ^ 31) (p0 : v 1 0 = -4) (p1 : w = 2 → ∀ i, 0 < i → i < n → v 1 i = nI (fd x 14 i)) : fX6_keeper (nI i) (nI k) v = some (kv w x i k, v) := by
  have g : ∀ c, c < 21 → inb (nI (21 * i + c)) 1040 = true ∧ (nI (21 * i + c)).toNatClampNeg = 21 * i + c := fun c hc => ⟨inb_nI (by omega) (by decide), nI_clamp (by omega)⟩
  have gk : inb (nI (21 * i + 14 + i)) 1040 = true ∧ (nI (21 * i + 14 + i)).toNatClampNeg = 21 * i + 14 + i := ⟨inb_nI (by omega) (by decide), nI_clamp (by omega)⟩
  have gp : inb (nI i) 6 = true ∧ (nI i).toNatClampNeg = i := ⟨inb_nI hi (by decide), nI_clamp (by omega)⟩
  have c0 : (21 : Int32) * nI i + (0 : Int32) = nI (21 * i + 0) := by rw [n21, n0, nI_mul, nI_add]
  have c1 : (21 : Int32) * nI i + (1 : Int32) = nI (21 * i + 1) := by rw [n21, n1, nI_mul, nI_add]
  have c2 : (21 : Int32) * nI i + (2 : Int32) = nI (21 * i + 2) := by rw [n21, n2, nI_mul, nI_add]
  have c3 : (21 : Int32) * nI i + (3 : Int32) = nI (21 * i + 3) := by rw [n21, n3, nI_mul, nI_add]
  have c4 : (21 : Int32) * nI i + (4 : Int32) = nI (21 * i + 4) := by rw [n21, n4, nI_mul, nI_add]
  have c5 : (21 : Int32) * nI i + (5 : Int32) = nI (21 * i + 5) := by rw [n21, n5, nI_mul, nI_add]
  have c6 : (21 : Int32) * nI i + (6 : Int32) = nI (21 * i + 6) := by rw [n21, n6, nI_mul, nI_add]
  have c7 : (21 : Int32) * nI i + (7 : Int32) = nI (21 * i + 7) := by rw [n21, n7, nI_mul, nI_add]
  have ck : (21 : Int32) * nI i + (14 : Int32) + nI i = nI (21 * i + 14 + i) := by rw [n21, n14, nI_mul, nI_add, nI_add]
  have v0 : v 2 (21 * i + 0) = nI (fd x 0 i) := hc.1 0 i rfl hi
  have v1 : v 2 (21 * i + 1) = nI (fd x 1 i) := hc.1 1 i rfl hi
  have v2 : v 2 (21 * i + 2) = nI (fd x 2 i) := hc.1 2 i rfl hi
  have v3 : v 2 (21 * i + 3) = nI (fd x 3 i) := hc.1 3 i rfl hi
  have v4 : v 2 (21 * i + 4) = nI (fd x 4 i) := hc.1 4 i rfl hi
  have v5 : w = 2 → v 2 (21 * i + 5) = nI (fd x 5 i) := fun q => hc.1 5 i (by subst q; rfl) hi
  have v6 : v 2 (21 * i + 6) = nI (fd x 6 i) := hc.1 6 i rfl hi
  have v7 : v 2 (21 * i + 7) = nI (qu x i).length := (hc.2.2.2.2.2.1 i hi).1
  have vk : v 2 (21 * i + 14 + i) = nI (fd x (20 + i) i) := by
    have := hc.1 (20 + i) i (by unfold okM; simp; omega) hi
    rw [lM, if_pos (by omega), Nat.add_sub_cancel_left] at this
    exact this
  have vt := M_tk hw hc hv hi h5
  have z4 : w ≠ 0 → nI (fd x 4 i) = 0 := fun q => by rw [(zr.1 q i hi).2.2.2.1]; rfl
  have z6 : w ≠ 2 → nI (fd x 6 i) = 0 := fun q => by rw [(zr.2.2 q i hi).2.1]; rfl
  have z7 : w ≠ 2 → nI (qu x i).length = 0 := fun q => by rw [(zr.2.2 q i hi).2.2]; rfl
  have hin9 : fX6_in (nI k) (0 : Int32) (9 : Int32) v = some (1, v) := by
    unfold fX6_in
    rw [if_neg (nI_pos (by omega)), n9, if_neg (nI_nlt (by omega) (by decide))]
    rfl
  unfold fX6_keeper
  rw [bd_eq k1, if_neg (by decide), bd_eq hin9, if_neg (by decide), hv]
  rcases (show k = 0 ∨ k = 1 ∨ k = 2 ∨ k = 3 ∨ k = 4 ∨ k = 5 ∨ k = 6 ∨ k = 7 ∨ k = 8 ∨ k = 9 by omega) with rfl | rfl | rfl | rfl | rfl | rfl | rfl | rfl | rfl | rfl <;> rcases (show w = 0 ∨ w = 1 ∨ w = 2 by omega) with rfl | rfl | rfl
  · simp (decide := true) only [↓reduceIte, gi_eq (g 0 (by decide)).1, (g 0 (by decide)).2, c0, v0, fX6_keeper_104, fX6_keeper_146, fX6_keeper_178, fX6_keeper_177, fX6_keeper_201, fX6_keeper_223, fX6_keeper_263, kv]
  · simp (decide := true) only [↓reduceIte, gi_eq (g 0 (by decide)).1, (g 0 (by decide)).2, c0, v0, fX6_keeper_104, fX6_keeper_146, fX6_keeper_178, fX6_keeper_177, fX6_keeper_201, fX6_keeper_223, fX6_keeper_263, kv]
  · simp (decide := true) only [↓reduceIte, gi_eq (g 0 (by decide)).1, (g 0 (by decide)).2, c0, v0, fX6_keeper_104, fX6_keeper_146, fX6_keeper_178, fX6_keeper_177, fX6_keeper_201, fX6_keeper_223, fX6_keeper_263, kv]
  · simp (decide := true) only [↓reduceIte, gi_eq (g 1 (by decide)).1, (g 1 (by decide)).2, c1, v1, fX6_keeper_104, fX6_keeper_146, fX6_keeper_178, fX6_keeper_177, fX6_keeper_201, fX6_keeper_223, fX6_keeper_263, kv]
  · simp (decide := true) only [↓reduceIte, fX6_keeper_104, fX6_keeper_146, fX6_keeper_178, fX6_keeper_177, fX6_keeper_201, fX6_keeper_223, fX6_keeper_263, kv]
  · simp (decide := true) only [↓reduceIte, fX6_keeper_104, fX6_keeper_146, fX6_keeper_178, fX6_keeper_177, fX6_keeper_201, fX6_keeper_223, fX6_keeper_263, kv]
  · simp (decide := true) only [↓reduceIte, gi_eq (g 2 (by decide)).1, (g 2 (by decide)).2, c2, v2, fX6_keeper_104, fX6_keeper_146, fX6_keeper_178, fX6_keeper_177, fX6_keeper_201, fX6_keeper_223, fX6_keeper_263, kv]
  · simp (decide := true) only [↓reduceIte, gi_eq gk.1, gk.2, ck, vk, fX6_keeper_104, fX6_keeper_146, fX6_keeper_178, fX6_keeper_177, fX6_keeper_201, fX6_keeper_223, fX6_keeper_263, kv]
  · simp (decide := true) only [↓reduceIte, fX6_keeper_104, fX6_keeper_146, fX6_keeper_178, fX6_keeper_177, fX6_keeper_201, fX6_keeper_223, fX6_keeper_263, kv]
  · by_cases em : fd x 0 i = 1
    · have em2 : nI (fd x 0 i) = (1 : Int32) := by rw [em]; rfl
      simp (decide := true) only [↓reduceIte, bd_s, c0, c3, gi_eq (g 0 (by decide)).1, (g 0 (by decide)).2, gi_eq (g 3 (by decide)).1, (g 3 (by decide)).2, v0, v3, em, em2, fX6_keeper_104, fX6_keeper_146, fX6_keeper_178, fX6_keeper_177, fX6_keeper_201, fX6_keeper_223, fX6_keeper_263, kv]
    · have em2 : ¬ nI (fd x 0 i) = (1 : Int32) := nI_ne (b := 1) h0 (by decide) em
      simp (decide := true) only [↓reduceIte, bd_s, c0, gi_eq (g 0 (by decide)).1, (g 0 (by decide)).2, v0, em, em2, fX6_keeper_104, fX6_keeper_146, fX6_keeper_178, fX6_keeper_177, fX6_keeper_201, fX6_keeper_223, fX6_keeper_263, kv]
  · simp (decide := true) only [↓reduceIte, fX6_keeper_104, fX6_keeper_146, fX6_keeper_178, fX6_keeper_177, fX6_keeper_201, fX6_keeper_223, fX6_keeper_263, kv]
  · simp (decide := true) only [↓reduceIte, fX6_keeper_104, fX6_keeper_146, fX6_keeper_178, fX6_keeper_177, fX6_keeper_201, fX6_keeper_223, fX6_keeper_263, kv]
  · simp (decide := true) only [↓reduceIte, gi_eq (g 4 (by decide)).1, (g 4 (by decide)).2, c4, v4, fX6_keeper_104, fX6_keeper_146, fX6_keeper_178, fX6_keeper_177, fX6_keeper_201, fX6_keeper_223, fX6_keeper_263, kv]
  · simp (decide := true) only [↓reduceIte, gi_eq (g 4 (by decide)).1, (g 4 (by decide)).2, c4, v4, z4 (by decide), fX6_keeper_104, fX6_keeper_146, fX6_keeper_178, fX6_keeper_177, fX6_keeper_201, fX6_keeper_223, fX6_keeper_263, kv]
  · simp (decide := true) only [↓reduceIte, gi_eq (g 4 (by decide)).1, (g 4 (by decide)).2, c4, v4, z4 (by decide), fX6_keeper_104, fX6_keeper_146, fX6_keeper_178, fX6_keeper_177, fX6_keeper_201, fX6_keeper_223, fX6_keeper_263, kv]
  · rcases tk_01 0 x i with e | e <;> rw [e] at vt <;> simp (decide := true) only [↓reduceIte, bd_s, vt, fX6_keeper_104, fX6_keeper_146, fX6_keeper_178, fX6_keeper_177, fX6_keeper_201, fX6_keeper_223, fX6_keeper_263, kv, e]
  · rcases tk_01 1 x i with e | e <;> rw [e] at vt <;> simp (decide := true) only [↓reduceIte, bd_s, vt, fX6_keeper_104, fX6_keeper_146, fX6_keeper_178, fX6_keeper_177, fX6_keeper_201, fX6_keeper_223, fX6_keeper_263, kv, e]
  · rcases tk_01 2 x i with e | e <;> rw [e] at vt <;> simp (decide := true) only [↓reduceIte, bd_s, vt, fX6_keeper_104, fX6_keeper_146, fX6_keeper_178, fX6_keeper_177, fX6_keeper_201, fX6_keeper_223, fX6_keeper_263, kv, e]
  · simp (decide := true) only [↓reduceIte, fX6_keeper_104, fX6_keeper_146, fX6_keeper_178, fX6_keeper_177, fX6_keeper_201, fX6_keeper_223, fX6_keeper_263, kv]
  · simp (decide := true) only [↓reduceIte, fX6_keeper_104, fX6_keeper_146, fX6_keeper_178, fX6_keeper_177, fX6_keeper_201, fX6_keeper_223, fX6_keeper_263, kv]
  · simp (decide := true) only [↓reduceIte, gi_eq (g 5 (by decide)).1, (g 5 (by decide)).2, c5, v5 rfl, fX6_keeper_104, fX6_keeper_146, fX6_keeper_178, fX6_keeper_177, fX6_keeper_201, fX6_keeper_223, fX6_keeper_263, kv]
  · simp (decide := true) only [↓reduceIte, gi_eq (g 6 (by decide)).1, (g 6 (by decide)).2, c6, v6, z6 (by decide), fX6_keeper_104, fX6_keeper_146, fX6_keeper_178, fX6_keeper_177, fX6_keeper_201, fX6_keeper_223, fX6_keeper_263, kv]
  · simp (decide := true) only [↓reduceIte, gi_eq (g 6 (by decide)).1, (g 6 (by decide)).2, c6, v6, z6 (by decide), fX6_keeper_104, fX6_keeper_146, fX6_keeper_178, fX6_keeper_177, fX6_keeper_201, fX6_keeper_223, fX6_keeper_263, kv]
  · simp (decide := true) only [↓reduceIte, gi_eq (g 6 (by decide)).1, (g 6 (by decide)).2, c6, v6, fX6_keeper_104, fX6_keeper_146, fX6_keeper_178, fX6_keeper_177, fX6_keeper_201, fX6_keeper_223, fX6_keeper_263, kv]
  · simp (decide := true) only [↓reduceIte, gi_eq (g 7 (by decide)).1, (g 7 (by decide)).2, c7, v7, z7 (by decide), fX6_keeper_104, fX6_keeper_146, fX6_keeper_178, fX6_keeper_177, fX6_keeper_201, fX6_keeper_223, fX6_keeper_263, kv]
  · simp (decide := true) only [↓reduceIte, gi_eq (g 7 (by decide)).1, (g 7 (by decide)).2, c7, v7, z7 (by decide), fX6_keeper_104, fX6_keeper_146, fX6_keeper_178, fX6_keeper_177, fX6_keeper_201, fX6_keeper_223, fX6_keeper_263, kv]
  · simp (decide := true) only [↓reduceIte, gi_eq (g 7 (by decide)).1, (g 7 (by decide)).2, c7, v7, fX6_keeper_104, fX6_keeper_146, fX6_keeper_178, fX6_keeper_177, fX6_keeper_201, fX6_keeper_223, fX6_keeper_263, kv]
  · simp (decide := true) only [↓reduceIte, fX6_keeper_104, fX6_keeper_146, fX6_keeper_178, fX6_keeper_177, fX6_keeper_201, fX6_keeper_223, fX6_keeper_263, kv]
  · simp (decide := true) only [↓reduceIte, fX6_keeper_104, fX6_keeper_146, fX6_keeper_178, fX6_keeper_177, fX6_keeper_201, fX6_keeper_223, fX6_keeper_263, kv]
  · by_cases ei : i = 0
    · subst ei
      simp (decide := true) only [↓reduceIte, gi_eq gp.1, gp.2, p0, fX6_keeper_104, fX6_keeper_146, fX6_keeper_178, fX6_keeper_177, fX6_keeper_201, fX6_keeper_223, fX6_keeper_263, kv]
    · simp (decide := true) only [↓reduceIte, gi_eq gp.1, gp.2, p1 rfl i (by omega) hin, ei, fX6_keeper_104, fX6_keeper_146, fX6_keeper_178, fX6_keeper_177, fX6_keeper_201, fX6_keeper_223, fX6_keeper_263, kv]
