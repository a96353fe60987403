-- the law: its cases
section LAWK
variable {p : Program} {l : Launch} {e : Env} {s : State} {m : MethodId} {args : Array Value} {below : List Frame} {meth : Method} {c : Code} {Q : State → Prop} {dC : Nat → ClassId} {dI : Nat → Nat → Nat} {cA : ClassId} {ad ad2 : Nat → Nat} {b L : Nat} {xs : Nat → Int32} {u v : Wo} {i : Int32}
/-- at a place of the law's body, between two calls -/
def LK_ (p : Program) (l : Launch) (e : Env) (s : State) (m : MethodId) (args : Array Value) (below : List Frame) (meth : Method) (c : Code) (Q : State → Prop) (dC : Nat → ClassId) (dI : Nat → Nat → Nat) (cA : ClassId) (ad ad2 : Nat → Nat) (b : Nat) (i : Int32) (u v : Wo) (pc : Nat) : Prop := ∀ (H : Heap) (locs : List Loc) (ls : Array Slot), va_P (dC, dI) vwCl (WC ad cA u) H → va_P (dC, dI) vwCl (WM ad2 cA v) H → va_S (LA s) s.heap H locs → lv_has ls 4 [(3, .int i), (2, .ref (ad2 0)), (1, .ref (ad 0)), (0, .ref b)] → W p l e room_1 s m args below meth c H locs 23 556840 Q (F0 m pc ls [])
theorem AF_C {A : Nat → Prop} {w2 : va_W} {x : Wo} (hap : AP ad 14) (h : va_D A (WC ad cA x ++ w2)) : ∀ q, AF ad 14 q → A q := (AP_of (n := 14) h (fun k hk => by
  rcases (show k = 0 ∨ k = 1 ∨ k = 2 ∨ k = 3 ∨ k = 4 ∨ k = 5 ∨ k = 6 ∨ k = 7 ∨ k = 8 ∨ k = 9 ∨ k = 10 ∨ k = 11 ∨ k = 12 ∨ k = 13 by omega) with rfl | rfl | rfl | rfl | rfl | rfl | rfl | rfl | rfl | rfl | rfl | rfl | rfl | rfl <;> exact ⟨_, rfl⟩)).2
theorem lc_0 {C : Nat} (S : CallFix p m c cL_law 4 s args TG RL) (hK : va_K (dC, dI) vwCl [(cA, .int)] s) (hap : AP ad 14) (hap2 : AP ad2 9) (hAC : ∀ q, AF ad 14 q → LA s q) (hAM : ∀ q, AF ad2 9 q → LA s q) (hdM : ∀ (z : Wo) (k : Nat) (x : Nat × va_E), (WM ad2 cA z)[k]? = some x → ¬ AF ad 14 x.1) (hdC : ∀ (z : Wo) (k : Nat) (x : Nat × va_E), (WC ad cA z)[k]? = some x → ¬ AF ad2 9 x.1) (hX : va_X b L xs s s.heap) (hbl : b < s.heap.size) (hin : ∀ k : Nat, k < 5 → vp_in (i + nI k) L) (hRS : RS C (fX5_begin (xs (i + (1 : Int32)).toNatClampNeg) (xs (i + (2 : Int32)).toNatClampNeg) u) (fX6_begin (xs (i + (1 : Int32)).toNatClampNeg) (xs (i + (2 : Int32)).toNatClampNeg) v)) (kk : ∀ u1 v1, GG C u1 v1 → LK_ p l e s m args below meth c Q dC dI cA ad ad2 b i u1 v1 543) : LK_ p l e s m args below meth c Q dC dI cA ad ad2 b i u v 108 := by
  intro H locs ls hPC hPM hS hl
  obtain ⟨r, u1, v1, e1, e2, g⟩ := hRS
  have hx := S.1
  have hb := S.2.1
  refine lv_aload_n hx hb dL_law_108 rfl (lv_at hl 2 rfl) ?_
  refine lv_aload_n hx hb dL_law_109 rfl (lv_at hl 3 rfl) ?_
  refine lv_iload_n hx hb dL_law_110 rfl (lv_at hl 0 rfl) ?_
  refine lv_iconst (v := 1) hx hb dL_law_111 (by decide) ?_
  refine lv_iadd hx hb dL_law_112 ?_
  refine va_sld hx hb hX hbl (Nat.not_le.mpr hbl) hS (hin 1 (by decide)) dL_law_113 ?_
  refine lv_aload_n hx hb dL_law_114 rfl (lv_at hl 3 rfl) ?_
  refine lv_iload_n hx hb dL_law_115 rfl (lv_at hl 0 rfl) ?_
  refine lv_iconst (v := 2) hx hb dL_law_116 (by decide) ?_
  refine lv_iadd hx hb dL_law_117 ?_
  refine va_sld hx hb hX hbl (Nat.not_le.mpr hbl) hS (hin 2 (by decide)) dL_law_118 ?_
  refine x_viL (Wf := WC ad cA) (wo := WM ad2 cA v) (A := AF ad 14) (ci := 5) (q0 := 0) (b := ad 0) (As := [.int (xs (i + (1 : Int32)).toNatClampNeg), .int (xs (i + (2 : Int32)).toNatClampNeg)]) (rest := []) S hK hPC hPM (hdM v) hS hAC (k_X5_begin hap e1) rfl rfl wl_L_13 wi_X5_begin ws_X5_begin wz_X5 wc_X5_begin hy_X5_begin ⟨Nat.le_of_ble_eq_true rfl, Nat.le_of_ble_eq_true rfl⟩ hl.1 rfl (Nat.le_of_ble_eq_true rfl) dL_law_119 ⟨Nat.le_of_ble_eq_true rfl, Nat.le_of_ble_eq_true rfl⟩ (fun H locs hPC hPM hS => ?_)
  refine lv_aload_n hx hb dL_law_122 rfl (lv_at hl 1 rfl) ?_
  refine lv_aload_n hx hb dL_law_123 rfl (lv_at hl 3 rfl) ?_
  refine lv_iload_n hx hb dL_law_124 rfl (lv_at hl 0 rfl) ?_
  refine lv_iconst (v := 1) hx hb dL_law_125 (by decide) ?_
  refine lv_iadd hx hb dL_law_126 ?_
  refine va_sld hx hb hX hbl (Nat.not_le.mpr hbl) hS (hin 1 (by decide)) dL_law_127 ?_
  refine lv_aload_n hx hb dL_law_128 rfl (lv_at hl 3 rfl) ?_
  refine lv_iload_n hx hb dL_law_129 rfl (lv_at hl 0 rfl) ?_
  refine lv_iconst (v := 2) hx hb dL_law_130 (by decide) ?_
  refine lv_iadd hx hb dL_law_131 ?_
  refine va_sld hx hb hX hbl (Nat.not_le.mpr hbl) hS (hin 2 (by decide)) dL_law_132 ?_
  refine x_viL (Wf := WM ad2 cA) (wo := WC ad cA u1) (A := AF ad2 9) (ci := 6) (q0 := 0) (b := ad2 0) (As := [.int (xs (i + (1 : Int32)).toNatClampNeg), .int (xs (i + (2 : Int32)).toNatClampNeg)]) (rest := [.int r]) S hK hPM hPC (hdC u1) hS hAM (k_X6_begin hap2 e2) rfl rfl wl_L_17 wi_X6_begin ws_X6_begin wz_X6 wc_X6_begin hy_X6_begin ⟨Nat.le_of_ble_eq_true rfl, Nat.le_of_ble_eq_true rfl⟩ hl.1 rfl (Nat.le_of_ble_eq_true rfl) dL_law_133 ⟨Nat.le_of_ble_eq_true rfl, Nat.le_of_ble_eq_true rfl⟩ (fun H locs hPM hPC hS => ?_)
  refine lv_icmp_eq (tgt := 543) hx hb dL_law_136 (by decide) (fun _ => ?_) (fun q => (q rfl).elim)
  exact kk u1 v1 g H locs ls hPC hPM hS hl
theorem lc_1 {C : Nat} (S : CallFix p m c cL_law 4 s args TG RL) (hK : va_K (dC, dI) vwCl [(cA, .int)] s) (hap : AP ad 14) (hap2 : AP ad2 9) (hAC : ∀ q, AF ad 14 q → LA s q) (hAM : ∀ q, AF ad2 9 q → LA s q) (hdM : ∀ (z : Wo) (k : Nat) (x : Nat × va_E), (WM ad2 cA z)[k]? = some x → ¬ AF ad 14 x.1) (hdC : ∀ (z : Wo) (k : Nat) (x : Nat × va_E), (WC ad cA z)[k]? = some x → ¬ AF ad2 9 x.1) (hX : va_X b L xs s s.heap) (hbl : b < s.heap.size) (hin : ∀ k : Nat, k < 5 → vp_in (i + nI k) L) (hRS : RS C (fX5_parent (xs (i + (1 : Int32)).toNatClampNeg) (xs (i + (2 : Int32)).toNatClampNeg) u) (fX6_parent (xs (i + (1 : Int32)).toNatClampNeg) (xs (i + (2 : Int32)).toNatClampNeg) v)) (kk : ∀ u1 v1, GG C u1 v1 → LK_ p l e s m args below meth c Q dC dI cA ad ad2 b i u1 v1 543) : LK_ p l e s m args below meth c Q dC dI cA ad ad2 b i u v 141 := by
  intro H locs ls hPC hPM hS hl
  obtain ⟨r, u1, v1, e1, e2, g⟩ := hRS
  have hx := S.1
  have hb := S.2.1
  refine lv_aload_n hx hb dL_law_141 rfl (lv_at hl 2 rfl) ?_
  refine lv_aload_n hx hb dL_law_142 rfl (lv_at hl 3 rfl) ?_
  refine lv_iload_n hx hb dL_law_143 rfl (lv_at hl 0 rfl) ?_
  refine lv_iconst (v := 1) hx hb dL_law_144 (by decide) ?_
  refine lv_iadd hx hb dL_law_145 ?_
  refine va_sld hx hb hX hbl (Nat.not_le.mpr hbl) hS (hin 1 (by decide)) dL_law_146 ?_
  refine lv_aload_n hx hb dL_law_147 rfl (lv_at hl 3 rfl) ?_
  refine lv_iload_n hx hb dL_law_148 rfl (lv_at hl 0 rfl) ?_
  refine lv_iconst (v := 2) hx hb dL_law_149 (by decide) ?_
  refine lv_iadd hx hb dL_law_150 ?_
  refine va_sld hx hb hX hbl (Nat.not_le.mpr hbl) hS (hin 2 (by decide)) dL_law_151 ?_
  refine x_viL (Wf := WC ad cA) (wo := WM ad2 cA v) (A := AF ad 14) (ci := 5) (q0 := 0) (b := ad 0) (As := [.int (xs (i + (1 : Int32)).toNatClampNeg), .int (xs (i + (2 : Int32)).toNatClampNeg)]) (rest := []) S hK hPC hPM (hdM v) hS hAC (k_X5_parent hap e1) rfl rfl wl_L_18 wi_X5_parent ws_X5_parent wz_X5 wc_X5_parent hy_X5_parent ⟨Nat.le_of_ble_eq_true rfl, Nat.le_of_ble_eq_true rfl⟩ hl.1 rfl (Nat.le_of_ble_eq_true rfl) dL_law_152 ⟨Nat.le_of_ble_eq_true rfl, Nat.le_of_ble_eq_true rfl⟩ (fun H locs hPC hPM hS => ?_)
  refine lv_aload_n hx hb dL_law_155 rfl (lv_at hl 1 rfl) ?_
  refine lv_aload_n hx hb dL_law_156 rfl (lv_at hl 3 rfl) ?_
  refine lv_iload_n hx hb dL_law_157 rfl (lv_at hl 0 rfl) ?_
  refine lv_iconst (v := 1) hx hb dL_law_158 (by decide) ?_
  refine lv_iadd hx hb dL_law_159 ?_
  refine va_sld hx hb hX hbl (Nat.not_le.mpr hbl) hS (hin 1 (by decide)) dL_law_160 ?_
  refine lv_aload_n hx hb dL_law_161 rfl (lv_at hl 3 rfl) ?_
  refine lv_iload_n hx hb dL_law_162 rfl (lv_at hl 0 rfl) ?_
  refine lv_iconst (v := 2) hx hb dL_law_163 (by decide) ?_
  refine lv_iadd hx hb dL_law_164 ?_
  refine va_sld hx hb hX hbl (Nat.not_le.mpr hbl) hS (hin 2 (by decide)) dL_law_165 ?_
  refine x_viL (Wf := WM ad2 cA) (wo := WC ad cA u1) (A := AF ad2 9) (ci := 6) (q0 := 0) (b := ad2 0) (As := [.int (xs (i + (1 : Int32)).toNatClampNeg), .int (xs (i + (2 : Int32)).toNatClampNeg)]) (rest := [.int r]) S hK hPM hPC (hdC u1) hS hAM (k_X6_parent hap2 e2) rfl rfl wl_L_21 wi_X6_parent ws_X6_parent wz_X6 wc_X6_parent hy_X6_parent ⟨Nat.le_of_ble_eq_true rfl, Nat.le_of_ble_eq_true rfl⟩ hl.1 rfl (Nat.le_of_ble_eq_true rfl) dL_law_166 ⟨Nat.le_of_ble_eq_true rfl, Nat.le_of_ble_eq_true rfl⟩ (fun H locs hPM hPC hS => ?_)
  refine lv_icmp_eq (tgt := 543) hx hb dL_law_169 (by decide) (fun _ => ?_) (fun q => (q rfl).elim)
  exact kk u1 v1 g H locs ls hPC hPM hS hl
theorem lc_2 {C : Nat} (S : CallFix p m c cL_law 4 s args TG RL) (hK : va_K (dC, dI) vwCl [(cA, .int)] s) (hap : AP ad 14) (hap2 : AP ad2 9) (hAC : ∀ q, AF ad 14 q → LA s q) (hAM : ∀ q, AF ad2 9 q → LA s q) (hdM : ∀ (z : Wo) (k : Nat) (x : Nat × va_E), (WM ad2 cA z)[k]? = some x → ¬ AF ad 14 x.1) (hdC : ∀ (z : Wo) (k : Nat) (x : Nat × va_E), (WC ad cA z)[k]? = some x → ¬ AF ad2 9 x.1) (hX : va_X b L xs s s.heap) (hbl : b < s.heap.size) (hin : ∀ k : Nat, k < 5 → vp_in (i + nI k) L) (hRS : RS C (fX5_want (xs (i + (1 : Int32)).toNatClampNeg) u) (fX6_want (xs (i + (1 : Int32)).toNatClampNeg) v)) (kk : ∀ u1 v1, GG C u1 v1 → LK_ p l e s m args below meth c Q dC dI cA ad ad2 b i u1 v1 543) : LK_ p l e s m args below meth c Q dC dI cA ad ad2 b i u v 174 := by
  intro H locs ls hPC hPM hS hl
  obtain ⟨r, u1, v1, e1, e2, g⟩ := hRS
  have hx := S.1
  have hb := S.2.1
  refine lv_aload_n hx hb dL_law_174 rfl (lv_at hl 2 rfl) ?_
  refine lv_aload_n hx hb dL_law_175 rfl (lv_at hl 3 rfl) ?_
  refine lv_iload_n hx hb dL_law_176 rfl (lv_at hl 0 rfl) ?_
  refine lv_iconst (v := 1) hx hb dL_law_177 (by decide) ?_
  refine lv_iadd hx hb dL_law_178 ?_
  refine va_sld hx hb hX hbl (Nat.not_le.mpr hbl) hS (hin 1 (by decide)) dL_law_179 ?_
  refine x_viL (Wf := WC ad cA) (wo := WM ad2 cA v) (A := AF ad 14) (ci := 5) (q0 := 0) (b := ad 0) (As := [.int (xs (i + (1 : Int32)).toNatClampNeg)]) (rest := []) S hK hPC hPM (hdM v) hS hAC (k_X5_want hap e1) rfl rfl wl_L_22 wi_X5_want ws_X5_want wz_X5 wc_X5_want hy_X5_want ⟨Nat.le_of_ble_eq_true rfl, Nat.le_of_ble_eq_true rfl⟩ hl.1 rfl (Nat.le_of_ble_eq_true rfl) dL_law_180 ⟨Nat.le_of_ble_eq_true rfl, Nat.le_of_ble_eq_true rfl⟩ (fun H locs hPC hPM hS => ?_)
  refine lv_aload_n hx hb dL_law_183 rfl (lv_at hl 1 rfl) ?_
  refine lv_aload_n hx hb dL_law_184 rfl (lv_at hl 3 rfl) ?_
  refine lv_iload_n hx hb dL_law_185 rfl (lv_at hl 0 rfl) ?_
  refine lv_iconst (v := 1) hx hb dL_law_186 (by decide) ?_
  refine lv_iadd hx hb dL_law_187 ?_
  refine va_sld hx hb hX hbl (Nat.not_le.mpr hbl) hS (hin 1 (by decide)) dL_law_188 ?_
  refine x_viL (Wf := WM ad2 cA) (wo := WC ad cA u1) (A := AF ad2 9) (ci := 6) (q0 := 0) (b := ad2 0) (As := [.int (xs (i + (1 : Int32)).toNatClampNeg)]) (rest := [.int r]) S hK hPM hPC (hdC u1) hS hAM (k_X6_want hap2 e2) rfl rfl wl_L_26 wi_X6_want ws_X6_want wz_X6 wc_X6_want hy_X6_want ⟨Nat.le_of_ble_eq_true rfl, Nat.le_of_ble_eq_true rfl⟩ hl.1 rfl (Nat.le_of_ble_eq_true rfl) dL_law_189 ⟨Nat.le_of_ble_eq_true rfl, Nat.le_of_ble_eq_true rfl⟩ (fun H locs hPM hPC hS => ?_)
  refine lv_icmp_eq (tgt := 543) hx hb dL_law_192 (by decide) (fun _ => ?_) (fun q => (q rfl).elim)
  exact kk u1 v1 g H locs ls hPC hPM hS hl
theorem lc_3 {C : Nat} (S : CallFix p m c cL_law 4 s args TG RL) (hK : va_K (dC, dI) vwCl [(cA, .int)] s) (hap : AP ad 14) (hap2 : AP ad2 9) (hAC : ∀ q, AF ad 14 q → LA s q) (hAM : ∀ q, AF ad2 9 q → LA s q) (hdM : ∀ (z : Wo) (k : Nat) (x : Nat × va_E), (WM ad2 cA z)[k]? = some x → ¬ AF ad 14 x.1) (hdC : ∀ (z : Wo) (k : Nat) (x : Nat × va_E), (WC ad cA z)[k]? = some x → ¬ AF ad2 9 x.1) (hX : va_X b L xs s s.heap) (hbl : b < s.heap.size) (hin : ∀ k : Nat, k < 5 → vp_in (i + nI k) L) (hRS : RS C (fX5_leave (xs (i + (1 : Int32)).toNatClampNeg) u) (fX6_leave (xs (i + (1 : Int32)).toNatClampNeg) v)) (kk : ∀ u1 v1, GG C u1 v1 → LK_ p l e s m args below meth c Q dC dI cA ad ad2 b i u1 v1 543) : LK_ p l e s m args below meth c Q dC dI cA ad ad2 b i u v 197 := by
  intro H locs ls hPC hPM hS hl
  obtain ⟨r, u1, v1, e1, e2, g⟩ := hRS
  have hx := S.1
  have hb := S.2.1
  refine lv_aload_n hx hb dL_law_197 rfl (lv_at hl 2 rfl) ?_
  refine lv_aload_n hx hb dL_law_198 rfl (lv_at hl 3 rfl) ?_
  refine lv_iload_n hx hb dL_law_199 rfl (lv_at hl 0 rfl) ?_
  refine lv_iconst (v := 1) hx hb dL_law_200 (by decide) ?_
  refine lv_iadd hx hb dL_law_201 ?_
  refine va_sld hx hb hX hbl (Nat.not_le.mpr hbl) hS (hin 1 (by decide)) dL_law_202 ?_
  refine x_viL (Wf := WC ad cA) (wo := WM ad2 cA v) (A := AF ad 14) (ci := 5) (q0 := 0) (b := ad 0) (As := [.int (xs (i + (1 : Int32)).toNatClampNeg)]) (rest := []) S hK hPC hPM (hdM v) hS hAC (k_X5_leave hap e1) rfl rfl wl_L_27 wi_X5_leave ws_X5_leave wz_X5 wc_X5_leave hy_X5_leave ⟨Nat.le_of_ble_eq_true rfl, Nat.le_of_ble_eq_true rfl⟩ hl.1 rfl (Nat.le_of_ble_eq_true rfl) dL_law_203 ⟨Nat.le_of_ble_eq_true rfl, Nat.le_of_ble_eq_true rfl⟩ (fun H locs hPC hPM hS => ?_)
  refine lv_aload_n hx hb dL_law_206 rfl (lv_at hl 1 rfl) ?_
  refine lv_aload_n hx hb dL_law_207 rfl (lv_at hl 3 rfl) ?_
  refine lv_iload_n hx hb dL_law_208 rfl (lv_at hl 0 rfl) ?_
  refine lv_iconst (v := 1) hx hb dL_law_209 (by decide) ?_
  refine lv_iadd hx hb dL_law_210 ?_
  refine va_sld hx hb hX hbl (Nat.not_le.mpr hbl) hS (hin 1 (by decide)) dL_law_211 ?_
  refine x_viL (Wf := WM ad2 cA) (wo := WC ad cA u1) (A := AF ad2 9) (ci := 6) (q0 := 0) (b := ad2 0) (As := [.int (xs (i + (1 : Int32)).toNatClampNeg)]) (rest := [.int r]) S hK hPM hPC (hdC u1) hS hAM (k_X6_leave hap2 e2) rfl rfl wl_L_30 wi_X6_leave ws_X6_leave wz_X6 wc_X6_leave hy_X6_leave ⟨Nat.le_of_ble_eq_true rfl, Nat.le_of_ble_eq_true rfl⟩ hl.1 rfl (Nat.le_of_ble_eq_true rfl) dL_law_212 ⟨Nat.le_of_ble_eq_true rfl, Nat.le_of_ble_eq_true rfl⟩ (fun H locs hPM hPC hS => ?_)
  refine lv_icmp_eq (tgt := 543) hx hb dL_law_215 (by decide) (fun _ => ?_) (fun q => (q rfl).elim)
  exact kk u1 v1 g H locs ls hPC hPM hS hl
theorem lc_4 {C : Nat} (S : CallFix p m c cL_law 4 s args TG RL) (hK : va_K (dC, dI) vwCl [(cA, .int)] s) (hap : AP ad 14) (hap2 : AP ad2 9) (hAC : ∀ q, AF ad 14 q → LA s q) (hAM : ∀ q, AF ad2 9 q → LA s q) (hdM : ∀ (z : Wo) (k : Nat) (x : Nat × va_E), (WM ad2 cA z)[k]? = some x → ¬ AF ad 14 x.1) (hdC : ∀ (z : Wo) (k : Nat) (x : Nat × va_E), (WC ad cA z)[k]? = some x → ¬ AF ad2 9 x.1) (hX : va_X b L xs s s.heap) (hbl : b < s.heap.size) (hin : ∀ k : Nat, k < 5 → vp_in (i + nI k) L) (hRS : RS C (fX5_come (xs (i + (1 : Int32)).toNatClampNeg) (xs (i + (2 : Int32)).toNatClampNeg) u) (fX6_come (xs (i + (1 : Int32)).toNatClampNeg) (xs (i + (2 : Int32)).toNatClampNeg) v)) (kk : ∀ u1 v1, GG C u1 v1 → LK_ p l e s m args below meth c Q dC dI cA ad ad2 b i u1 v1 543) : LK_ p l e s m args below meth c Q dC dI cA ad ad2 b i u v 220 := by
  intro H locs ls hPC hPM hS hl
  obtain ⟨r, u1, v1, e1, e2, g⟩ := hRS
  have hx := S.1
  have hb := S.2.1
  refine lv_aload_n hx hb dL_law_220 rfl (lv_at hl 2 rfl) ?_
  refine lv_aload_n hx hb dL_law_221 rfl (lv_at hl 3 rfl) ?_
  refine lv_iload_n hx hb dL_law_222 rfl (lv_at hl 0 rfl) ?_
  refine lv_iconst (v := 1) hx hb dL_law_223 (by decide) ?_
  refine lv_iadd hx hb dL_law_224 ?_
  refine va_sld hx hb hX hbl (Nat.not_le.mpr hbl) hS (hin 1 (by decide)) dL_law_225 ?_
  refine lv_aload_n hx hb dL_law_226 rfl (lv_at hl 3 rfl) ?_
  refine lv_iload_n hx hb dL_law_227 rfl (lv_at hl 0 rfl) ?_
  refine lv_iconst (v := 2) hx hb dL_law_228 (by decide) ?_
  refine lv_iadd hx hb dL_law_229 ?_
  refine va_sld hx hb hX hbl (Nat.not_le.mpr hbl) hS (hin 2 (by decide)) dL_law_230 ?_
  refine x_viL (Wf := WC ad cA) (wo := WM ad2 cA v) (A := AF ad 14) (ci := 5) (q0 := 0) (b := ad 0) (As := [.int (xs (i + (1 : Int32)).toNatClampNeg), .int (xs (i + (2 : Int32)).toNatClampNeg)]) (rest := []) S hK hPC hPM (hdM v) hS hAC (k_X5_come hap e1) rfl rfl wl_L_31 wi_X5_come ws_X5_come wz_X5 wc_X5_come hy_X5_come ⟨Nat.le_of_ble_eq_true rfl, Nat.le_of_ble_eq_true rfl⟩ hl.1 rfl (Nat.le_of_ble_eq_true rfl) dL_law_231 ⟨Nat.le_of_ble_eq_true rfl, Nat.le_of_ble_eq_true rfl⟩ (fun H locs hPC hPM hS => ?_)
  refine lv_aload_n hx hb dL_law_234 rfl (lv_at hl 1 rfl) ?_
  refine lv_aload_n hx hb dL_law_235 rfl (lv_at hl 3 rfl) ?_
  refine lv_iload_n hx hb dL_law_236 rfl (lv_at hl 0 rfl) ?_
  refine lv_iconst (v := 1) hx hb dL_law_237 (by decide) ?_
  refine lv_iadd hx hb dL_law_238 ?_
  refine va_sld hx hb hX hbl (Nat.not_le.mpr hbl) hS (hin 1 (by decide)) dL_law_239 ?_
  refine lv_aload_n hx hb dL_law_240 rfl (lv_at hl 3 rfl) ?_
  refine lv_iload_n hx hb dL_law_241 rfl (lv_at hl 0 rfl) ?_
  refine lv_iconst (v := 2) hx hb dL_law_242 (by decide) ?_
  refine lv_iadd hx hb dL_law_243 ?_
  refine va_sld hx hb hX hbl (Nat.not_le.mpr hbl) hS (hin 2 (by decide)) dL_law_244 ?_
  refine x_viL (Wf := WM ad2 cA) (wo := WC ad cA u1) (A := AF ad2 9) (ci := 6) (q0 := 0) (b := ad2 0) (As := [.int (xs (i + (1 : Int32)).toNatClampNeg), .int (xs (i + (2 : Int32)).toNatClampNeg)]) (rest := [.int r]) S hK hPM hPC (hdC u1) hS hAM (k_X6_come hap2 e2) rfl rfl wl_L_34 wi_X6_come ws_X6_come wz_X6 wc_X6_come hy_X6_come ⟨Nat.le_of_ble_eq_true rfl, Nat.le_of_ble_eq_true rfl⟩ hl.1 rfl (Nat.le_of_ble_eq_true rfl) dL_law_245 ⟨Nat.le_of_ble_eq_true rfl, Nat.le_of_ble_eq_true rfl⟩ (fun H locs hPM hPC hS => ?_)
  refine lv_icmp_eq (tgt := 543) hx hb dL_law_248 (by decide) (fun _ => ?_) (fun q => (q rfl).elim)
  exact kk u1 v1 g H locs ls hPC hPM hS hl
theorem lc_5 {C : Nat} (S : CallFix p m c cL_law 4 s args TG RL) (hK : va_K (dC, dI) vwCl [(cA, .int)] s) (hap : AP ad 14) (hap2 : AP ad2 9) (hAC : ∀ q, AF ad 14 q → LA s q) (hAM : ∀ q, AF ad2 9 q → LA s q) (hdM : ∀ (z : Wo) (k : Nat) (x : Nat × va_E), (WM ad2 cA z)[k]? = some x → ¬ AF ad 14 x.1) (hdC : ∀ (z : Wo) (k : Nat) (x : Nat × va_E), (WC ad cA z)[k]? = some x → ¬ AF ad2 9 x.1) (hX : va_X b L xs s s.heap) (hbl : b < s.heap.size) (hin : ∀ k : Nat, k < 5 → vp_in (i + nI k) L) (hRS : RS C (fX5_run (xs (i + (1 : Int32)).toNatClampNeg) (xs (i + (2 : Int32)).toNatClampNeg) u) (fX6_run (xs (i + (1 : Int32)).toNatClampNeg) (xs (i + (2 : Int32)).toNatClampNeg) v)) (kk : ∀ u1 v1, GG C u1 v1 → LK_ p l e s m args below meth c Q dC dI cA ad ad2 b i u1 v1 543) : LK_ p l e s m args below meth c Q dC dI cA ad ad2 b i u v 253 := by
  intro H locs ls hPC hPM hS hl
  obtain ⟨r, u1, v1, e1, e2, g⟩ := hRS
  have hx := S.1
  have hb := S.2.1
  refine lv_aload_n hx hb dL_law_253 rfl (lv_at hl 2 rfl) ?_
  refine lv_aload_n hx hb dL_law_254 rfl (lv_at hl 3 rfl) ?_
  refine lv_iload_n hx hb dL_law_255 rfl (lv_at hl 0 rfl) ?_
  refine lv_iconst (v := 1) hx hb dL_law_256 (by decide) ?_
  refine lv_iadd hx hb dL_law_257 ?_
  refine va_sld hx hb hX hbl (Nat.not_le.mpr hbl) hS (hin 1 (by decide)) dL_law_258 ?_
  refine lv_aload_n hx hb dL_law_259 rfl (lv_at hl 3 rfl) ?_
  refine lv_iload_n hx hb dL_law_260 rfl (lv_at hl 0 rfl) ?_
  refine lv_iconst (v := 2) hx hb dL_law_261 (by decide) ?_
  refine lv_iadd hx hb dL_law_262 ?_
  refine va_sld hx hb hX hbl (Nat.not_le.mpr hbl) hS (hin 2 (by decide)) dL_law_263 ?_
  refine x_viL (Wf := WC ad cA) (wo := WM ad2 cA v) (A := AF ad 14) (ci := 5) (q0 := 0) (b := ad 0) (As := [.int (xs (i + (1 : Int32)).toNatClampNeg), .int (xs (i + (2 : Int32)).toNatClampNeg)]) (rest := []) S hK hPC hPM (hdM v) hS hAC (k_X5_run hap e1) rfl rfl wl_L_35 wi_X5_run ws_X5_run wz_X5 wc_X5_run hy_X5_run ⟨Nat.le_of_ble_eq_true rfl, Nat.le_of_ble_eq_true rfl⟩ hl.1 rfl (Nat.le_of_ble_eq_true rfl) dL_law_264 ⟨Nat.le_of_ble_eq_true rfl, Nat.le_of_ble_eq_true rfl⟩ (fun H locs hPC hPM hS => ?_)
  refine lv_aload_n hx hb dL_law_267 rfl (lv_at hl 1 rfl) ?_
  refine lv_aload_n hx hb dL_law_268 rfl (lv_at hl 3 rfl) ?_
  refine lv_iload_n hx hb dL_law_269 rfl (lv_at hl 0 rfl) ?_
  refine lv_iconst (v := 1) hx hb dL_law_270 (by decide) ?_
  refine lv_iadd hx hb dL_law_271 ?_
  refine va_sld hx hb hX hbl (Nat.not_le.mpr hbl) hS (hin 1 (by decide)) dL_law_272 ?_
  refine lv_aload_n hx hb dL_law_273 rfl (lv_at hl 3 rfl) ?_
  refine lv_iload_n hx hb dL_law_274 rfl (lv_at hl 0 rfl) ?_
  refine lv_iconst (v := 2) hx hb dL_law_275 (by decide) ?_
  refine lv_iadd hx hb dL_law_276 ?_
  refine va_sld hx hb hX hbl (Nat.not_le.mpr hbl) hS (hin 2 (by decide)) dL_law_277 ?_
  refine x_viL (Wf := WM ad2 cA) (wo := WC ad cA u1) (A := AF ad2 9) (ci := 6) (q0 := 0) (b := ad2 0) (As := [.int (xs (i + (1 : Int32)).toNatClampNeg), .int (xs (i + (2 : Int32)).toNatClampNeg)]) (rest := [.int r]) S hK hPM hPC (hdC u1) hS hAM (k_X6_run hap2 e2) rfl rfl wl_L_38 wi_X6_run ws_X6_run wz_X6 wc_X6_run hy_X6_run ⟨Nat.le_of_ble_eq_true rfl, Nat.le_of_ble_eq_true rfl⟩ hl.1 rfl (Nat.le_of_ble_eq_true rfl) dL_law_278 ⟨Nat.le_of_ble_eq_true rfl, Nat.le_of_ble_eq_true rfl⟩ (fun H locs hPM hPC hS => ?_)
  refine lv_icmp_eq (tgt := 543) hx hb dL_law_281 (by decide) (fun _ => ?_) (fun q => (q rfl).elim)
  exact kk u1 v1 g H locs ls hPC hPM hS hl
theorem lc_6 {C : Nat} (S : CallFix p m c cL_law 4 s args TG RL) (hK : va_K (dC, dI) vwCl [(cA, .int)] s) (hap : AP ad 14) (hap2 : AP ad2 9) (hAC : ∀ q, AF ad 14 q → LA s q) (hAM : ∀ q, AF ad2 9 q → LA s q) (hdM : ∀ (z : Wo) (k : Nat) (x : Nat × va_E), (WM ad2 cA z)[k]? = some x → ¬ AF ad 14 x.1) (hdC : ∀ (z : Wo) (k : Nat) (x : Nat × va_E), (WC ad cA z)[k]? = some x → ¬ AF ad2 9 x.1) (hX : va_X b L xs s s.heap) (hbl : b < s.heap.size) (hin : ∀ k : Nat, k < 5 → vp_in (i + nI k) L) (hRS : RS C (fX5_keeper (xs (i + (1 : Int32)).toNatClampNeg) (xs (i + (2 : Int32)).toNatClampNeg) u) (fX6_keeper (xs (i + (1 : Int32)).toNatClampNeg) (xs (i + (2 : Int32)).toNatClampNeg) v)) (kk : ∀ u1 v1, GG C u1 v1 → LK_ p l e s m args below meth c Q dC dI cA ad ad2 b i u1 v1 543) : LK_ p l e s m args below meth c Q dC dI cA ad ad2 b i u v 286 := by
  intro H locs ls hPC hPM hS hl
  obtain ⟨r, u1, v1, e1, e2, g⟩ := hRS
  have hx := S.1
  have hb := S.2.1
  refine lv_aload_n hx hb dL_law_286 rfl (lv_at hl 2 rfl) ?_
  refine lv_aload_n hx hb dL_law_287 rfl (lv_at hl 3 rfl) ?_
  refine lv_iload_n hx hb dL_law_288 rfl (lv_at hl 0 rfl) ?_
  refine lv_iconst (v := 1) hx hb dL_law_289 (by decide) ?_
  refine lv_iadd hx hb dL_law_290 ?_
  refine va_sld hx hb hX hbl (Nat.not_le.mpr hbl) hS (hin 1 (by decide)) dL_law_291 ?_
  refine lv_aload_n hx hb dL_law_292 rfl (lv_at hl 3 rfl) ?_
  refine lv_iload_n hx hb dL_law_293 rfl (lv_at hl 0 rfl) ?_
  refine lv_iconst (v := 2) hx hb dL_law_294 (by decide) ?_
  refine lv_iadd hx hb dL_law_295 ?_
  refine va_sld hx hb hX hbl (Nat.not_le.mpr hbl) hS (hin 2 (by decide)) dL_law_296 ?_
  refine x_viL (Wf := WC ad cA) (wo := WM ad2 cA v) (A := AF ad 14) (ci := 5) (q0 := 0) (b := ad 0) (As := [.int (xs (i + (1 : Int32)).toNatClampNeg), .int (xs (i + (2 : Int32)).toNatClampNeg)]) (rest := []) S hK hPC hPM (hdM v) hS hAC (k_X5_keeper hap e1) rfl rfl wl_L_39 wi_X5_keeper ws_X5_keeper wz_X5 wc_X5_keeper hy_X5_keeper ⟨Nat.le_of_ble_eq_true rfl, Nat.le_of_ble_eq_true rfl⟩ hl.1 rfl (Nat.le_of_ble_eq_true rfl) dL_law_297 ⟨Nat.le_of_ble_eq_true rfl, Nat.le_of_ble_eq_true rfl⟩ (fun H locs hPC hPM hS => ?_)
  refine lv_aload_n hx hb dL_law_300 rfl (lv_at hl 1 rfl) ?_
  refine lv_aload_n hx hb dL_law_301 rfl (lv_at hl 3 rfl) ?_
  refine lv_iload_n hx hb dL_law_302 rfl (lv_at hl 0 rfl) ?_
  refine lv_iconst (v := 1) hx hb dL_law_303 (by decide) ?_
  refine lv_iadd hx hb dL_law_304 ?_
  refine va_sld hx hb hX hbl (Nat.not_le.mpr hbl) hS (hin 1 (by decide)) dL_law_305 ?_
  refine lv_aload_n hx hb dL_law_306 rfl (lv_at hl 3 rfl) ?_
  refine lv_iload_n hx hb dL_law_307 rfl (lv_at hl 0 rfl) ?_
  refine lv_iconst (v := 2) hx hb dL_law_308 (by decide) ?_
  refine lv_iadd hx hb dL_law_309 ?_
  refine va_sld hx hb hX hbl (Nat.not_le.mpr hbl) hS (hin 2 (by decide)) dL_law_310 ?_
  refine x_viL (Wf := WM ad2 cA) (wo := WC ad cA u1) (A := AF ad2 9) (ci := 6) (q0 := 0) (b := ad2 0) (As := [.int (xs (i + (1 : Int32)).toNatClampNeg), .int (xs (i + (2 : Int32)).toNatClampNeg)]) (rest := [.int r]) S hK hPM hPC (hdC u1) hS hAM (k_X6_keeper hap2 e2) rfl rfl wl_L_42 wi_X6_keeper ws_X6_keeper wz_X6 wc_X6_keeper hy_X6_keeper ⟨Nat.le_of_ble_eq_true rfl, Nat.le_of_ble_eq_true rfl⟩ hl.1 rfl (Nat.le_of_ble_eq_true rfl) dL_law_311 ⟨Nat.le_of_ble_eq_true rfl, Nat.le_of_ble_eq_true rfl⟩ (fun H locs hPM hPC hS => ?_)
  refine lv_icmp_eq (tgt := 543) hx hb dL_law_314 (by decide) (fun _ => ?_) (fun q => (q rfl).elim)
  exact kk u1 v1 g H locs ls hPC hPM hS hl
theorem lc_7 {C : Nat} (S : CallFix p m c cL_law 4 s args TG RL) (hK : va_K (dC, dI) vwCl [(cA, .int)] s) (hap : AP ad 14) (hap2 : AP ad2 9) (hAC : ∀ q, AF ad 14 q → LA s q) (hAM : ∀ q, AF ad2 9 q → LA s q) (hdM : ∀ (z : Wo) (k : Nat) (x : Nat × va_E), (WM ad2 cA z)[k]? = some x → ¬ AF ad 14 x.1) (hdC : ∀ (z : Wo) (k : Nat) (x : Nat × va_E), (WC ad cA z)[k]? = some x → ¬ AF ad2 9 x.1) (hX : va_X b L xs s s.heap) (hbl : b < s.heap.size) (hin : ∀ k : Nat, k < 5 → vp_in (i + nI k) L) (hRS : RS C (fX5_knows (xs (i + (1 : Int32)).toNatClampNeg) (xs (i + (2 : Int32)).toNatClampNeg) u) (fX6_knows (xs (i + (1 : Int32)).toNatClampNeg) (xs (i + (2 : Int32)).toNatClampNeg) v)) (kk : ∀ u1 v1, GG C u1 v1 → LK_ p l e s m args below meth c Q dC dI cA ad ad2 b i u1 v1 543) : LK_ p l e s m args below meth c Q dC dI cA ad ad2 b i u v 319 := by
  intro H locs ls hPC hPM hS hl
  obtain ⟨r, u1, v1, e1, e2, g⟩ := hRS
  have hx := S.1
  have hb := S.2.1
  refine lv_aload_n hx hb dL_law_319 rfl (lv_at hl 2 rfl) ?_
  refine lv_aload_n hx hb dL_law_320 rfl (lv_at hl 3 rfl) ?_
  refine lv_iload_n hx hb dL_law_321 rfl (lv_at hl 0 rfl) ?_
  refine lv_iconst (v := 1) hx hb dL_law_322 (by decide) ?_
  refine lv_iadd hx hb dL_law_323 ?_
  refine va_sld hx hb hX hbl (Nat.not_le.mpr hbl) hS (hin 1 (by decide)) dL_law_324 ?_
  refine lv_aload_n hx hb dL_law_325 rfl (lv_at hl 3 rfl) ?_
  refine lv_iload_n hx hb dL_law_326 rfl (lv_at hl 0 rfl) ?_
  refine lv_iconst (v := 2) hx hb dL_law_327 (by decide) ?_
  refine lv_iadd hx hb dL_law_328 ?_
  refine va_sld hx hb hX hbl (Nat.not_le.mpr hbl) hS (hin 2 (by decide)) dL_law_329 ?_
  refine x_viL (Wf := WC ad cA) (wo := WM ad2 cA v) (A := AF ad 14) (ci := 5) (q0 := 0) (b := ad 0) (As := [.int (xs (i + (1 : Int32)).toNatClampNeg), .int (xs (i + (2 : Int32)).toNatClampNeg)]) (rest := []) S hK hPC hPM (hdM v) hS hAC (k_X5_knows hap e1) rfl rfl wl_L_43 wi_X5_knows ws_X5_knows wz_X5 wc_X5_knows hy_X5_knows ⟨Nat.le_of_ble_eq_true rfl, Nat.le_of_ble_eq_true rfl⟩ hl.1 rfl (Nat.le_of_ble_eq_true rfl) dL_law_330 ⟨Nat.le_of_ble_eq_true rfl, Nat.le_of_ble_eq_true rfl⟩ (fun H locs hPC hPM hS => ?_)
  refine lv_aload_n hx hb dL_law_333 rfl (lv_at hl 1 rfl) ?_
  refine lv_aload_n hx hb dL_law_334 rfl (lv_at hl 3 rfl) ?_
  refine lv_iload_n hx hb dL_law_335 rfl (lv_at hl 0 rfl) ?_
  refine lv_iconst (v := 1) hx hb dL_law_336 (by decide) ?_
  refine lv_iadd hx hb dL_law_337 ?_
  refine va_sld hx hb hX hbl (Nat.not_le.mpr hbl) hS (hin 1 (by decide)) dL_law_338 ?_
  refine lv_aload_n hx hb dL_law_339 rfl (lv_at hl 3 rfl) ?_
  refine lv_iload_n hx hb dL_law_340 rfl (lv_at hl 0 rfl) ?_
  refine lv_iconst (v := 2) hx hb dL_law_341 (by decide) ?_
  refine lv_iadd hx hb dL_law_342 ?_
  refine va_sld hx hb hX hbl (Nat.not_le.mpr hbl) hS (hin 2 (by decide)) dL_law_343 ?_
  refine x_viL (Wf := WM ad2 cA) (wo := WC ad cA u1) (A := AF ad2 9) (ci := 6) (q0 := 0) (b := ad2 0) (As := [.int (xs (i + (1 : Int32)).toNatClampNeg), .int (xs (i + (2 : Int32)).toNatClampNeg)]) (rest := [.int r]) S hK hPM hPC (hdC u1) hS hAM (k_X6_knows hap2 e2) rfl rfl wl_L_46 wi_X6_knows ws_X6_knows wz_X6 wc_X6_knows hy_X6_knows ⟨Nat.le_of_ble_eq_true rfl, Nat.le_of_ble_eq_true rfl⟩ hl.1 rfl (Nat.le_of_ble_eq_true rfl) dL_law_344 ⟨Nat.le_of_ble_eq_true rfl, Nat.le_of_ble_eq_true rfl⟩ (fun H locs hPM hPC hS => ?_)
  refine lv_icmp_eq (tgt := 543) hx hb dL_law_347 (by decide) (fun _ => ?_) (fun q => (q rfl).elim)
  exact kk u1 v1 g H locs ls hPC hPM hS hl
theorem lc_8 {C : Nat} (S : CallFix p m c cL_law 4 s args TG RL) (hK : va_K (dC, dI) vwCl [(cA, .int)] s) (hap : AP ad 14) (hap2 : AP ad2 9) (hAC : ∀ q, AF ad 14 q → LA s q) (hAM : ∀ q, AF ad2 9 q → LA s q) (hdM : ∀ (z : Wo) (k : Nat) (x : Nat × va_E), (WM ad2 cA z)[k]? = some x → ¬ AF ad 14 x.1) (hdC : ∀ (z : Wo) (k : Nat) (x : Nat × va_E), (WC ad cA z)[k]? = some x → ¬ AF ad2 9 x.1) (hX : va_X b L xs s s.heap) (hbl : b < s.heap.size) (hin : ∀ k : Nat, k < 5 → vp_in (i + nI k) L) (hRS : RS C (fX5_token (xs (i + (1 : Int32)).toNatClampNeg) (xs (i + (2 : Int32)).toNatClampNeg) u) (fX6_token (xs (i + (1 : Int32)).toNatClampNeg) (xs (i + (2 : Int32)).toNatClampNeg) v)) (kk : ∀ u1 v1, GG C u1 v1 → LK_ p l e s m args below meth c Q dC dI cA ad ad2 b i u1 v1 543) : LK_ p l e s m args below meth c Q dC dI cA ad ad2 b i u v 352 := by
  intro H locs ls hPC hPM hS hl
  obtain ⟨r, u1, v1, e1, e2, g⟩ := hRS
  have hx := S.1
  have hb := S.2.1
  refine lv_aload_n hx hb dL_law_352 rfl (lv_at hl 2 rfl) ?_
  refine lv_aload_n hx hb dL_law_353 rfl (lv_at hl 3 rfl) ?_
  refine lv_iload_n hx hb dL_law_354 rfl (lv_at hl 0 rfl) ?_
  refine lv_iconst (v := 1) hx hb dL_law_355 (by decide) ?_
  refine lv_iadd hx hb dL_law_356 ?_
  refine va_sld hx hb hX hbl (Nat.not_le.mpr hbl) hS (hin 1 (by decide)) dL_law_357 ?_
  refine lv_aload_n hx hb dL_law_358 rfl (lv_at hl 3 rfl) ?_
  refine lv_iload_n hx hb dL_law_359 rfl (lv_at hl 0 rfl) ?_
  refine lv_iconst (v := 2) hx hb dL_law_360 (by decide) ?_
  refine lv_iadd hx hb dL_law_361 ?_
  refine va_sld hx hb hX hbl (Nat.not_le.mpr hbl) hS (hin 2 (by decide)) dL_law_362 ?_
  refine x_viL (Wf := WC ad cA) (wo := WM ad2 cA v) (A := AF ad 14) (ci := 5) (q0 := 0) (b := ad 0) (As := [.int (xs (i + (1 : Int32)).toNatClampNeg), .int (xs (i + (2 : Int32)).toNatClampNeg)]) (rest := []) S hK hPC hPM (hdM v) hS hAC (k_X5_token hap e1) rfl rfl wl_L_47 wi_X5_token ws_X5_token wz_X5 wc_X5_token hy_X5_token ⟨Nat.le_of_ble_eq_true rfl, Nat.le_of_ble_eq_true rfl⟩ hl.1 rfl (Nat.le_of_ble_eq_true rfl) dL_law_363 ⟨Nat.le_of_ble_eq_true rfl, Nat.le_of_ble_eq_true rfl⟩ (fun H locs hPC hPM hS => ?_)
  refine lv_aload_n hx hb dL_law_366 rfl (lv_at hl 1 rfl) ?_
  refine lv_aload_n hx hb dL_law_367 rfl (lv_at hl 3 rfl) ?_
  refine lv_iload_n hx hb dL_law_368 rfl (lv_at hl 0 rfl) ?_
  refine lv_iconst (v := 1) hx hb dL_law_369 (by decide) ?_
  refine lv_iadd hx hb dL_law_370 ?_
  refine va_sld hx hb hX hbl (Nat.not_le.mpr hbl) hS (hin 1 (by decide)) dL_law_371 ?_
  refine lv_aload_n hx hb dL_law_372 rfl (lv_at hl 3 rfl) ?_
  refine lv_iload_n hx hb dL_law_373 rfl (lv_at hl 0 rfl) ?_
  refine lv_iconst (v := 2) hx hb dL_law_374 (by decide) ?_
  refine lv_iadd hx hb dL_law_375 ?_
  refine va_sld hx hb hX hbl (Nat.not_le.mpr hbl) hS (hin 2 (by decide)) dL_law_376 ?_
  refine x_viL (Wf := WM ad2 cA) (wo := WC ad cA u1) (A := AF ad2 9) (ci := 6) (q0 := 0) (b := ad2 0) (As := [.int (xs (i + (1 : Int32)).toNatClampNeg), .int (xs (i + (2 : Int32)).toNatClampNeg)]) (rest := [.int r]) S hK hPM hPC (hdC u1) hS hAM (k_X6_token hap2 e2) rfl rfl wl_L_50 wi_X6_token ws_X6_token wz_X6 wc_X6_token hy_X6_token ⟨Nat.le_of_ble_eq_true rfl, Nat.le_of_ble_eq_true rfl⟩ hl.1 rfl (Nat.le_of_ble_eq_true rfl) dL_law_377 ⟨Nat.le_of_ble_eq_true rfl, Nat.le_of_ble_eq_true rfl⟩ (fun H locs hPM hPC hS => ?_)
  refine lv_icmp_eq (tgt := 543) hx hb dL_law_380 (by decide) (fun _ => ?_) (fun q => (q rfl).elim)
  exact kk u1 v1 g H locs ls hPC hPM hS hl
theorem lc_9 {C : Nat} (S : CallFix p m c cL_law 4 s args TG RL) (hK : va_K (dC, dI) vwCl [(cA, .int)] s) (hap : AP ad 14) (hap2 : AP ad2 9) (hAC : ∀ q, AF ad 14 q → LA s q) (hAM : ∀ q, AF ad2 9 q → LA s q) (hdM : ∀ (z : Wo) (k : Nat) (x : Nat × va_E), (WM ad2 cA z)[k]? = some x → ¬ AF ad 14 x.1) (hdC : ∀ (z : Wo) (k : Nat) (x : Nat × va_E), (WC ad cA z)[k]? = some x → ¬ AF ad2 9 x.1) (hX : va_X b L xs s s.heap) (hbl : b < s.heap.size) (hin : ∀ k : Nat, k < 5 → vp_in (i + nI k) L) (hRS : RS C (fX5_letter (xs (i + (1 : Int32)).toNatClampNeg) (xs (i + (2 : Int32)).toNatClampNeg) (xs (i + (3 : Int32)).toNatClampNeg) (xs (i + (4 : Int32)).toNatClampNeg) u) (fX6_letter (xs (i + (1 : Int32)).toNatClampNeg) (xs (i + (2 : Int32)).toNatClampNeg) (xs (i + (3 : Int32)).toNatClampNeg) (xs (i + (4 : Int32)).toNatClampNeg) v)) (kk : ∀ u1 v1, GG C u1 v1 → LK_ p l e s m args below meth c Q dC dI cA ad ad2 b i u1 v1 543) : LK_ p l e s m args below meth c Q dC dI cA ad ad2 b i u v 385 := by
  intro H locs ls hPC hPM hS hl
  obtain ⟨r, u1, v1, e1, e2, g⟩ := hRS
  have hx := S.1
  have hb := S.2.1
  refine lv_aload_n hx hb dL_law_385 rfl (lv_at hl 2 rfl) ?_
  refine lv_aload_n hx hb dL_law_386 rfl (lv_at hl 3 rfl) ?_
  refine lv_iload_n hx hb dL_law_387 rfl (lv_at hl 0 rfl) ?_
  refine lv_iconst (v := 1) hx hb dL_law_388 (by decide) ?_
  refine lv_iadd hx hb dL_law_389 ?_
  refine va_sld hx hb hX hbl (Nat.not_le.mpr hbl) hS (hin 1 (by decide)) dL_law_390 ?_
  refine lv_aload_n hx hb dL_law_391 rfl (lv_at hl 3 rfl) ?_
  refine lv_iload_n hx hb dL_law_392 rfl (lv_at hl 0 rfl) ?_
  refine lv_iconst (v := 2) hx hb dL_law_393 (by decide) ?_
  refine lv_iadd hx hb dL_law_394 ?_
  refine va_sld hx hb hX hbl (Nat.not_le.mpr hbl) hS (hin 2 (by decide)) dL_law_395 ?_
  refine lv_aload_n hx hb dL_law_396 rfl (lv_at hl 3 rfl) ?_
  refine lv_iload_n hx hb dL_law_397 rfl (lv_at hl 0 rfl) ?_
  refine lv_iconst (v := 3) hx hb dL_law_398 (by decide) ?_
  refine lv_iadd hx hb dL_law_399 ?_
  refine va_sld hx hb hX hbl (Nat.not_le.mpr hbl) hS (hin 3 (by decide)) dL_law_400 ?_
  refine lv_aload_n hx hb dL_law_401 rfl (lv_at hl 3 rfl) ?_
  refine lv_iload_n hx hb dL_law_402 rfl (lv_at hl 0 rfl) ?_
  refine lv_iconst (v := 4) hx hb dL_law_403 (by decide) ?_
  refine lv_iadd hx hb dL_law_404 ?_
  refine va_sld hx hb hX hbl (Nat.not_le.mpr hbl) hS (hin 4 (by decide)) dL_law_405 ?_
  refine x_viL (Wf := WC ad cA) (wo := WM ad2 cA v) (A := AF ad 14) (ci := 5) (q0 := 0) (b := ad 0) (As := [.int (xs (i + (1 : Int32)).toNatClampNeg), .int (xs (i + (2 : Int32)).toNatClampNeg), .int (xs (i + (3 : Int32)).toNatClampNeg), .int (xs (i + (4 : Int32)).toNatClampNeg)]) (rest := []) S hK hPC hPM (hdM v) hS hAC (k_X5_letter hap e1) rfl rfl wl_L_51 wi_X5_letter ws_X5_letter wz_X5 wc_X5_letter hy_X5_letter ⟨Nat.le_of_ble_eq_true rfl, Nat.le_of_ble_eq_true rfl⟩ hl.1 rfl (Nat.le_of_ble_eq_true rfl) dL_law_406 ⟨Nat.le_of_ble_eq_true rfl, Nat.le_of_ble_eq_true rfl⟩ (fun H locs hPC hPM hS => ?_)
  refine lv_aload_n hx hb dL_law_409 rfl (lv_at hl 1 rfl) ?_
  refine lv_aload_n hx hb dL_law_410 rfl (lv_at hl 3 rfl) ?_
  refine lv_iload_n hx hb dL_law_411 rfl (lv_at hl 0 rfl) ?_
  refine lv_iconst (v := 1) hx hb dL_law_412 (by decide) ?_
  refine lv_iadd hx hb dL_law_413 ?_
  refine va_sld hx hb hX hbl (Nat.not_le.mpr hbl) hS (hin 1 (by decide)) dL_law_414 ?_
  refine lv_aload_n hx hb dL_law_415 rfl (lv_at hl 3 rfl) ?_
  refine lv_iload_n hx hb dL_law_416 rfl (lv_at hl 0 rfl) ?_
  refine lv_iconst (v := 2) hx hb dL_law_417 (by decide) ?_
  refine lv_iadd hx hb dL_law_418 ?_
  refine va_sld hx hb hX hbl (Nat.not_le.mpr hbl) hS (hin 2 (by decide)) dL_law_419 ?_
  refine lv_aload_n hx hb dL_law_420 rfl (lv_at hl 3 rfl) ?_
  refine lv_iload_n hx hb dL_law_421 rfl (lv_at hl 0 rfl) ?_
  refine lv_iconst (v := 3) hx hb dL_law_422 (by decide) ?_
  refine lv_iadd hx hb dL_law_423 ?_
  refine va_sld hx hb hX hbl (Nat.not_le.mpr hbl) hS (hin 3 (by decide)) dL_law_424 ?_
  refine lv_aload_n hx hb dL_law_425 rfl (lv_at hl 3 rfl) ?_
  refine lv_iload_n hx hb dL_law_426 rfl (lv_at hl 0 rfl) ?_
  refine lv_iconst (v := 4) hx hb dL_law_427 (by decide) ?_
  refine lv_iadd hx hb dL_law_428 ?_
  refine va_sld hx hb hX hbl (Nat.not_le.mpr hbl) hS (hin 4 (by decide)) dL_law_429 ?_
  refine x_viL (Wf := WM ad2 cA) (wo := WC ad cA u1) (A := AF ad2 9) (ci := 6) (q0 := 0) (b := ad2 0) (As := [.int (xs (i + (1 : Int32)).toNatClampNeg), .int (xs (i + (2 : Int32)).toNatClampNeg), .int (xs (i + (3 : Int32)).toNatClampNeg), .int (xs (i + (4 : Int32)).toNatClampNeg)]) (rest := [.int r]) S hK hPM hPC (hdC u1) hS hAM (k_X6_letter hap2 e2) rfl rfl wl_L_55 wi_X6_letter ws_X6_letter wz_X6 wc_X6_letter hy_X6_letter ⟨Nat.le_of_ble_eq_true rfl, Nat.le_of_ble_eq_true rfl⟩ hl.1 rfl (Nat.le_of_ble_eq_true rfl) dL_law_430 ⟨Nat.le_of_ble_eq_true rfl, Nat.le_of_ble_eq_true rfl⟩ (fun H locs hPM hPC hS => ?_)
  refine lv_icmp_eq (tgt := 543) hx hb dL_law_433 (by decide) (fun _ => ?_) (fun q => (q rfl).elim)
  exact kk u1 v1 g H locs ls hPC hPM hS hl
theorem lc_10 {C : Nat} (S : CallFix p m c cL_law 4 s args TG RL) (hK : va_K (dC, dI) vwCl [(cA, .int)] s) (hap : AP ad 14) (hap2 : AP ad2 9) (hAC : ∀ q, AF ad 14 q → LA s q) (hAM : ∀ q, AF ad2 9 q → LA s q) (hdM : ∀ (z : Wo) (k : Nat) (x : Nat × va_E), (WM ad2 cA z)[k]? = some x → ¬ AF ad 14 x.1) (hdC : ∀ (z : Wo) (k : Nat) (x : Nat × va_E), (WC ad cA z)[k]? = some x → ¬ AF ad2 9 x.1) (hX : va_X b L xs s s.heap) (hbl : b < s.heap.size) (hin : ∀ k : Nat, k < 5 → vp_in (i + nI k) L) (hRS : RS C (fX5_entry (xs (i + (1 : Int32)).toNatClampNeg) (xs (i + (2 : Int32)).toNatClampNeg) u) (fX6_entry (xs (i + (1 : Int32)).toNatClampNeg) (xs (i + (2 : Int32)).toNatClampNeg) v)) (kk : ∀ u1 v1, GG C u1 v1 → LK_ p l e s m args below meth c Q dC dI cA ad ad2 b i u1 v1 543) : LK_ p l e s m args below meth c Q dC dI cA ad ad2 b i u v 438 := by
  intro H locs ls hPC hPM hS hl
  obtain ⟨r, u1, v1, e1, e2, g⟩ := hRS
  have hx := S.1
  have hb := S.2.1
  refine lv_aload_n hx hb dL_law_438 rfl (lv_at hl 2 rfl) ?_
  refine lv_aload_n hx hb dL_law_439 rfl (lv_at hl 3 rfl) ?_
  refine lv_iload_n hx hb dL_law_440 rfl (lv_at hl 0 rfl) ?_
  refine lv_iconst (v := 1) hx hb dL_law_441 (by decide) ?_
  refine lv_iadd hx hb dL_law_442 ?_
  refine va_sld hx hb hX hbl (Nat.not_le.mpr hbl) hS (hin 1 (by decide)) dL_law_443 ?_
  refine lv_aload_n hx hb dL_law_444 rfl (lv_at hl 3 rfl) ?_
  refine lv_iload_n hx hb dL_law_445 rfl (lv_at hl 0 rfl) ?_
  refine lv_iconst (v := 2) hx hb dL_law_446 (by decide) ?_
  refine lv_iadd hx hb dL_law_447 ?_
  refine va_sld hx hb hX hbl (Nat.not_le.mpr hbl) hS (hin 2 (by decide)) dL_law_448 ?_
  refine x_viL (Wf := WC ad cA) (wo := WM ad2 cA v) (A := AF ad 14) (ci := 5) (q0 := 0) (b := ad 0) (As := [.int (xs (i + (1 : Int32)).toNatClampNeg), .int (xs (i + (2 : Int32)).toNatClampNeg)]) (rest := []) S hK hPC hPM (hdM v) hS hAC (k_X5_entry hap e1) rfl rfl wl_L_56 wi_X5_entry ws_X5_entry wz_X5 wc_X5_entry hy_X5_entry ⟨Nat.le_of_ble_eq_true rfl, Nat.le_of_ble_eq_true rfl⟩ hl.1 rfl (Nat.le_of_ble_eq_true rfl) dL_law_449 ⟨Nat.le_of_ble_eq_true rfl, Nat.le_of_ble_eq_true rfl⟩ (fun H locs hPC hPM hS => ?_)
  refine lv_aload_n hx hb dL_law_452 rfl (lv_at hl 1 rfl) ?_
  refine lv_aload_n hx hb dL_law_453 rfl (lv_at hl 3 rfl) ?_
  refine lv_iload_n hx hb dL_law_454 rfl (lv_at hl 0 rfl) ?_
  refine lv_iconst (v := 1) hx hb dL_law_455 (by decide) ?_
  refine lv_iadd hx hb dL_law_456 ?_
  refine va_sld hx hb hX hbl (Nat.not_le.mpr hbl) hS (hin 1 (by decide)) dL_law_457 ?_
  refine lv_aload_n hx hb dL_law_458 rfl (lv_at hl 3 rfl) ?_
  refine lv_iload_n hx hb dL_law_459 rfl (lv_at hl 0 rfl) ?_
  refine lv_iconst (v := 2) hx hb dL_law_460 (by decide) ?_
  refine lv_iadd hx hb dL_law_461 ?_
  refine va_sld hx hb hX hbl (Nat.not_le.mpr hbl) hS (hin 2 (by decide)) dL_law_462 ?_
  refine x_viL (Wf := WM ad2 cA) (wo := WC ad cA u1) (A := AF ad2 9) (ci := 6) (q0 := 0) (b := ad2 0) (As := [.int (xs (i + (1 : Int32)).toNatClampNeg), .int (xs (i + (2 : Int32)).toNatClampNeg)]) (rest := [.int r]) S hK hPM hPC (hdC u1) hS hAM (k_X6_entry hap2 e2) rfl rfl wl_L_59 wi_X6_entry ws_X6_entry wz_X6 wc_X6_entry hy_X6_entry ⟨Nat.le_of_ble_eq_true rfl, Nat.le_of_ble_eq_true rfl⟩ hl.1 rfl (Nat.le_of_ble_eq_true rfl) dL_law_463 ⟨Nat.le_of_ble_eq_true rfl, Nat.le_of_ble_eq_true rfl⟩ (fun H locs hPM hPC hS => ?_)
  refine lv_icmp_eq (tgt := 543) hx hb dL_law_466 (by decide) (fun _ => ?_) (fun q => (q rfl).elim)
  exact kk u1 v1 g H locs ls hPC hPM hS hl
theorem lc_11 {C : Nat} (S : CallFix p m c cL_law 4 s args TG RL) (hK : va_K (dC, dI) vwCl [(cA, .int)] s) (hap : AP ad 14) (hap2 : AP ad2 9) (hAC : ∀ q, AF ad 14 q → LA s q) (hAM : ∀ q, AF ad2 9 q → LA s q) (hdM : ∀ (z : Wo) (k : Nat) (x : Nat × va_E), (WM ad2 cA z)[k]? = some x → ¬ AF ad 14 x.1) (hdC : ∀ (z : Wo) (k : Nat) (x : Nat × va_E), (WC ad cA z)[k]? = some x → ¬ AF ad2 9 x.1) (hX : va_X b L xs s s.heap) (hbl : b < s.heap.size) (hin : ∀ k : Nat, k < 5 → vp_in (i + nI k) L) (hRS : RS C (fX5_undo u) (fX6_undo v)) (kk : ∀ u1 v1, GG C u1 v1 → LK_ p l e s m args below meth c Q dC dI cA ad ad2 b i u1 v1 543) : LK_ p l e s m args below meth c Q dC dI cA ad ad2 b i u v 471 := by
  intro H locs ls hPC hPM hS hl
  obtain ⟨r, u1, v1, e1, e2, g⟩ := hRS
  have hx := S.1
  have hb := S.2.1
  refine lv_aload_n hx hb dL_law_471 rfl (lv_at hl 2 rfl) ?_
  refine x_viL (Wf := WC ad cA) (wo := WM ad2 cA v) (A := AF ad 14) (ci := 5) (q0 := 0) (b := ad 0) (As := []) (rest := []) S hK hPC hPM (hdM v) hS hAC (k_X5_undo hap e1) rfl rfl wl_L_60 wi_X5_undo ws_X5_undo wz_X5 wc_X5_undo hy_X5_undo ⟨Nat.le_of_ble_eq_true rfl, Nat.le_of_ble_eq_true rfl⟩ hl.1 rfl (Nat.le_of_ble_eq_true rfl) dL_law_472 ⟨Nat.le_of_ble_eq_true rfl, Nat.le_of_ble_eq_true rfl⟩ (fun H locs hPC hPM hS => ?_)
  refine lv_aload_n hx hb dL_law_475 rfl (lv_at hl 1 rfl) ?_
  refine x_viL (Wf := WM ad2 cA) (wo := WC ad cA u1) (A := AF ad2 9) (ci := 6) (q0 := 0) (b := ad2 0) (As := []) (rest := [.int r]) S hK hPM hPC (hdC u1) hS hAM (k_X6_undo hap2 e2) rfl rfl wl_L_64 wi_X6_undo ws_X6_undo wz_X6 wc_X6_undo hy_X6_undo ⟨Nat.le_of_ble_eq_true rfl, Nat.le_of_ble_eq_true rfl⟩ hl.1 rfl (Nat.le_of_ble_eq_true rfl) dL_law_476 ⟨Nat.le_of_ble_eq_true rfl, Nat.le_of_ble_eq_true rfl⟩ (fun H locs hPM hPC hS => ?_)
  refine lv_icmp_eq (tgt := 543) hx hb dL_law_479 (by decide) (fun _ => ?_) (fun q => (q rfl).elim)
  exact kk u1 v1 g H locs ls hPC hPM hS hl
theorem lc_12 {C : Nat} (S : CallFix p m c cL_law 4 s args TG RL) (hK : va_K (dC, dI) vwCl [(cA, .int)] s) (hap : AP ad 14) (hap2 : AP ad2 9) (hAC : ∀ q, AF ad 14 q → LA s q) (hAM : ∀ q, AF ad2 9 q → LA s q) (hdM : ∀ (z : Wo) (k : Nat) (x : Nat × va_E), (WM ad2 cA z)[k]? = some x → ¬ AF ad 14 x.1) (hdC : ∀ (z : Wo) (k : Nat) (x : Nat × va_E), (WC ad cA z)[k]? = some x → ¬ AF ad2 9 x.1) (hX : va_X b L xs s s.heap) (hbl : b < s.heap.size) (hin : ∀ k : Nat, k < 5 → vp_in (i + nI k) L) (hRS : RS C (fX5_pass u) (fX6_pass v)) (kk : ∀ u1 v1, GG C u1 v1 → LK_ p l e s m args below meth c Q dC dI cA ad ad2 b i u1 v1 543) : LK_ p l e s m args below meth c Q dC dI cA ad ad2 b i u v 484 := by
  intro H locs ls hPC hPM hS hl
  obtain ⟨r, u1, v1, e1, e2, g⟩ := hRS
  have hx := S.1
  have hb := S.2.1
  refine lv_aload_n hx hb dL_law_484 rfl (lv_at hl 2 rfl) ?_
  refine x_viL (Wf := WC ad cA) (wo := WM ad2 cA v) (A := AF ad 14) (ci := 5) (q0 := 0) (b := ad 0) (As := []) (rest := []) S hK hPC hPM (hdM v) hS hAC (k_X5_pass hap e1) rfl rfl wl_L_65 wi_X5_pass ws_X5_pass wz_X5 wc_X5_pass hy_X5_pass ⟨Nat.le_of_ble_eq_true rfl, Nat.le_of_ble_eq_true rfl⟩ hl.1 rfl (Nat.le_of_ble_eq_true rfl) dL_law_485 ⟨Nat.le_of_ble_eq_true rfl, Nat.le_of_ble_eq_true rfl⟩ (fun H locs hPC hPM hS => ?_)
  refine lv_aload_n hx hb dL_law_488 rfl (lv_at hl 1 rfl) ?_
  refine x_viL (Wf := WM ad2 cA) (wo := WC ad cA u1) (A := AF ad2 9) (ci := 6) (q0 := 0) (b := ad2 0) (As := []) (rest := [.int r]) S hK hPM hPC (hdC u1) hS hAM (k_X6_pass hap2 e2) rfl rfl wl_L_68 wi_X6_pass ws_X6_pass wz_X6 wc_X6_pass hy_X6_pass ⟨Nat.le_of_ble_eq_true rfl, Nat.le_of_ble_eq_true rfl⟩ hl.1 rfl (Nat.le_of_ble_eq_true rfl) dL_law_489 ⟨Nat.le_of_ble_eq_true rfl, Nat.le_of_ble_eq_true rfl⟩ (fun H locs hPM hPC hS => ?_)
  refine lv_icmp_eq (tgt := 543) hx hb dL_law_492 (by decide) (fun _ => ?_) (fun q => (q rfl).elim)
  exact kk u1 v1 g H locs ls hPC hPM hS hl
theorem lc_13 {C : Nat} (S : CallFix p m c cL_law 4 s args TG RL) (hK : va_K (dC, dI) vwCl [(cA, .int)] s) (hap : AP ad 14) (hap2 : AP ad2 9) (hAC : ∀ q, AF ad 14 q → LA s q) (hAM : ∀ q, AF ad2 9 q → LA s q) (hdM : ∀ (z : Wo) (k : Nat) (x : Nat × va_E), (WM ad2 cA z)[k]? = some x → ¬ AF ad 14 x.1) (hdC : ∀ (z : Wo) (k : Nat) (x : Nat × va_E), (WC ad cA z)[k]? = some x → ¬ AF ad2 9 x.1) (hX : va_X b L xs s s.heap) (hbl : b < s.heap.size) (hin : ∀ k : Nat, k < 5 → vp_in (i + nI k) L) (hRS : RS C (fX5_passed (xs (i + (1 : Int32)).toNatClampNeg) u) (fX6_passed (xs (i + (1 : Int32)).toNatClampNeg) v)) (kk : ∀ u1 v1, GG C u1 v1 → LK_ p l e s m args below meth c Q dC dI cA ad ad2 b i u1 v1 543) : LK_ p l e s m args below meth c Q dC dI cA ad ad2 b i u v 497 := by
  intro H locs ls hPC hPM hS hl
  obtain ⟨r, u1, v1, e1, e2, g⟩ := hRS
  have hx := S.1
  have hb := S.2.1
  refine lv_aload_n hx hb dL_law_497 rfl (lv_at hl 2 rfl) ?_
  refine lv_aload_n hx hb dL_law_498 rfl (lv_at hl 3 rfl) ?_
  refine lv_iload_n hx hb dL_law_499 rfl (lv_at hl 0 rfl) ?_
  refine lv_iconst (v := 1) hx hb dL_law_500 (by decide) ?_
  refine lv_iadd hx hb dL_law_501 ?_
  refine va_sld hx hb hX hbl (Nat.not_le.mpr hbl) hS (hin 1 (by decide)) dL_law_502 ?_
  refine x_viL (Wf := WC ad cA) (wo := WM ad2 cA v) (A := AF ad 14) (ci := 5) (q0 := 0) (b := ad 0) (As := [.int (xs (i + (1 : Int32)).toNatClampNeg)]) (rest := []) S hK hPC hPM (hdM v) hS hAC (k_X5_passed hap e1) rfl rfl wl_L_69 wi_X5_passed ws_X5_passed wz_X5 wc_X5_passed hy_X5_passed ⟨Nat.le_of_ble_eq_true rfl, Nat.le_of_ble_eq_true rfl⟩ hl.1 rfl (Nat.le_of_ble_eq_true rfl) dL_law_503 ⟨Nat.le_of_ble_eq_true rfl, Nat.le_of_ble_eq_true rfl⟩ (fun H locs hPC hPM hS => ?_)
  refine lv_aload_n hx hb dL_law_506 rfl (lv_at hl 1 rfl) ?_
  refine lv_aload_n hx hb dL_law_507 rfl (lv_at hl 3 rfl) ?_
  refine lv_iload_n hx hb dL_law_508 rfl (lv_at hl 0 rfl) ?_
  refine lv_iconst (v := 1) hx hb dL_law_509 (by decide) ?_
  refine lv_iadd hx hb dL_law_510 ?_
  refine va_sld hx hb hX hbl (Nat.not_le.mpr hbl) hS (hin 1 (by decide)) dL_law_511 ?_
  refine x_viL (Wf := WM ad2 cA) (wo := WC ad cA u1) (A := AF ad2 9) (ci := 6) (q0 := 0) (b := ad2 0) (As := [.int (xs (i + (1 : Int32)).toNatClampNeg)]) (rest := [.int r]) S hK hPM hPC (hdC u1) hS hAM (k_X6_passed hap2 e2) rfl rfl wl_L_72 wi_X6_passed ws_X6_passed wz_X6 wc_X6_passed hy_X6_passed ⟨Nat.le_of_ble_eq_true rfl, Nat.le_of_ble_eq_true rfl⟩ hl.1 rfl (Nat.le_of_ble_eq_true rfl) dL_law_512 ⟨Nat.le_of_ble_eq_true rfl, Nat.le_of_ble_eq_true rfl⟩ (fun H locs hPM hPC hS => ?_)
  refine lv_icmp_eq (tgt := 543) hx hb dL_law_515 (by decide) (fun _ => ?_) (fun q => (q rfl).elim)
  exact kk u1 v1 g H locs ls hPC hPM hS hl
theorem lc_14 {C : Nat} (S : CallFix p m c cL_law 4 s args TG RL) (hK : va_K (dC, dI) vwCl [(cA, .int)] s) (hap : AP ad 14) (hap2 : AP ad2 9) (hAC : ∀ q, AF ad 14 q → LA s q) (hAM : ∀ q, AF ad2 9 q → LA s q) (hdM : ∀ (z : Wo) (k : Nat) (x : Nat × va_E), (WM ad2 cA z)[k]? = some x → ¬ AF ad 14 x.1) (hdC : ∀ (z : Wo) (k : Nat) (x : Nat × va_E), (WC ad cA z)[k]? = some x → ¬ AF ad2 9 x.1) (hX : va_X b L xs s s.heap) (hbl : b < s.heap.size) (hin : ∀ k : Nat, k < 5 → vp_in (i + nI k) L) (hRS : RS C (fX5_count (xs (i + (1 : Int32)).toNatClampNeg) u) (fX6_count (xs (i + (1 : Int32)).toNatClampNeg) v)) (kk : ∀ u1 v1, GG C u1 v1 → LK_ p l e s m args below meth c Q dC dI cA ad ad2 b i u1 v1 543) : LK_ p l e s m args below meth c Q dC dI cA ad ad2 b i u v 520 := by
  intro H locs ls hPC hPM hS hl
  obtain ⟨r, u1, v1, e1, e2, g⟩ := hRS
  have hx := S.1
  have hb := S.2.1
  refine lv_aload_n hx hb dL_law_520 rfl (lv_at hl 2 rfl) ?_
  refine lv_aload_n hx hb dL_law_521 rfl (lv_at hl 3 rfl) ?_
  refine lv_iload_n hx hb dL_law_522 rfl (lv_at hl 0 rfl) ?_
  refine lv_iconst (v := 1) hx hb dL_law_523 (by decide) ?_
  refine lv_iadd hx hb dL_law_524 ?_
  refine va_sld hx hb hX hbl (Nat.not_le.mpr hbl) hS (hin 1 (by decide)) dL_law_525 ?_
  refine x_viL (Wf := WC ad cA) (wo := WM ad2 cA v) (A := AF ad 14) (ci := 5) (q0 := 0) (b := ad 0) (As := [.int (xs (i + (1 : Int32)).toNatClampNeg)]) (rest := []) S hK hPC hPM (hdM v) hS hAC (k_X5_count hap e1) rfl rfl wl_L_73 wi_X5_count ws_X5_count wz_X5 wc_X5_count hy_X5_count ⟨Nat.le_of_ble_eq_true rfl, Nat.le_of_ble_eq_true rfl⟩ hl.1 rfl (Nat.le_of_ble_eq_true rfl) dL_law_526 ⟨Nat.le_of_ble_eq_true rfl, Nat.le_of_ble_eq_true rfl⟩ (fun H locs hPC hPM hS => ?_)
  refine lv_aload_n hx hb dL_law_529 rfl (lv_at hl 1 rfl) ?_
  refine lv_aload_n hx hb dL_law_530 rfl (lv_at hl 3 rfl) ?_
  refine lv_iload_n hx hb dL_law_531 rfl (lv_at hl 0 rfl) ?_
  refine lv_iconst (v := 1) hx hb dL_law_532 (by decide) ?_
  refine lv_iadd hx hb dL_law_533 ?_
  refine va_sld hx hb hX hbl (Nat.not_le.mpr hbl) hS (hin 1 (by decide)) dL_law_534 ?_
  refine x_viL (Wf := WM ad2 cA) (wo := WC ad cA u1) (A := AF ad2 9) (ci := 6) (q0 := 0) (b := ad2 0) (As := [.int (xs (i + (1 : Int32)).toNatClampNeg)]) (rest := [.int r]) S hK hPM hPC (hdC u1) hS hAM (k_X6_count hap2 e2) rfl rfl wl_L_76 wi_X6_count ws_X6_count wz_X6 wc_X6_count hy_X6_count ⟨Nat.le_of_ble_eq_true rfl, Nat.le_of_ble_eq_true rfl⟩ hl.1 rfl (Nat.le_of_ble_eq_true rfl) dL_law_535 ⟨Nat.le_of_ble_eq_true rfl, Nat.le_of_ble_eq_true rfl⟩ (fun H locs hPM hPC hS => ?_)
  refine lv_icmp_eq (tgt := 543) hx hb dL_law_538 (by decide) (fun _ => ?_) (fun q => (q rfl).elim)
  exact kk u1 v1 g H locs ls hPC hPM hS hl
end LAWK
