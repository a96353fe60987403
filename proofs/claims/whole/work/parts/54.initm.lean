-- the reference's constructor
/-- a call that answers nothing, among makings -/
theorem x_vvG {p : Program} {l : Launch} {e : Env} {R : Room} {s : State} {m : MethodId} {args : Array Value} {below : List Frame} {meth : Method} {c : Code} {H : Heap} {locs : List Loc} {cells slots : Nat} {Q : State → Prop} {cc : ByteArray} {nL pc index : Nat} {ls : Array Slot} {rest : List Value} {own : String} {y0 : MethodName} {c0 : ByteArray} {n0 : Nat} {r0 : Option FieldType} {dC : Nat → ClassId} {dI : Nat → Nat → Nat} {cI : ClassId} {Wf : Wo → va_W} {A A0 : Nat → Prop} {u : Wo}
    {y : MethodName} {cy : ByteArray} {ny : Nat} {ry : Option FieldType} {fr lo b : Nat} {As st0 : List Value} {u1 : Wo} (S : CallFix p m c cc nL s args (Cond.code y0 c0 n0 r0 :: TG) own) (hK : va_K (dC, dI) vwCl [(cI, .int)] s) (hP : va_P (dC, dI) vwCl (Wf u) H) (hS : va_S A0 s.heap H locs) (hAA : ∀ q, A q → A0 q)
    (hC : CV l dC dI cI Wf A y cy ny ry fr lo (.ref b :: As) u u1) {ci q0 N : Nat} {T : u_T} {fs : List Value} (hc : vwCl[ci]? = some (y.cls, T, N)) (he : (Wf u)[q0]? = some (b, .inr (ci, fs)))
    (hl : Cond.methodLink own index y ∈ TG) (hi : Cond.instanceMethod y ∈ TG) (hs : Cond.selects y.cls y y ∈ TG) (hz : Cond.initialized y.cls ∈ TG) (hcd : Cond.code y cy ny ry ∈ TG)
    (hy : y.cls ≠ "java/lang/invoke/MethodHandle" ∧ y.cls ≠ "java/lang/invoke/VarHandle" ∧ (parseMethodDescriptor y.desc).map (fun d => d.parameters.length) = some As.length)
    (hR : fr + 1 ≤ R.frames ∧ 8 + (ny + 11) + lo ≤ R.locals) (hsz : ls.size = nL) (hst : st0 = As.reverse ++ .ref b :: rest) (hW : (rest.map fun v => v.category).sum ≤ 8) (hd : decode cc pc = .ok (.invokevirtual index, 3)) (hcs : cells + 0 ≤ R.cells ∧ slots + 0 ≤ R.slots)
    (k : ∀ (H1 : Heap) (locs1 : List Loc), va_P (dC, dI) vwCl (Wf u1) H1 → va_S A0 s.heap H1 locs1 → W p l e R s m args below meth c H1 locs1 cells slots Q (F0 m (pc + 3) ls rest)) : W p l e R s m args below meth c H locs cells slots Q (F0 m pc ls st0) := by
  subst hst
  have hG : GoodIn (Cond.code y0 c0 n0 r0 :: TG) (wsV own index y.cls y (Cond.code y cy ny ry :: TG)) := fun w hw => by
    rcases List.mem_append.mp hw with hw | hw
    · have : w ∈ TG := by
        simp only [List.mem_cons, List.not_mem_nil, or_false] at hw
        rcases hw with rfl | rfl | rfl | rfl <;> assumption
      exact tg_c w this
    · exact tg_cc hcd w hw
  refine va_callv (va_runV (As := As) (rest := rest) S hC (cwV As.length S.2.2.2.2 hG rfl rfl rfl ⟨rfl, hy⟩ hR) ⟨pw_blind, va_recv hK hP hc he, fun U hU hW => ⟨rfl, by rw [hU]; exact hP, va_K.moved hW.alike hK⟩⟩ rfl rfl hsz rfl (lv_room hW) hd hcs) hS (fun q _ h => hAA q h) (fun q h => hAA q h) (fun u2 t H1 locs1 ht hvm hw hB hz1 hk1 hS => ?_)
  obtain rfl := hw
  exact k _ _ (ht ▸ hB.1) hS
/-- the reference's numbers ahead of its first clearing -/
def vM0 : Wo := fun c => match c with
  | 0 => fun k => match k with
    | 1 => 2
    | 6 => 1
    | _ => 0
  | _ => fun _ => 0
def ad9 (h0 q1 q2 q3 q4 q5 q6 q7 q8 : Nat) : Nat → Nat := fun k => match k with
  | 0 => h0
  | 1 => q1
  | 2 => q2
  | 3 => q3
  | 4 => q4
  | 5 => q5
  | 6 => q6
  | 7 => q7
  | _ => q8
theorem AP_of {A : Nat → Prop} {ad : Nat → Nat} {n : Nat} {ws : va_W} (h : va_D A ws) (hw : ∀ k, k < n → ∃ x, ws[k]? = some (ad k, x)) : AP ad n ∧ ∀ q, AF ad n q → A q := by
  refine ⟨fun i j hi hj e => ?_, fun q hq => ?_⟩
  · obtain ⟨x, hx⟩ := hw i hi
    obtain ⟨y, hy⟩ := hw j hj
    exact h.1 i j _ _ hx hy e
  · obtain ⟨k, hk, rfl⟩ := hq
    obtain ⟨x, hx⟩ := hw k hk
    exact h.2 k _ hx
theorem va_D_of {A : Nat → Prop} {ad : Nat → Nat} {cI : ClassId} (h : AP ad 9) (hA : ∀ q, AF ad 9 q → A q) (u : Wo) : va_D A (WM ad cI u) := ⟨(WM_D h u).1, fun k q hq => hA _ ((WM_D h u).2 k q hq)⟩
theorem k_X6_init (l : Launch) (dC : Nat → ClassId) (dI : Nat → Nat → Nat) (h0 sz : Nat) (v2 : Wo) (hv2 : fX6_clear vM0 = some (0, v2)) : Met l yX6_init (Cond.code yX6_init cX6_init 1 none :: TG) ({ frames := 2, cells := 8, slots := 352397, locals := 42 }) (va_Pc [.ref h0] (PN dC dI 6 [.int 0, .int 0, .null, .null, .null, .int 0, .int 0, .int 0, .int 0, .int 0, .int 0, .null, .null, .int 0, .null, .null, .null, .int 0] h0 sz)) (va_Qv (fun _ : (Nat → Nat) × ClassId => True) (fun x t => x.1 0 = h0 ∧ AP x.1 9 ∧ va_P (dC, dI) vwCl (WM x.1 x.2 v2) t.heap ∧ va_K (dC, dI) vwCl [(x.2, .int)] t ∧ va_D (va_A [(h0, .inr (6, [.int 0, .int 0, .null, .null, .null, .int 0, .int 0, .int 0, .int 0, .int 0, .int 0, .null, .null, .int 0, .null, .null, .null, .int 0]))] sz) (WM x.1 x.2 v2)) (va_A [(h0, .inr (6, [.int 0, .int 0, .null, .null, .null, .int 0, .int 0, .int 0, .int 0, .int 0, .int 0, .null, .null, .int 0, .null, .null, .null, .int 0]))] sz)) 8 352397 (va_A [(h0, .inr (6, [.int 0, .int 0, .null, .null, .null, .int 0, .int 0, .int 0, .int 0, .int 0, .int 0, .null, .null, .int 0, .null, .null, .null, .int 0]))] sz) := by
  refine Met.ofW (cc := cX6_init) (maxL := 1) (ret := none) (by decide) rfl ?_
  intro p e s m args below meth c s₁ B hml hv
  obtain ⟨rfl, hsz, hP, hK, hD0⟩ := hv
  have hx := B.exec
  have hb := B.bytes
  have hr := B.returns
  have hts := atoms_spec (ws := Cond.code yX6_init cX6_init 1 none :: TG) B.pre
  have htg : ∀ w ∈ TG, w.before ([.ref h0] : List Value).toArray s = true := fun w h => hts w (List.mem_cons_of_mem _ h)
  have hown : s.vm.findClass RX6 = some m.cls := findClass_of_methodNamed B.named
  have hlocks := B.notSynchronized
  have hin : meth.name = "<init>" := (name_of_methodNamed B.named B.method).1
  subst hsz
  have hD := hD0.self (sz := s.heap.size)
  generalize hAe : va_A [(h0, .inr (6, [.int 0, .int 0, .null, .null, .null, .int 0, .int 0, .int 0, .int 0, .int 0, .int 0, .null, .null, .int 0, .null, .null, .null, .int 0]))] s.heap.size = A at hD ⊢
  have hA : ∀ q : Nat, s.heap.size ≤ q → A q := fun q h => by rw [← hAe]; exact Or.inr h
  have hS : va_S A s.heap s.heap [] := va_S.rf
  have hP : va_P (dC, dI) vwCl [(h0, .inr (6, [.int 0, .int 0, .null, .null, .null, .int 0, .int 0, .int 0, .int 0, .int 0, .int 0, .null, .null, .int 0, .null, .null, .null, .int 0]))] s.heap := hP
  have hl := lv_entry ([.ref h0]) (n := 1) (Nat.le_of_ble_eq_true rfl)
  rw [lg_entry_eq]
  generalize (lg_sl ([.ref h0]) ++ List.replicate (1 - (lg_sl ([.ref h0])).length) Slot.unset).toArray = ls at hl ⊢
  have hl : lv_has ls 1 [(0, .ref h0)] := hl
  refine lv_aload_n hx hb dX6_init_0 rfl (lv_at hl 0 rfl) ?_
  refine W.objInit hx hb hown (htg _ wl_X6_1) (htg _ wi_objectInit) (htg _ wc_objectInit) rfl (by rw [hml]; exact hl.1) rfl dX6_init_1 (Nat.le_of_ble_eq_true rfl) (Nat.le_of_ble_eq_true rfl) ?_
  refine W.eq (g2 := F0 m 4 ls []) rfl ?_
  refine lv_aload_n hx hb dX6_init_4 rfl (lv_at hl 0 rfl) ?_
  refine lv_iconst (v := 2) hx hb dX6_init_5 (by decide) ?_
  refine va_put (D := (dC, dI)) (ci := 6) (v := .int 2) (ty := .int) (C := RX6) (T := TX6) (N := 18) hx hb hts (fun w h => List.mem_cons_of_mem _ (wu_X6 w h)) tyX6 tyX6_ok nmX6 hown hK hP hD hS 0 rfl rfl 1 (by decide) (htg _ wf_X6_7) (fun _ h9 => h9) rfl (by decide +kernel) rfl rfl (Nat.le_of_ble_eq_true rfl) dX6_init_6 (fun H locs hP hD hS => ?_)
  have hP : va_P (dC, dI) vwCl [(h0, .inr (6, [.int 0, .int 2, .null, .null, .null, .int 0, .int 0, .int 0, .int 0, .int 0, .int 0, .null, .null, .int 0, .null, .null, .null, .int 0]))] H := hP
  have hD : va_D A [(h0, .inr (6, [.int 0, .int 2, .null, .null, .null, .int 0, .int 0, .int 0, .int 0, .int 0, .int 0, .null, .null, .int 0, .null, .null, .null, .int 0]))] := hD
  refine lv_aload_n hx hb dX6_init_9 rfl (lv_at hl 0 rfl) ?_
  refine lv_bipush (v := 6) hx hb dX6_init_10 (by decide) ?_
  refine va_newa (atype := .int) (ty := .int) (N' := 6) (a0 := (6, .inl (fun _ => 0))) hx hb (htg _ w_arrayClass) rfl hK hP hD hS hA (fun cA => rfl) (by decide) (by decide) (by decide) (Nat.le_of_ble_eq_true rfl) (Nat.le_of_ble_eq_true rfl) dX6_init_12 (fun q1 cA H hK hP hD hS => ?_)
  have hK : va_K (dC, dI) vwCl [(cA, .int)] s := hK
  have hP : va_P (dC, dI) vwCl [(h0, .inr (6, [.int 0, .int 2, .null, .null, .null, .int 0, .int 0, .int 0, .int 0, .int 0, .int 0, .null, .null, .int 0, .null, .null, .null, .int 0])), (q1, .inl (cA, 6, .inl (fun _ => 0)))] H := hP
  have hD : va_D A [(h0, .inr (6, [.int 0, .int 2, .null, .null, .null, .int 0, .int 0, .int 0, .int 0, .int 0, .int 0, .null, .null, .int 0, .null, .null, .null, .int 0])), (q1, .inl (cA, 6, .inl (fun _ => 0)))] := hD
  refine va_putF (D := (dC, dI)) (ci := 6) (v := .ref q1) (ty := .array .int) (C := RX6) (T := TX6) (N := 18) hx hb hts (fun w h => List.mem_cons_of_mem _ (wu_X6 w h)) tyX6 tyX6_ok nmX6 hown hK hP hD hS 0 rfl rfl 2 (by decide) (htg _ wf_X6_13) (fun _ h9 => h9) rfl hin rfl (by decide +kernel) rfl rfl (Nat.le_of_ble_eq_true rfl) dX6_init_14 (fun H locs hP hD hS => ?_)
  have hP : va_P (dC, dI) vwCl [(h0, .inr (6, [.int 0, .int 2, .ref q1, .null, .null, .int 0, .int 0, .int 0, .int 0, .int 0, .int 0, .null, .null, .int 0, .null, .null, .null, .int 0])), (q1, .inl (cA, 6, .inl (fun _ => 0)))] H := hP
  have hD : va_D A [(h0, .inr (6, [.int 0, .int 2, .ref q1, .null, .null, .int 0, .int 0, .int 0, .int 0, .int 0, .int 0, .null, .null, .int 0, .null, .null, .null, .int 0])), (q1, .inl (cA, 6, .inl (fun _ => 0)))] := hD
  refine lv_aload_n hx hb dX6_init_17 rfl (lv_at hl 0 rfl) ?_
  refine lv_sipush (v := 1040) hx hb dX6_init_18 (by decide) ?_
  refine va_newa (atype := .int) (ty := .int) (N' := 1040) (a0 := (1040, .inl (fun _ => 0))) hx hb (htg _ w_arrayClass) rfl hK hP hD hS hA (fun cA => rfl) (by decide) (by decide) (by decide) (Nat.le_of_ble_eq_true rfl) (Nat.le_of_ble_eq_true rfl) dX6_init_21 (fun q2 cB H hK hP hD hS => ?_)
  obtain rfl : cB = cA := ra_same hK
  have hK : va_K (dC, dI) vwCl [(cB, .int)] s := hK.sub (tys' := [(cB, .int)]) [0] rfl
  obtain ⟨cA, hcA⟩ : ∃ z, z = cB := ⟨_, rfl⟩
  subst hcA
  have hP : va_P (dC, dI) vwCl [(h0, .inr (6, [.int 0, .int 2, .ref q1, .null, .null, .int 0, .int 0, .int 0, .int 0, .int 0, .int 0, .null, .null, .int 0, .null, .null, .null, .int 0])), (q1, .inl (cA, 6, .inl (fun _ => 0))), (q2, .inl (cA, 1040, .inl (fun _ => 0)))] H := hP
  have hD : va_D A [(h0, .inr (6, [.int 0, .int 2, .ref q1, .null, .null, .int 0, .int 0, .int 0, .int 0, .int 0, .int 0, .null, .null, .int 0, .null, .null, .null, .int 0])), (q1, .inl (cA, 6, .inl (fun _ => 0))), (q2, .inl (cA, 1040, .inl (fun _ => 0)))] := hD
  refine va_putF (D := (dC, dI)) (ci := 6) (v := .ref q2) (ty := .array .int) (C := RX6) (T := TX6) (N := 18) hx hb hts (fun w h => List.mem_cons_of_mem _ (wu_X6 w h)) tyX6 tyX6_ok nmX6 hown hK hP hD hS 0 rfl rfl 3 (by decide) (htg _ wf_X6_17) (fun _ h9 => h9) rfl hin rfl (by decide +kernel) rfl rfl (Nat.le_of_ble_eq_true rfl) dX6_init_23 (fun H locs hP hD hS => ?_)
  have hP : va_P (dC, dI) vwCl [(h0, .inr (6, [.int 0, .int 2, .ref q1, .ref q2, .null, .int 0, .int 0, .int 0, .int 0, .int 0, .int 0, .null, .null, .int 0, .null, .null, .null, .int 0])), (q1, .inl (cA, 6, .inl (fun _ => 0))), (q2, .inl (cA, 1040, .inl (fun _ => 0)))] H := hP
  have hD : va_D A [(h0, .inr (6, [.int 0, .int 2, .ref q1, .ref q2, .null, .int 0, .int 0, .int 0, .int 0, .int 0, .int 0, .null, .null, .int 0, .null, .null, .null, .int 0])), (q1, .inl (cA, 6, .inl (fun _ => 0))), (q2, .inl (cA, 1040, .inl (fun _ => 0)))] := hD
  refine lv_aload_n hx hb dX6_init_26 rfl (lv_at hl 0 rfl) ?_
  refine lv_sipush (v := 190) hx hb dX6_init_27 (by decide) ?_
  refine va_newa (atype := .int) (ty := .int) (N' := 190) (a0 := (190, .inl (fun _ => 0))) hx hb (htg _ w_arrayClass) rfl hK hP hD hS hA (fun cA => rfl) (by decide) (by decide) (by decide) (Nat.le_of_ble_eq_true rfl) (Nat.le_of_ble_eq_true rfl) dX6_init_30 (fun q3 cB H hK hP hD hS => ?_)
  obtain rfl : cB = cA := ra_same hK
  have hK : va_K (dC, dI) vwCl [(cB, .int)] s := hK.sub (tys' := [(cB, .int)]) [0] rfl
  obtain ⟨cA, hcA⟩ : ∃ z, z = cB := ⟨_, rfl⟩
  subst hcA
  have hP : va_P (dC, dI) vwCl [(h0, .inr (6, [.int 0, .int 2, .ref q1, .ref q2, .null, .int 0, .int 0, .int 0, .int 0, .int 0, .int 0, .null, .null, .int 0, .null, .null, .null, .int 0])), (q1, .inl (cA, 6, .inl (fun _ => 0))), (q2, .inl (cA, 1040, .inl (fun _ => 0))), (q3, .inl (cA, 190, .inl (fun _ => 0)))] H := hP
  have hD : va_D A [(h0, .inr (6, [.int 0, .int 2, .ref q1, .ref q2, .null, .int 0, .int 0, .int 0, .int 0, .int 0, .int 0, .null, .null, .int 0, .null, .null, .null, .int 0])), (q1, .inl (cA, 6, .inl (fun _ => 0))), (q2, .inl (cA, 1040, .inl (fun _ => 0))), (q3, .inl (cA, 190, .inl (fun _ => 0)))] := hD
  refine va_putF (D := (dC, dI)) (ci := 6) (v := .ref q3) (ty := .array .int) (C := RX6) (T := TX6) (N := 18) hx hb hts (fun w h => List.mem_cons_of_mem _ (wu_X6 w h)) tyX6 tyX6_ok nmX6 hown hK hP hD hS 0 rfl rfl 4 (by decide) (htg _ wf_X6_20) (fun _ h9 => h9) rfl hin rfl (by decide +kernel) rfl rfl (Nat.le_of_ble_eq_true rfl) dX6_init_32 (fun H locs hP hD hS => ?_)
  have hP : va_P (dC, dI) vwCl [(h0, .inr (6, [.int 0, .int 2, .ref q1, .ref q2, .ref q3, .int 0, .int 0, .int 0, .int 0, .int 0, .int 0, .null, .null, .int 0, .null, .null, .null, .int 0])), (q1, .inl (cA, 6, .inl (fun _ => 0))), (q2, .inl (cA, 1040, .inl (fun _ => 0))), (q3, .inl (cA, 190, .inl (fun _ => 0)))] H := hP
  have hD : va_D A [(h0, .inr (6, [.int 0, .int 2, .ref q1, .ref q2, .ref q3, .int 0, .int 0, .int 0, .int 0, .int 0, .int 0, .null, .null, .int 0, .null, .null, .null, .int 0])), (q1, .inl (cA, 6, .inl (fun _ => 0))), (q2, .inl (cA, 1040, .inl (fun _ => 0))), (q3, .inl (cA, 190, .inl (fun _ => 0)))] := hD
  refine lv_aload_n hx hb dX6_init_35 rfl (lv_at hl 0 rfl) ?_
  refine lv_iconst (v := 1) hx hb dX6_init_36 (by decide) ?_
  refine va_put (D := (dC, dI)) (ci := 6) (v := .int 1) (ty := .boolean) (C := RX6) (T := TX6) (N := 18) hx hb hts (fun w h => List.mem_cons_of_mem _ (wu_X6 w h)) tyX6 tyX6_ok nmX6 hown hK hP hD hS 0 rfl rfl 6 (by decide) (htg _ wf_X6_23) (fun _ h9 => h9) rfl (by decide +kernel) rfl rfl (Nat.le_of_ble_eq_true rfl) dX6_init_37 (fun H locs hP hD hS => ?_)
  have hP : va_P (dC, dI) vwCl [(h0, .inr (6, [.int 0, .int 2, .ref q1, .ref q2, .ref q3, .int 0, .int 1, .int 0, .int 0, .int 0, .int 0, .null, .null, .int 0, .null, .null, .null, .int 0])), (q1, .inl (cA, 6, .inl (fun _ => 0))), (q2, .inl (cA, 1040, .inl (fun _ => 0))), (q3, .inl (cA, 190, .inl (fun _ => 0)))] H := hP
  have hD : va_D A [(h0, .inr (6, [.int 0, .int 2, .ref q1, .ref q2, .ref q3, .int 0, .int 1, .int 0, .int 0, .int 0, .int 0, .null, .null, .int 0, .null, .null, .null, .int 0])), (q1, .inl (cA, 6, .inl (fun _ => 0))), (q2, .inl (cA, 1040, .inl (fun _ => 0))), (q3, .inl (cA, 190, .inl (fun _ => 0)))] := hD
  refine lv_aload_n hx hb dX6_init_40 rfl (lv_at hl 0 rfl) ?_
  refine lv_ldc (v := 36900) hx hb hown (htg _ wk_X6_27) dX6_init_41 ?_
  refine va_newa (atype := .int) (ty := .int) (N' := 36900) (a0 := (36900, .inl (fun _ => 0))) hx hb (htg _ w_arrayClass) rfl hK hP hD hS hA (fun cA => rfl) (by decide) (by decide) (by decide) (Nat.le_of_ble_eq_true rfl) (Nat.le_of_ble_eq_true rfl) dX6_init_43 (fun q4 cB H hK hP hD hS => ?_)
  obtain rfl : cB = cA := ra_same hK
  have hK : va_K (dC, dI) vwCl [(cB, .int)] s := hK.sub (tys' := [(cB, .int)]) [0] rfl
  obtain ⟨cA, hcA⟩ : ∃ z, z = cB := ⟨_, rfl⟩
  subst hcA
  have hP : va_P (dC, dI) vwCl [(h0, .inr (6, [.int 0, .int 2, .ref q1, .ref q2, .ref q3, .int 0, .int 1, .int 0, .int 0, .int 0, .int 0, .null, .null, .int 0, .null, .null, .null, .int 0])), (q1, .inl (cA, 6, .inl (fun _ => 0))), (q2, .inl (cA, 1040, .inl (fun _ => 0))), (q3, .inl (cA, 190, .inl (fun _ => 0))), (q4, .inl (cA, 36900, .inl (fun _ => 0)))] H := hP
  have hD : va_D A [(h0, .inr (6, [.int 0, .int 2, .ref q1, .ref q2, .ref q3, .int 0, .int 1, .int 0, .int 0, .int 0, .int 0, .null, .null, .int 0, .null, .null, .null, .int 0])), (q1, .inl (cA, 6, .inl (fun _ => 0))), (q2, .inl (cA, 1040, .inl (fun _ => 0))), (q3, .inl (cA, 190, .inl (fun _ => 0))), (q4, .inl (cA, 36900, .inl (fun _ => 0)))] := hD
  refine va_putF (D := (dC, dI)) (ci := 6) (v := .ref q4) (ty := .array .int) (C := RX6) (T := TX6) (N := 18) hx hb hts (fun w h => List.mem_cons_of_mem _ (wu_X6 w h)) tyX6 tyX6_ok nmX6 hown hK hP hD hS 0 rfl rfl 11 (by decide) (htg _ wf_X6_28) (fun _ h9 => h9) rfl hin rfl (by decide +kernel) rfl rfl (Nat.le_of_ble_eq_true rfl) dX6_init_45 (fun H locs hP hD hS => ?_)
  have hP : va_P (dC, dI) vwCl [(h0, .inr (6, [.int 0, .int 2, .ref q1, .ref q2, .ref q3, .int 0, .int 1, .int 0, .int 0, .int 0, .int 0, .ref q4, .null, .int 0, .null, .null, .null, .int 0])), (q1, .inl (cA, 6, .inl (fun _ => 0))), (q2, .inl (cA, 1040, .inl (fun _ => 0))), (q3, .inl (cA, 190, .inl (fun _ => 0))), (q4, .inl (cA, 36900, .inl (fun _ => 0)))] H := hP
  have hD : va_D A [(h0, .inr (6, [.int 0, .int 2, .ref q1, .ref q2, .ref q3, .int 0, .int 1, .int 0, .int 0, .int 0, .int 0, .ref q4, .null, .int 0, .null, .null, .null, .int 0])), (q1, .inl (cA, 6, .inl (fun _ => 0))), (q2, .inl (cA, 1040, .inl (fun _ => 0))), (q3, .inl (cA, 190, .inl (fun _ => 0))), (q4, .inl (cA, 36900, .inl (fun _ => 0)))] := hD
  refine lv_aload_n hx hb dX6_init_48 rfl (lv_at hl 0 rfl) ?_
  refine lv_sipush (v := 1230) hx hb dX6_init_49 (by decide) ?_
  refine va_newa (atype := .int) (ty := .int) (N' := 1230) (a0 := (1230, .inl (fun _ => 0))) hx hb (htg _ w_arrayClass) rfl hK hP hD hS hA (fun cA => rfl) (by decide) (by decide) (by decide) (Nat.le_of_ble_eq_true rfl) (Nat.le_of_ble_eq_true rfl) dX6_init_52 (fun q5 cB H hK hP hD hS => ?_)
  obtain rfl : cB = cA := ra_same hK
  have hK : va_K (dC, dI) vwCl [(cB, .int)] s := hK.sub (tys' := [(cB, .int)]) [0] rfl
  obtain ⟨cA, hcA⟩ : ∃ z, z = cB := ⟨_, rfl⟩
  subst hcA
  have hP : va_P (dC, dI) vwCl [(h0, .inr (6, [.int 0, .int 2, .ref q1, .ref q2, .ref q3, .int 0, .int 1, .int 0, .int 0, .int 0, .int 0, .ref q4, .null, .int 0, .null, .null, .null, .int 0])), (q1, .inl (cA, 6, .inl (fun _ => 0))), (q2, .inl (cA, 1040, .inl (fun _ => 0))), (q3, .inl (cA, 190, .inl (fun _ => 0))), (q4, .inl (cA, 36900, .inl (fun _ => 0))), (q5, .inl (cA, 1230, .inl (fun _ => 0)))] H := hP
  have hD : va_D A [(h0, .inr (6, [.int 0, .int 2, .ref q1, .ref q2, .ref q3, .int 0, .int 1, .int 0, .int 0, .int 0, .int 0, .ref q4, .null, .int 0, .null, .null, .null, .int 0])), (q1, .inl (cA, 6, .inl (fun _ => 0))), (q2, .inl (cA, 1040, .inl (fun _ => 0))), (q3, .inl (cA, 190, .inl (fun _ => 0))), (q4, .inl (cA, 36900, .inl (fun _ => 0))), (q5, .inl (cA, 1230, .inl (fun _ => 0)))] := hD
  refine va_putF (D := (dC, dI)) (ci := 6) (v := .ref q5) (ty := .array .int) (C := RX6) (T := TX6) (N := 18) hx hb hts (fun w h => List.mem_cons_of_mem _ (wu_X6 w h)) tyX6 tyX6_ok nmX6 hown hK hP hD hS 0 rfl rfl 12 (by decide) (htg _ wf_X6_31) (fun _ h9 => h9) rfl hin rfl (by decide +kernel) rfl rfl (Nat.le_of_ble_eq_true rfl) dX6_init_54 (fun H locs hP hD hS => ?_)
  have hP : va_P (dC, dI) vwCl [(h0, .inr (6, [.int 0, .int 2, .ref q1, .ref q2, .ref q3, .int 0, .int 1, .int 0, .int 0, .int 0, .int 0, .ref q4, .ref q5, .int 0, .null, .null, .null, .int 0])), (q1, .inl (cA, 6, .inl (fun _ => 0))), (q2, .inl (cA, 1040, .inl (fun _ => 0))), (q3, .inl (cA, 190, .inl (fun _ => 0))), (q4, .inl (cA, 36900, .inl (fun _ => 0))), (q5, .inl (cA, 1230, .inl (fun _ => 0)))] H := hP
  have hD : va_D A [(h0, .inr (6, [.int 0, .int 2, .ref q1, .ref q2, .ref q3, .int 0, .int 1, .int 0, .int 0, .int 0, .int 0, .ref q4, .ref q5, .int 0, .null, .null, .null, .int 0])), (q1, .inl (cA, 6, .inl (fun _ => 0))), (q2, .inl (cA, 1040, .inl (fun _ => 0))), (q3, .inl (cA, 190, .inl (fun _ => 0))), (q4, .inl (cA, 36900, .inl (fun _ => 0))), (q5, .inl (cA, 1230, .inl (fun _ => 0)))] := hD
  refine lv_aload_n hx hb dX6_init_57 rfl (lv_at hl 0 rfl) ?_
  refine lv_ldc (v := 312000) hx hb hown (htg _ wk_X6_34) dX6_init_58 ?_
  refine va_newa (atype := .int) (ty := .int) (N' := 312000) (a0 := (312000, .inl (fun _ => 0))) hx hb (htg _ w_arrayClass) rfl hK hP hD hS hA (fun cA => rfl) (by decide) (by decide) (by decide) (Nat.le_of_ble_eq_true rfl) (Nat.le_of_ble_eq_true rfl) dX6_init_60 (fun q6 cB H hK hP hD hS => ?_)
  obtain rfl : cB = cA := ra_same hK
  have hK : va_K (dC, dI) vwCl [(cB, .int)] s := hK.sub (tys' := [(cB, .int)]) [0] rfl
  obtain ⟨cA, hcA⟩ : ∃ z, z = cB := ⟨_, rfl⟩
  subst hcA
  have hP : va_P (dC, dI) vwCl [(h0, .inr (6, [.int 0, .int 2, .ref q1, .ref q2, .ref q3, .int 0, .int 1, .int 0, .int 0, .int 0, .int 0, .ref q4, .ref q5, .int 0, .null, .null, .null, .int 0])), (q1, .inl (cA, 6, .inl (fun _ => 0))), (q2, .inl (cA, 1040, .inl (fun _ => 0))), (q3, .inl (cA, 190, .inl (fun _ => 0))), (q4, .inl (cA, 36900, .inl (fun _ => 0))), (q5, .inl (cA, 1230, .inl (fun _ => 0))), (q6, .inl (cA, 312000, .inl (fun _ => 0)))] H := hP
  have hD : va_D A [(h0, .inr (6, [.int 0, .int 2, .ref q1, .ref q2, .ref q3, .int 0, .int 1, .int 0, .int 0, .int 0, .int 0, .ref q4, .ref q5, .int 0, .null, .null, .null, .int 0])), (q1, .inl (cA, 6, .inl (fun _ => 0))), (q2, .inl (cA, 1040, .inl (fun _ => 0))), (q3, .inl (cA, 190, .inl (fun _ => 0))), (q4, .inl (cA, 36900, .inl (fun _ => 0))), (q5, .inl (cA, 1230, .inl (fun _ => 0))), (q6, .inl (cA, 312000, .inl (fun _ => 0)))] := hD
  refine va_putF (D := (dC, dI)) (ci := 6) (v := .ref q6) (ty := .array .int) (C := RX6) (T := TX6) (N := 18) hx hb hts (fun w h => List.mem_cons_of_mem _ (wu_X6 w h)) tyX6 tyX6_ok nmX6 hown hK hP hD hS 0 rfl rfl 14 (by decide) (htg _ wf_X6_35) (fun _ h9 => h9) rfl hin rfl (by decide +kernel) rfl rfl (Nat.le_of_ble_eq_true rfl) dX6_init_62 (fun H locs hP hD hS => ?_)
  have hP : va_P (dC, dI) vwCl [(h0, .inr (6, [.int 0, .int 2, .ref q1, .ref q2, .ref q3, .int 0, .int 1, .int 0, .int 0, .int 0, .int 0, .ref q4, .ref q5, .int 0, .ref q6, .null, .null, .int 0])), (q1, .inl (cA, 6, .inl (fun _ => 0))), (q2, .inl (cA, 1040, .inl (fun _ => 0))), (q3, .inl (cA, 190, .inl (fun _ => 0))), (q4, .inl (cA, 36900, .inl (fun _ => 0))), (q5, .inl (cA, 1230, .inl (fun _ => 0))), (q6, .inl (cA, 312000, .inl (fun _ => 0)))] H := hP
  have hD : va_D A [(h0, .inr (6, [.int 0, .int 2, .ref q1, .ref q2, .ref q3, .int 0, .int 1, .int 0, .int 0, .int 0, .int 0, .ref q4, .ref q5, .int 0, .ref q6, .null, .null, .int 0])), (q1, .inl (cA, 6, .inl (fun _ => 0))), (q2, .inl (cA, 1040, .inl (fun _ => 0))), (q3, .inl (cA, 190, .inl (fun _ => 0))), (q4, .inl (cA, 36900, .inl (fun _ => 0))), (q5, .inl (cA, 1230, .inl (fun _ => 0))), (q6, .inl (cA, 312000, .inl (fun _ => 0)))] := hD
  refine lv_aload_n hx hb dX6_init_65 rfl (lv_at hl 0 rfl) ?_
  refine lv_sipush (v := 1024) hx hb dX6_init_66 (by decide) ?_
  refine va_newa (atype := .int) (ty := .int) (N' := 1024) (a0 := (1024, .inl (fun _ => 0))) hx hb (htg _ w_arrayClass) rfl hK hP hD hS hA (fun cA => rfl) (by decide) (by decide) (by decide) (Nat.le_of_ble_eq_true rfl) (Nat.le_of_ble_eq_true rfl) dX6_init_69 (fun q7 cB H hK hP hD hS => ?_)
  obtain rfl : cB = cA := ra_same hK
  have hK : va_K (dC, dI) vwCl [(cB, .int)] s := hK.sub (tys' := [(cB, .int)]) [0] rfl
  obtain ⟨cA, hcA⟩ : ∃ z, z = cB := ⟨_, rfl⟩
  subst hcA
  have hP : va_P (dC, dI) vwCl [(h0, .inr (6, [.int 0, .int 2, .ref q1, .ref q2, .ref q3, .int 0, .int 1, .int 0, .int 0, .int 0, .int 0, .ref q4, .ref q5, .int 0, .ref q6, .null, .null, .int 0])), (q1, .inl (cA, 6, .inl (fun _ => 0))), (q2, .inl (cA, 1040, .inl (fun _ => 0))), (q3, .inl (cA, 190, .inl (fun _ => 0))), (q4, .inl (cA, 36900, .inl (fun _ => 0))), (q5, .inl (cA, 1230, .inl (fun _ => 0))), (q6, .inl (cA, 312000, .inl (fun _ => 0))), (q7, .inl (cA, 1024, .inl (fun _ => 0)))] H := hP
  have hD : va_D A [(h0, .inr (6, [.int 0, .int 2, .ref q1, .ref q2, .ref q3, .int 0, .int 1, .int 0, .int 0, .int 0, .int 0, .ref q4, .ref q5, .int 0, .ref q6, .null, .null, .int 0])), (q1, .inl (cA, 6, .inl (fun _ => 0))), (q2, .inl (cA, 1040, .inl (fun _ => 0))), (q3, .inl (cA, 190, .inl (fun _ => 0))), (q4, .inl (cA, 36900, .inl (fun _ => 0))), (q5, .inl (cA, 1230, .inl (fun _ => 0))), (q6, .inl (cA, 312000, .inl (fun _ => 0))), (q7, .inl (cA, 1024, .inl (fun _ => 0)))] := hD
  refine va_putF (D := (dC, dI)) (ci := 6) (v := .ref q7) (ty := .array .int) (C := RX6) (T := TX6) (N := 18) hx hb hts (fun w h => List.mem_cons_of_mem _ (wu_X6 w h)) tyX6 tyX6_ok nmX6 hown hK hP hD hS 0 rfl rfl 15 (by decide) (htg _ wf_X6_38) (fun _ h9 => h9) rfl hin rfl (by decide +kernel) rfl rfl (Nat.le_of_ble_eq_true rfl) dX6_init_71 (fun H locs hP hD hS => ?_)
  have hP : va_P (dC, dI) vwCl [(h0, .inr (6, [.int 0, .int 2, .ref q1, .ref q2, .ref q3, .int 0, .int 1, .int 0, .int 0, .int 0, .int 0, .ref q4, .ref q5, .int 0, .ref q6, .ref q7, .null, .int 0])), (q1, .inl (cA, 6, .inl (fun _ => 0))), (q2, .inl (cA, 1040, .inl (fun _ => 0))), (q3, .inl (cA, 190, .inl (fun _ => 0))), (q4, .inl (cA, 36900, .inl (fun _ => 0))), (q5, .inl (cA, 1230, .inl (fun _ => 0))), (q6, .inl (cA, 312000, .inl (fun _ => 0))), (q7, .inl (cA, 1024, .inl (fun _ => 0)))] H := hP
  have hD : va_D A [(h0, .inr (6, [.int 0, .int 2, .ref q1, .ref q2, .ref q3, .int 0, .int 1, .int 0, .int 0, .int 0, .int 0, .ref q4, .ref q5, .int 0, .ref q6, .ref q7, .null, .int 0])), (q1, .inl (cA, 6, .inl (fun _ => 0))), (q2, .inl (cA, 1040, .inl (fun _ => 0))), (q3, .inl (cA, 190, .inl (fun _ => 0))), (q4, .inl (cA, 36900, .inl (fun _ => 0))), (q5, .inl (cA, 1230, .inl (fun _ => 0))), (q6, .inl (cA, 312000, .inl (fun _ => 0))), (q7, .inl (cA, 1024, .inl (fun _ => 0)))] := hD
  refine lv_aload_n hx hb dX6_init_74 rfl (lv_at hl 0 rfl) ?_
  refine lv_bipush (v := 7) hx hb dX6_init_75 (by decide) ?_
  refine va_newa (atype := .int) (ty := .int) (N' := 7) (a0 := (7, .inl (fun _ => 0))) hx hb (htg _ w_arrayClass) rfl hK hP hD hS hA (fun cA => rfl) (by decide) (by decide) (by decide) (Nat.le_of_ble_eq_true rfl) (Nat.le_of_ble_eq_true rfl) dX6_init_77 (fun q8 cB H hK hP hD hS => ?_)
  obtain rfl : cB = cA := ra_same hK
  have hK : va_K (dC, dI) vwCl [(cB, .int)] s := hK.sub (tys' := [(cB, .int)]) [0] rfl
  obtain ⟨cA, hcA⟩ : ∃ z, z = cB := ⟨_, rfl⟩
  subst hcA
  have hP : va_P (dC, dI) vwCl [(h0, .inr (6, [.int 0, .int 2, .ref q1, .ref q2, .ref q3, .int 0, .int 1, .int 0, .int 0, .int 0, .int 0, .ref q4, .ref q5, .int 0, .ref q6, .ref q7, .null, .int 0])), (q1, .inl (cA, 6, .inl (fun _ => 0))), (q2, .inl (cA, 1040, .inl (fun _ => 0))), (q3, .inl (cA, 190, .inl (fun _ => 0))), (q4, .inl (cA, 36900, .inl (fun _ => 0))), (q5, .inl (cA, 1230, .inl (fun _ => 0))), (q6, .inl (cA, 312000, .inl (fun _ => 0))), (q7, .inl (cA, 1024, .inl (fun _ => 0))), (q8, .inl (cA, 7, .inl (fun _ => 0)))] H := hP
  have hD : va_D A [(h0, .inr (6, [.int 0, .int 2, .ref q1, .ref q2, .ref q3, .int 0, .int 1, .int 0, .int 0, .int 0, .int 0, .ref q4, .ref q5, .int 0, .ref q6, .ref q7, .null, .int 0])), (q1, .inl (cA, 6, .inl (fun _ => 0))), (q2, .inl (cA, 1040, .inl (fun _ => 0))), (q3, .inl (cA, 190, .inl (fun _ => 0))), (q4, .inl (cA, 36900, .inl (fun _ => 0))), (q5, .inl (cA, 1230, .inl (fun _ => 0))), (q6, .inl (cA, 312000, .inl (fun _ => 0))), (q7, .inl (cA, 1024, .inl (fun _ => 0))), (q8, .inl (cA, 7, .inl (fun _ => 0)))] := hD
  refine va_putF (D := (dC, dI)) (ci := 6) (v := .ref q8) (ty := .array .int) (C := RX6) (T := TX6) (N := 18) hx hb hts (fun w h => List.mem_cons_of_mem _ (wu_X6 w h)) tyX6 tyX6_ok nmX6 hown hK hP hD hS 0 rfl rfl 16 (by decide) (htg _ wf_X6_41) (fun _ h9 => h9) rfl hin rfl (by decide +kernel) rfl rfl (Nat.le_of_ble_eq_true rfl) dX6_init_79 (fun H locs hP hD hS => ?_)
  have hP : va_P (dC, dI) vwCl [(h0, .inr (6, [.int 0, .int 2, .ref q1, .ref q2, .ref q3, .int 0, .int 1, .int 0, .int 0, .int 0, .int 0, .ref q4, .ref q5, .int 0, .ref q6, .ref q7, .ref q8, .int 0])), (q1, .inl (cA, 6, .inl (fun _ => 0))), (q2, .inl (cA, 1040, .inl (fun _ => 0))), (q3, .inl (cA, 190, .inl (fun _ => 0))), (q4, .inl (cA, 36900, .inl (fun _ => 0))), (q5, .inl (cA, 1230, .inl (fun _ => 0))), (q6, .inl (cA, 312000, .inl (fun _ => 0))), (q7, .inl (cA, 1024, .inl (fun _ => 0))), (q8, .inl (cA, 7, .inl (fun _ => 0)))] H := hP
  have hD : va_D A [(h0, .inr (6, [.int 0, .int 2, .ref q1, .ref q2, .ref q3, .int 0, .int 1, .int 0, .int 0, .int 0, .int 0, .ref q4, .ref q5, .int 0, .ref q6, .ref q7, .ref q8, .int 0])), (q1, .inl (cA, 6, .inl (fun _ => 0))), (q2, .inl (cA, 1040, .inl (fun _ => 0))), (q3, .inl (cA, 190, .inl (fun _ => 0))), (q4, .inl (cA, 36900, .inl (fun _ => 0))), (q5, .inl (cA, 1230, .inl (fun _ => 0))), (q6, .inl (cA, 312000, .inl (fun _ => 0))), (q7, .inl (cA, 1024, .inl (fun _ => 0))), (q8, .inl (cA, 7, .inl (fun _ => 0)))] := hD
  refine lv_aload_n hx hb dX6_init_82 rfl (lv_at hl 0 rfl) ?_
  have hP : va_P (dC, dI) vwCl (WM (ad9 h0 q1 q2 q3 q4 q5 q6 q7 q8) cA vM0) H := hP
  have hD : va_D A (WM (ad9 h0 q1 q2 q3 q4 q5 q6 q7 q8) cA vM0) := hD
  obtain ⟨hap, hAA⟩ := AP_of (ad := ad9 h0 q1 q2 q3 q4 q5 q6 q7 q8) (n := 9) hD (fun k hk => by
    rcases (show k = 0 ∨ k = 1 ∨ k = 2 ∨ k = 3 ∨ k = 4 ∨ k = 5 ∨ k = 6 ∨ k = 7 ∨ k = 8 by omega) with rfl | rfl | rfl | rfl | rfl | rfl | rfl | rfl | rfl <;> exact ⟨_, rfl⟩)
  refine x_vvG (Wf := WM (ad9 h0 q1 q2 q3 q4 q5 q6 q7 q8) cA) (A := AF (ad9 h0 q1 q2 q3 q4 q5 q6 q7 q8) 9) (ci := 6) (q0 := 0) (b := h0) (As := []) (rest := []) ⟨hx, hb, hml, hown, hts⟩ hK hP hS hAA (k_X6_clear hap hv2) rfl rfl wl_X6_44 wi_X6_clear ws_X6_clear wz_X6 wc_X6_clear (by decide +kernel) ⟨Nat.le_of_ble_eq_true rfl, Nat.le_of_ble_eq_true rfl⟩ hl.1 rfl (Nat.zero_le _) dX6_init_83 ⟨Nat.le_of_ble_eq_true rfl, Nat.le_of_ble_eq_true rfl⟩ (fun H1 locs1 hP hS => ?_)
  have hD2 : va_D A (WM (ad9 h0 q1 q2 q3 q4 q5 q6 q7 q8) cA v2) := va_D_of hap hAA v2
  exact W.vret hx hb hr (fun t ht hW => ⟨⟨(ad9 h0 q1 q2 q3 q4 q5 q6 q7 q8, cA), rfl, trivial, rfl, hap, by rw [ht]; exact hP, va_K.moved hW.alike hK, hD2⟩, hS.F ht⟩) hS.2.2 dX6_init_86
