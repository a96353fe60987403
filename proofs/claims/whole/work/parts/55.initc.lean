-- the class's constructor
def vC0 : Wo := fun c => match c with
  | 3 => fun k => match k with
    | 2 => 1
    | _ => 0
  | _ => fun _ => 0
def ad14 (q0 q1 q2 q3 q4 q5 q6 q7 q8 q9 q10 q11 q12 q13 : Nat) : Nat → Nat := fun k => match k with
  | 0 => q0
  | 1 => q1
  | 2 => q2
  | 3 => q3
  | 4 => q4
  | 5 => q5
  | 6 => q6
  | 7 => q7
  | 8 => q8
  | 9 => q9
  | 10 => q10
  | 11 => q11
  | 12 => q12
  | _ => q13
theorem k_X5_init (l : Launch) (dC : Nat → ClassId) (dI : Nat → Nat → Nat) (h0 sz : Nat) (v2 : Wo) (hv2 : fX3_startAnew (0 : Int32) (2 : Int32) vC0 = some (0, v2)) : Met l yX5_init (Cond.code yX5_init cX5_init 1 none :: TG) ({ frames := 3, cells := 13, slots := 204417, locals := 68 }) (va_Pc [.ref h0] (PN dC dI 5 [.null, .null, .null, .null, .null, .int 0, .int 0, .int 0] h0 sz)) (va_Qv (fun _ : (Nat → Nat) × ClassId => True) (fun x t => x.1 0 = h0 ∧ AP x.1 14 ∧ va_P (dC, dI) vwCl (WC x.1 x.2 v2) t.heap ∧ va_K (dC, dI) vwCl [(x.2, .int)] t ∧ va_D (va_A [(h0, .inr (5, [.null, .null, .null, .null, .null, .int 0, .int 0, .int 0]))] sz) (WC x.1 x.2 v2)) (va_A [(h0, .inr (5, [.null, .null, .null, .null, .null, .int 0, .int 0, .int 0]))] sz)) 13 204417 (va_A [(h0, .inr (5, [.null, .null, .null, .null, .null, .int 0, .int 0, .int 0]))] sz) := by
  refine Met.ofW (cc := cX5_init) (maxL := 1) (ret := none) (by decide) rfl ?_
  intro p e s m args below meth c s₁ B hml hv
  obtain ⟨rfl, hsz, hP, hK, hD0⟩ := hv
  have hx := B.exec
  have hb := B.bytes
  have hr := B.returns
  have hts := atoms_spec (ws := Cond.code yX5_init cX5_init 1 none :: TG) B.pre
  have htg : ∀ w ∈ TG, w.before ([.ref h0] : List Value).toArray s = true := fun w h => hts w (List.mem_cons_of_mem _ h)
  have hown : s.vm.findClass RX5 = some m.cls := findClass_of_methodNamed B.named
  have hlocks := B.notSynchronized
  have hin : meth.name = "<init>" := (name_of_methodNamed B.named B.method).1
  subst hsz
  have hD := hD0.self (sz := s.heap.size)
  generalize hAe : va_A [(h0, .inr (5, [.null, .null, .null, .null, .null, .int 0, .int 0, .int 0]))] s.heap.size = A at hD ⊢
  have hA : ∀ q : Nat, s.heap.size ≤ q → A q := fun q h => by rw [← hAe]; exact Or.inr h
  have hS : va_S A s.heap s.heap [] := va_S.rf
  have hP : va_P (dC, dI) vwCl [(h0, .inr (5, [.null, .null, .null, .null, .null, .int 0, .int 0, .int 0]))] s.heap := hP
  have hl := lv_entry ([.ref h0]) (n := 1) (Nat.le_of_ble_eq_true rfl)
  rw [lg_entry_eq]
  generalize (lg_sl ([.ref h0]) ++ List.replicate (1 - (lg_sl ([.ref h0])).length) Slot.unset).toArray = ls at hl ⊢
  have hl : lv_has ls 1 [(0, .ref h0)] := hl
  refine lv_aload_n hx hb dX5_init_0 rfl (lv_at hl 0 rfl) ?_
  refine W.objInit hx hb hown (htg _ wl_X5_1) (htg _ wi_objectInit) (htg _ wc_objectInit) rfl (by rw [hml]; exact hl.1) rfl dX5_init_1 (Nat.le_of_ble_eq_true rfl) (Nat.le_of_ble_eq_true rfl) ?_
  refine W.eq (g2 := F0 m 4 ls []) rfl ?_
  refine lv_aload_n hx hb dX5_init_4 rfl (lv_at hl 0 rfl) ?_
  refine va_new (ci := 3) (fs := [.null, .int 0, .int 0, .int 0]) (C := RX3) (T := TX3) (N := 4) hx hb hts (fun w h => List.mem_cons_of_mem _ (wu_X3 w h)) tyX3 tyX3_ok hown (htg _ wg_X5_7) (htg _ wa_X3) (htg _ wz_X3) hK hP hD hS hA rfl (fun j hj => by rcases (show j = 0 ∨ j = 1 ∨ j = 2 ∨ j = 3 by omega) with rfl | rfl | rfl | rfl <;> rfl) (Nat.le_of_ble_eq_true rfl) (Nat.le_of_ble_eq_true rfl) dX5_init_5 (fun qS H hP hD hS => ?_)
  have hP : va_P (dC, dI) vwCl [(h0, .inr (5, [.null, .null, .null, .null, .null, .int 0, .int 0, .int 0])), (qS, .inr (3, [.null, .int 0, .int 0, .int 0]))] H := hP
  have hD : va_D A [(h0, .inr (5, [.null, .null, .null, .null, .null, .int 0, .int 0, .int 0])), (qS, .inr (3, [.null, .int 0, .int 0, .int 0]))] := hD
  refine lv_dup hx hb dX5_init_8 rfl ?_
  have hPc := hP.sub (ws' := [(qS, .inr (3, [.null, .int 0, .int 0, .int 0]))]) [1] rfl
  have hDc := hD.sub (ws' := [(qS, .inr (3, [.null, .int 0, .int 0, .int 0]))]) [1] (by decide) rfl
  have hKc := hK.sub (tys' := []) [] rfl
  have hFc := va_free (wc := [(qS, .inr (3, [.null, .int 0, .int 0, .int 0]))]) hD hS hA [1] rfl
  refine va_callv (va_runI (As := []) (rest := [.ref qS, .ref h0]) ⟨hx, hb, hml, hown, hts⟩ (k_X3_init l dC dI qS H.size) (cwI 0 hts (tg_cc wc_X3_init) rfl rfl rfl (htg _ wz_X3) (htg _ wl_X5_9) (htg _ wi_X3_init) rfl (by decide +kernel) ⟨Nat.le_of_ble_eq_true rfl, Nat.le_of_ble_eq_true rfl⟩) ⟨fun a U g mk q => by obtain ⟨q0, q1, qP, qK, qD⟩ := q; exact ⟨q0, q1, qP, va_K.moved (u := U) (U := U.calling g mk a) (Vm.Alike.refl U.vm) qK, qD⟩, fun U hU hW => ⟨rfl, by rw [hU], by rw [hU]; exact hPc, va_K.moved hW.alike hKc, hDc.weaken (fun _ _ _ _ => trivial)⟩⟩ rfl rfl hl.1 rfl (lv_room (Nat.le_of_ble_eq_true rfl)) dX5_init_9 ⟨Nat.le_of_ble_eq_true rfl, Nat.le_of_ble_eq_true rfl⟩) hS (fun q _ h => hFc q h) hFc (fun cB t H1 locs ht hvm _ hB hz1 hk1 hS => ?_)
  obtain ⟨qS1, hP1, hK1, hD1⟩ := hB
  rw [ht] at hP1
  have hK1 := va_K.moved hvm.symm hK1
  obtain ⟨hP, hD⟩ := va_join (wr := [(h0, .inr (5, [.null, .null, .null, .null, .null, .int 0, .int 0, .int 0]))]) (w1 := [(qS, .inr (3, [.ref qS1, .int 0, .int 0, .int 0])), (qS1, .inl (cB, 618, .inl (fun _ => 0)))]) hP hD [1] [0] rfl rfl (by decide) (by decide) hk1 hFc hP1 hD1
  generalize H1 = H at hP hS ⊢
  obtain ⟨cA, hcA⟩ : ∃ z, z = cB := ⟨_, rfl⟩
  subst hcA
  have hK : va_K (dC, dI) vwCl [(cA, .int)] s := hK1
  have hP : va_P (dC, dI) vwCl [(h0, .inr (5, [.null, .null, .null, .null, .null, .int 0, .int 0, .int 0])), (qS, .inr (3, [.ref qS1, .int 0, .int 0, .int 0])), (qS1, .inl (cA, 618, .inl (fun _ => 0)))] H := hP
  have hD : va_D A [(h0, .inr (5, [.null, .null, .null, .null, .null, .int 0, .int 0, .int 0])), (qS, .inr (3, [.ref qS1, .int 0, .int 0, .int 0])), (qS1, .inl (cA, 618, .inl (fun _ => 0)))] := hD
  refine va_putF (D := (dC, dI)) (ci := 5) (v := .ref qS) (ty := .object "KeyKeepers$Stand") (C := RX5) (T := TX5) (N := 8) hx hb hts (fun w h => List.mem_cons_of_mem _ (wu_X5 w h)) tyX5 tyX5_ok nmX5 hown hK hP hD hS 0 rfl rfl 0 (by decide) (htg _ wf_X5_10) (fun _ h9 => h9) rfl hin rfl (by decide +kernel) rfl rfl (Nat.le_of_ble_eq_true rfl) dX5_init_12 (fun H locs hP hD hS => ?_)
  have hP : va_P (dC, dI) vwCl [(h0, .inr (5, [.ref qS, .null, .null, .null, .null, .int 0, .int 0, .int 0])), (qS, .inr (3, [.ref qS1, .int 0, .int 0, .int 0])), (qS1, .inl (cA, 618, .inl (fun _ => 0)))] H := hP
  have hD : va_D A [(h0, .inr (5, [.ref qS, .null, .null, .null, .null, .int 0, .int 0, .int 0])), (qS, .inr (3, [.ref qS1, .int 0, .int 0, .int 0])), (qS1, .inl (cA, 618, .inl (fun _ => 0)))] := hD
  refine lv_aload_n hx hb dX5_init_15 rfl (lv_at hl 0 rfl) ?_
  refine va_new (ci := 0) (fs := [.null]) (C := RX0) (T := TX0) (N := 1) hx hb hts (fun w h => List.mem_cons_of_mem _ (wu_X0 w h)) tyX0 tyX0_ok hown (htg _ wg_X5_16) (htg _ wa_X0) (htg _ wz_X0) hK hP hD hS hA rfl (fun j hj => by rcases (show j = 0 by omega) with rfl <;> rfl) (Nat.le_of_ble_eq_true rfl) (Nat.le_of_ble_eq_true rfl) dX5_init_16 (fun qB H hP hD hS => ?_)
  have hP : va_P (dC, dI) vwCl [(h0, .inr (5, [.ref qS, .null, .null, .null, .null, .int 0, .int 0, .int 0])), (qS, .inr (3, [.ref qS1, .int 0, .int 0, .int 0])), (qS1, .inl (cA, 618, .inl (fun _ => 0))), (qB, .inr (0, [.null]))] H := hP
  have hD : va_D A [(h0, .inr (5, [.ref qS, .null, .null, .null, .null, .int 0, .int 0, .int 0])), (qS, .inr (3, [.ref qS1, .int 0, .int 0, .int 0])), (qS1, .inl (cA, 618, .inl (fun _ => 0))), (qB, .inr (0, [.null]))] := hD
  refine lv_dup hx hb dX5_init_19 rfl ?_
  have hPc := hP.sub (ws' := [(qB, .inr (0, [.null]))]) [3] rfl
  have hDc := hD.sub (ws' := [(qB, .inr (0, [.null]))]) [3] (by decide) rfl
  have hKc := hK.sub (tys' := []) [] rfl
  have hFc := va_free (wc := [(qB, .inr (0, [.null]))]) hD hS hA [3] rfl
  refine va_callv (va_runI (As := []) (rest := [.ref qB, .ref h0]) ⟨hx, hb, hml, hown, hts⟩ (k_X0_init l dC dI qB H.size) (cwI 0 hts (tg_cc wc_X0_init) rfl rfl rfl (htg _ wz_X0) (htg _ wl_X5_18) (htg _ wi_X0_init) rfl (by decide +kernel) ⟨Nat.le_of_ble_eq_true rfl, Nat.le_of_ble_eq_true rfl⟩) ⟨fun a U g mk q => by obtain ⟨q0, q1, qP, qK, qD⟩ := q; exact ⟨q0, q1, qP, va_K.moved (u := U) (U := U.calling g mk a) (Vm.Alike.refl U.vm) qK, qD⟩, fun U hU hW => ⟨rfl, by rw [hU], by rw [hU]; exact hPc, va_K.moved hW.alike hKc, hDc.weaken (fun _ _ _ _ => trivial)⟩⟩ rfl rfl hl.1 rfl (lv_room (Nat.le_of_ble_eq_true rfl)) dX5_init_20 ⟨Nat.le_of_ble_eq_true rfl, Nat.le_of_ble_eq_true rfl⟩) hS (fun q _ h => hFc q h) hFc (fun cB t H1 locs ht hvm _ hB hz1 hk1 hS => ?_)
  obtain ⟨qB1, hP1, hK1, hD1⟩ := hB
  rw [ht] at hP1
  have hK1 := va_K.moved hvm.symm hK1
  obtain ⟨hP, hD⟩ := va_join (wr := [(h0, .inr (5, [.ref qS, .null, .null, .null, .null, .int 0, .int 0, .int 0])), (qS, .inr (3, [.ref qS1, .int 0, .int 0, .int 0])), (qS1, .inl (cA, 618, .inl (fun _ => 0)))]) (w1 := [(qB, .inr (0, [.ref qB1])), (qB1, .inl (cB, 270, .inl (fun _ => 0)))]) hP hD [3] [0, 1, 2] rfl rfl (by decide) (by decide) hk1 hFc hP1 hD1
  generalize H1 = H at hP hS ⊢
  obtain rfl : cB = cA := ra_same ((hK.sub (tys' := [(cA, .int)]) [0] rfl).app hK1)
  obtain ⟨cA, hcA⟩ : ∃ z, z = cB := ⟨_, rfl⟩
  subst hcA
  have hP : va_P (dC, dI) vwCl [(h0, .inr (5, [.ref qS, .null, .null, .null, .null, .int 0, .int 0, .int 0])), (qS, .inr (3, [.ref qS1, .int 0, .int 0, .int 0])), (qS1, .inl (cA, 618, .inl (fun _ => 0))), (qB, .inr (0, [.ref qB1])), (qB1, .inl (cA, 270, .inl (fun _ => 0)))] H := hP
  have hD : va_D A [(h0, .inr (5, [.ref qS, .null, .null, .null, .null, .int 0, .int 0, .int 0])), (qS, .inr (3, [.ref qS1, .int 0, .int 0, .int 0])), (qS1, .inl (cA, 618, .inl (fun _ => 0))), (qB, .inr (0, [.ref qB1])), (qB1, .inl (cA, 270, .inl (fun _ => 0)))] := hD
  refine va_putF (D := (dC, dI)) (ci := 5) (v := .ref qB) (ty := .object "KeyKeepers$Book") (C := RX5) (T := TX5) (N := 8) hx hb hts (fun w h => List.mem_cons_of_mem _ (wu_X5 w h)) tyX5 tyX5_ok nmX5 hown hK hP hD hS 0 rfl rfl 1 (by decide) (htg _ wf_X5_19) (fun _ h9 => h9) rfl hin rfl (by decide +kernel) rfl rfl (Nat.le_of_ble_eq_true rfl) dX5_init_23 (fun H locs hP hD hS => ?_)
  have hP : va_P (dC, dI) vwCl [(h0, .inr (5, [.ref qS, .ref qB, .null, .null, .null, .int 0, .int 0, .int 0])), (qS, .inr (3, [.ref qS1, .int 0, .int 0, .int 0])), (qS1, .inl (cA, 618, .inl (fun _ => 0))), (qB, .inr (0, [.ref qB1])), (qB1, .inl (cA, 270, .inl (fun _ => 0)))] H := hP
  have hD : va_D A [(h0, .inr (5, [.ref qS, .ref qB, .null, .null, .null, .int 0, .int 0, .int 0])), (qS, .inr (3, [.ref qS1, .int 0, .int 0, .int 0])), (qS1, .inl (cA, 618, .inl (fun _ => 0))), (qB, .inr (0, [.ref qB1])), (qB1, .inl (cA, 270, .inl (fun _ => 0)))] := hD
  refine lv_aload_n hx hb dX5_init_26 rfl (lv_at hl 0 rfl) ?_
  refine va_new (ci := 4) (fs := [.null, .null, .int 0]) (C := RX4) (T := TX4) (N := 3) hx hb hts (fun w h => List.mem_cons_of_mem _ (wu_X4 w h)) tyX4 tyX4_ok hown (htg _ wg_X5_23) (htg _ wa_X4) (htg _ wz_X4) hK hP hD hS hA rfl (fun j hj => by rcases (show j = 0 ∨ j = 1 ∨ j = 2 by omega) with rfl | rfl | rfl <;> rfl) (Nat.le_of_ble_eq_true rfl) (Nat.le_of_ble_eq_true rfl) dX5_init_27 (fun qW H hP hD hS => ?_)
  have hP : va_P (dC, dI) vwCl [(h0, .inr (5, [.ref qS, .ref qB, .null, .null, .null, .int 0, .int 0, .int 0])), (qS, .inr (3, [.ref qS1, .int 0, .int 0, .int 0])), (qS1, .inl (cA, 618, .inl (fun _ => 0))), (qB, .inr (0, [.ref qB1])), (qB1, .inl (cA, 270, .inl (fun _ => 0))), (qW, .inr (4, [.null, .null, .int 0]))] H := hP
  have hD : va_D A [(h0, .inr (5, [.ref qS, .ref qB, .null, .null, .null, .int 0, .int 0, .int 0])), (qS, .inr (3, [.ref qS1, .int 0, .int 0, .int 0])), (qS1, .inl (cA, 618, .inl (fun _ => 0))), (qB, .inr (0, [.ref qB1])), (qB1, .inl (cA, 270, .inl (fun _ => 0))), (qW, .inr (4, [.null, .null, .int 0]))] := hD
  refine lv_dup hx hb dX5_init_30 rfl ?_
  refine lv_aload_n hx hb dX5_init_31 rfl (lv_at hl 0 rfl) ?_
  refine va_get (D := (dC, dI)) (ci := 5) (v := .ref qS) (C := RX5) (T := TX5) (N := 8) hx hb hts (fun w h => List.mem_cons_of_mem _ (wu_X5 w h)) hown hK hP 0 rfl rfl 0 (by decide) (htg _ wf_X5_10) (fun x9 h9 => h9) rfl dX5_init_32 ?_
  refine lv_aload_n hx hb dX5_init_35 rfl (lv_at hl 0 rfl) ?_
  refine va_get (D := (dC, dI)) (ci := 5) (v := .ref qB) (C := RX5) (T := TX5) (N := 8) hx hb hts (fun w h => List.mem_cons_of_mem _ (wu_X5 w h)) hown hK hP 0 rfl rfl 1 (by decide) (htg _ wf_X5_19) (fun x9 h9 => h9) rfl dX5_init_36 ?_
  have hPc := hP.sub (ws' := [(qW, .inr (4, [.null, .null, .int 0]))]) [5] rfl
  have hDc := hD.sub (ws' := [(qW, .inr (4, [.null, .null, .int 0]))]) [5] (by decide) rfl
  have hKc := hK.sub (tys' := []) [] rfl
  have hFc := va_free (wc := [(qW, .inr (4, [.null, .null, .int 0]))]) hD hS hA [5] rfl
  refine va_callv (va_runI (As := [.ref qS, .ref qB]) (rest := [.ref qW, .ref h0]) ⟨hx, hb, hml, hown, hts⟩ (k_X4_init l dC dI qW H.size qS qB) (cwI 2 hts (tg_cc wc_X4_init) rfl rfl rfl (htg _ wz_X4) (htg _ wl_X5_25) (htg _ wi_X4_init) rfl (by decide +kernel) ⟨Nat.le_of_ble_eq_true rfl, Nat.le_of_ble_eq_true rfl⟩) ⟨fun a U g mk q => by obtain ⟨q0, q1, qP, qK, qD⟩ := q; exact ⟨q0, q1, qP, va_K.moved (u := U) (U := U.calling g mk a) (Vm.Alike.refl U.vm) qK, qD⟩, fun U hU hW => ⟨rfl, by rw [hU], by rw [hU]; exact hPc, va_K.moved hW.alike hKc, hDc.weaken (fun _ _ _ _ => trivial)⟩⟩ rfl rfl hl.1 rfl (lv_room (Nat.le_of_ble_eq_true rfl)) dX5_init_39 ⟨Nat.le_of_ble_eq_true rfl, Nat.le_of_ble_eq_true rfl⟩) hS (fun q _ h => hFc q h) hFc (fun cB t H1 locs ht hvm _ hB hz1 hk1 hS => ?_)
  obtain ⟨hP1, hK1, hD1⟩ := hB
  rw [ht] at hP1
  have hK1 := va_K.moved hvm.symm hK1
  obtain ⟨hP, hD⟩ := va_join (wr := [(h0, .inr (5, [.ref qS, .ref qB, .null, .null, .null, .int 0, .int 0, .int 0])), (qS, .inr (3, [.ref qS1, .int 0, .int 0, .int 0])), (qS1, .inl (cA, 618, .inl (fun _ => 0))), (qB, .inr (0, [.ref qB1])), (qB1, .inl (cA, 270, .inl (fun _ => 0)))]) (w1 := [(qW, .inr (4, [.ref qS, .ref qB, .int 1]))]) hP hD [5] [0, 1, 2, 3, 4] rfl rfl (by decide) (by decide) hk1 hFc hP1 hD1
  generalize H1 = H at hP hS ⊢
  have hP : va_P (dC, dI) vwCl [(h0, .inr (5, [.ref qS, .ref qB, .null, .null, .null, .int 0, .int 0, .int 0])), (qS, .inr (3, [.ref qS1, .int 0, .int 0, .int 0])), (qS1, .inl (cA, 618, .inl (fun _ => 0))), (qB, .inr (0, [.ref qB1])), (qB1, .inl (cA, 270, .inl (fun _ => 0))), (qW, .inr (4, [.ref qS, .ref qB, .int 1]))] H := hP
  have hD : va_D A [(h0, .inr (5, [.ref qS, .ref qB, .null, .null, .null, .int 0, .int 0, .int 0])), (qS, .inr (3, [.ref qS1, .int 0, .int 0, .int 0])), (qS1, .inl (cA, 618, .inl (fun _ => 0))), (qB, .inr (0, [.ref qB1])), (qB1, .inl (cA, 270, .inl (fun _ => 0))), (qW, .inr (4, [.ref qS, .ref qB, .int 1]))] := hD
  refine va_putF (D := (dC, dI)) (ci := 5) (v := .ref qW) (ty := .object "KeyKeepers$Ways") (C := RX5) (T := TX5) (N := 8) hx hb hts (fun w h => List.mem_cons_of_mem _ (wu_X5 w h)) tyX5 tyX5_ok nmX5 hown hK hP hD hS 0 rfl rfl 2 (by decide) (htg _ wf_X5_28) (fun _ h9 => h9) rfl hin rfl (by decide +kernel) rfl rfl (Nat.le_of_ble_eq_true rfl) dX5_init_42 (fun H locs hP hD hS => ?_)
  have hP : va_P (dC, dI) vwCl [(h0, .inr (5, [.ref qS, .ref qB, .ref qW, .null, .null, .int 0, .int 0, .int 0])), (qS, .inr (3, [.ref qS1, .int 0, .int 0, .int 0])), (qS1, .inl (cA, 618, .inl (fun _ => 0))), (qB, .inr (0, [.ref qB1])), (qB1, .inl (cA, 270, .inl (fun _ => 0))), (qW, .inr (4, [.ref qS, .ref qB, .int 1]))] H := hP
  have hD : va_D A [(h0, .inr (5, [.ref qS, .ref qB, .ref qW, .null, .null, .int 0, .int 0, .int 0])), (qS, .inr (3, [.ref qS1, .int 0, .int 0, .int 0])), (qS1, .inl (cA, 618, .inl (fun _ => 0))), (qB, .inr (0, [.ref qB1])), (qB1, .inl (cA, 270, .inl (fun _ => 0))), (qW, .inr (4, [.ref qS, .ref qB, .int 1]))] := hD
  refine lv_aload_n hx hb dX5_init_45 rfl (lv_at hl 0 rfl) ?_
  refine va_new (ci := 1) (fs := [.null, .null, .int 0, .int 0]) (C := RX1) (T := TX1) (N := 4) hx hb hts (fun w h => List.mem_cons_of_mem _ (wu_X1 w h)) tyX1 tyX1_ok hown (htg _ wg_X5_32) (htg _ wa_X1) (htg _ wz_X1) hK hP hD hS hA rfl (fun j hj => by rcases (show j = 0 ∨ j = 1 ∨ j = 2 ∨ j = 3 by omega) with rfl | rfl | rfl | rfl <;> rfl) (Nat.le_of_ble_eq_true rfl) (Nat.le_of_ble_eq_true rfl) dX5_init_46 (fun qP H hP hD hS => ?_)
  have hP : va_P (dC, dI) vwCl [(h0, .inr (5, [.ref qS, .ref qB, .ref qW, .null, .null, .int 0, .int 0, .int 0])), (qS, .inr (3, [.ref qS1, .int 0, .int 0, .int 0])), (qS1, .inl (cA, 618, .inl (fun _ => 0))), (qB, .inr (0, [.ref qB1])), (qB1, .inl (cA, 270, .inl (fun _ => 0))), (qW, .inr (4, [.ref qS, .ref qB, .int 1])), (qP, .inr (1, [.null, .null, .int 0, .int 0]))] H := hP
  have hD : va_D A [(h0, .inr (5, [.ref qS, .ref qB, .ref qW, .null, .null, .int 0, .int 0, .int 0])), (qS, .inr (3, [.ref qS1, .int 0, .int 0, .int 0])), (qS1, .inl (cA, 618, .inl (fun _ => 0))), (qB, .inr (0, [.ref qB1])), (qB1, .inl (cA, 270, .inl (fun _ => 0))), (qW, .inr (4, [.ref qS, .ref qB, .int 1])), (qP, .inr (1, [.null, .null, .int 0, .int 0]))] := hD
  refine lv_dup hx hb dX5_init_49 rfl ?_
  refine lv_aload_n hx hb dX5_init_50 rfl (lv_at hl 0 rfl) ?_
  refine va_get (D := (dC, dI)) (ci := 5) (v := .ref qS) (C := RX5) (T := TX5) (N := 8) hx hb hts (fun w h => List.mem_cons_of_mem _ (wu_X5 w h)) hown hK hP 0 rfl rfl 0 (by decide) (htg _ wf_X5_10) (fun x9 h9 => h9) rfl dX5_init_51 ?_
  have hPc := hP.sub (ws' := [(qP, .inr (1, [.null, .null, .int 0, .int 0]))]) [6] rfl
  have hDc := hD.sub (ws' := [(qP, .inr (1, [.null, .null, .int 0, .int 0]))]) [6] (by decide) rfl
  have hKc := hK.sub (tys' := []) [] rfl
  have hFc := va_free (wc := [(qP, .inr (1, [.null, .null, .int 0, .int 0]))]) hD hS hA [6] rfl
  refine va_callv (va_runI (As := [.ref qS]) (rest := [.ref qP, .ref h0]) ⟨hx, hb, hml, hown, hts⟩ (k_X1_init l dC dI qP H.size qS) (cwI 1 hts (tg_cc wc_X1_init) rfl rfl rfl (htg _ wz_X1) (htg _ wl_X5_34) (htg _ wi_X1_init) rfl (by decide +kernel) ⟨Nat.le_of_ble_eq_true rfl, Nat.le_of_ble_eq_true rfl⟩) ⟨fun a U g mk q => by obtain ⟨q0, q1, qP, qK, qD⟩ := q; exact ⟨q0, q1, qP, va_K.moved (u := U) (U := U.calling g mk a) (Vm.Alike.refl U.vm) qK, qD⟩, fun U hU hW => ⟨rfl, by rw [hU], by rw [hU]; exact hPc, va_K.moved hW.alike hKc, hDc.weaken (fun _ _ _ _ => trivial)⟩⟩ rfl rfl hl.1 rfl (lv_room (Nat.le_of_ble_eq_true rfl)) dX5_init_54 ⟨Nat.le_of_ble_eq_true rfl, Nat.le_of_ble_eq_true rfl⟩) hS (fun q _ h => hFc q h) hFc (fun cB t H1 locs ht hvm _ hB hz1 hk1 hS => ?_)
  obtain ⟨qP1, hP1, hK1, hD1⟩ := hB
  rw [ht] at hP1
  have hK1 := va_K.moved hvm.symm hK1
  obtain ⟨hP, hD⟩ := va_join (wr := [(h0, .inr (5, [.ref qS, .ref qB, .ref qW, .null, .null, .int 0, .int 0, .int 0])), (qS, .inr (3, [.ref qS1, .int 0, .int 0, .int 0])), (qS1, .inl (cA, 618, .inl (fun _ => 0))), (qB, .inr (0, [.ref qB1])), (qB1, .inl (cA, 270, .inl (fun _ => 0))), (qW, .inr (4, [.ref qS, .ref qB, .int 1]))]) (w1 := [(qP, .inr (1, [.ref qS, .ref qP1, .int 0, .int 0])), (qP1, .inl (cB, 19158, .inl (fun _ => 0)))]) hP hD [6] [0, 1, 2, 3, 4, 5] rfl rfl (by decide) (by decide) hk1 hFc hP1 hD1
  generalize H1 = H at hP hS ⊢
  obtain rfl : cB = cA := ra_same ((hK.sub (tys' := [(cA, .int)]) [0] rfl).app hK1)
  obtain ⟨cA, hcA⟩ : ∃ z, z = cB := ⟨_, rfl⟩
  subst hcA
  have hP : va_P (dC, dI) vwCl [(h0, .inr (5, [.ref qS, .ref qB, .ref qW, .null, .null, .int 0, .int 0, .int 0])), (qS, .inr (3, [.ref qS1, .int 0, .int 0, .int 0])), (qS1, .inl (cA, 618, .inl (fun _ => 0))), (qB, .inr (0, [.ref qB1])), (qB1, .inl (cA, 270, .inl (fun _ => 0))), (qW, .inr (4, [.ref qS, .ref qB, .int 1])), (qP, .inr (1, [.ref qS, .ref qP1, .int 0, .int 0])), (qP1, .inl (cA, 19158, .inl (fun _ => 0)))] H := hP
  have hD : va_D A [(h0, .inr (5, [.ref qS, .ref qB, .ref qW, .null, .null, .int 0, .int 0, .int 0])), (qS, .inr (3, [.ref qS1, .int 0, .int 0, .int 0])), (qS1, .inl (cA, 618, .inl (fun _ => 0))), (qB, .inr (0, [.ref qB1])), (qB1, .inl (cA, 270, .inl (fun _ => 0))), (qW, .inr (4, [.ref qS, .ref qB, .int 1])), (qP, .inr (1, [.ref qS, .ref qP1, .int 0, .int 0])), (qP1, .inl (cA, 19158, .inl (fun _ => 0)))] := hD
  refine va_putF (D := (dC, dI)) (ci := 5) (v := .ref qP) (ty := .object "KeyKeepers$Past") (C := RX5) (T := TX5) (N := 8) hx hb hts (fun w h => List.mem_cons_of_mem _ (wu_X5 w h)) tyX5 tyX5_ok nmX5 hown hK hP hD hS 0 rfl rfl 3 (by decide) (htg _ wf_X5_37) (fun _ h9 => h9) rfl hin rfl (by decide +kernel) rfl rfl (Nat.le_of_ble_eq_true rfl) dX5_init_57 (fun H locs hP hD hS => ?_)
  have hP : va_P (dC, dI) vwCl [(h0, .inr (5, [.ref qS, .ref qB, .ref qW, .ref qP, .null, .int 0, .int 0, .int 0])), (qS, .inr (3, [.ref qS1, .int 0, .int 0, .int 0])), (qS1, .inl (cA, 618, .inl (fun _ => 0))), (qB, .inr (0, [.ref qB1])), (qB1, .inl (cA, 270, .inl (fun _ => 0))), (qW, .inr (4, [.ref qS, .ref qB, .int 1])), (qP, .inr (1, [.ref qS, .ref qP1, .int 0, .int 0])), (qP1, .inl (cA, 19158, .inl (fun _ => 0)))] H := hP
  have hD : va_D A [(h0, .inr (5, [.ref qS, .ref qB, .ref qW, .ref qP, .null, .int 0, .int 0, .int 0])), (qS, .inr (3, [.ref qS1, .int 0, .int 0, .int 0])), (qS1, .inl (cA, 618, .inl (fun _ => 0))), (qB, .inr (0, [.ref qB1])), (qB1, .inl (cA, 270, .inl (fun _ => 0))), (qW, .inr (4, [.ref qS, .ref qB, .int 1])), (qP, .inr (1, [.ref qS, .ref qP1, .int 0, .int 0])), (qP1, .inl (cA, 19158, .inl (fun _ => 0)))] := hD
  refine lv_aload_n hx hb dX5_init_60 rfl (lv_at hl 0 rfl) ?_
  refine va_new (ci := 2) (fs := [.null, .null, .null, .null, .null, .null, .null, .int 0, .int 0, .int 0]) (C := RX2) (T := TX2) (N := 10) hx hb hts (fun w h => List.mem_cons_of_mem _ (wu_X2 w h)) tyX2 tyX2_ok hown (htg _ wg_X5_41) (htg _ wa_X2) (htg _ wz_X2) hK hP hD hS hA rfl (fun j hj => by rcases (show j = 0 ∨ j = 1 ∨ j = 2 ∨ j = 3 ∨ j = 4 ∨ j = 5 ∨ j = 6 ∨ j = 7 ∨ j = 8 ∨ j = 9 by omega) with rfl | rfl | rfl | rfl | rfl | rfl | rfl | rfl | rfl | rfl <;> rfl) (Nat.le_of_ble_eq_true rfl) (Nat.le_of_ble_eq_true rfl) dX5_init_61 (fun qE H hP hD hS => ?_)
  have hP : va_P (dC, dI) vwCl [(h0, .inr (5, [.ref qS, .ref qB, .ref qW, .ref qP, .null, .int 0, .int 0, .int 0])), (qS, .inr (3, [.ref qS1, .int 0, .int 0, .int 0])), (qS1, .inl (cA, 618, .inl (fun _ => 0))), (qB, .inr (0, [.ref qB1])), (qB1, .inl (cA, 270, .inl (fun _ => 0))), (qW, .inr (4, [.ref qS, .ref qB, .int 1])), (qP, .inr (1, [.ref qS, .ref qP1, .int 0, .int 0])), (qP1, .inl (cA, 19158, .inl (fun _ => 0))), (qE, .inr (2, [.null, .null, .null, .null, .null, .null, .null, .int 0, .int 0, .int 0]))] H := hP
  have hD : va_D A [(h0, .inr (5, [.ref qS, .ref qB, .ref qW, .ref qP, .null, .int 0, .int 0, .int 0])), (qS, .inr (3, [.ref qS1, .int 0, .int 0, .int 0])), (qS1, .inl (cA, 618, .inl (fun _ => 0))), (qB, .inr (0, [.ref qB1])), (qB1, .inl (cA, 270, .inl (fun _ => 0))), (qW, .inr (4, [.ref qS, .ref qB, .int 1])), (qP, .inr (1, [.ref qS, .ref qP1, .int 0, .int 0])), (qP1, .inl (cA, 19158, .inl (fun _ => 0))), (qE, .inr (2, [.null, .null, .null, .null, .null, .null, .null, .int 0, .int 0, .int 0]))] := hD
  refine lv_dup hx hb dX5_init_64 rfl ?_
  refine lv_aload_n hx hb dX5_init_65 rfl (lv_at hl 0 rfl) ?_
  refine va_get (D := (dC, dI)) (ci := 5) (v := .ref qS) (C := RX5) (T := TX5) (N := 8) hx hb hts (fun w h => List.mem_cons_of_mem _ (wu_X5 w h)) hown hK hP 0 rfl rfl 0 (by decide) (htg _ wf_X5_10) (fun x9 h9 => h9) rfl dX5_init_66 ?_
  refine lv_aload_n hx hb dX5_init_69 rfl (lv_at hl 0 rfl) ?_
  refine va_get (D := (dC, dI)) (ci := 5) (v := .ref qW) (C := RX5) (T := TX5) (N := 8) hx hb hts (fun w h => List.mem_cons_of_mem _ (wu_X5 w h)) hown hK hP 0 rfl rfl 2 (by decide) (htg _ wf_X5_28) (fun x9 h9 => h9) rfl dX5_init_70 ?_
  have hPc := hP.sub (ws' := [(qE, .inr (2, [.null, .null, .null, .null, .null, .null, .null, .int 0, .int 0, .int 0]))]) [8] rfl
  have hDc := hD.sub (ws' := [(qE, .inr (2, [.null, .null, .null, .null, .null, .null, .null, .int 0, .int 0, .int 0]))]) [8] (by decide) rfl
  have hKc := hK.sub (tys' := []) [] rfl
  have hFc := va_free (wc := [(qE, .inr (2, [.null, .null, .null, .null, .null, .null, .null, .int 0, .int 0, .int 0]))]) hD hS hA [8] rfl
  refine va_callv (va_runI (As := [.ref qS, .ref qW]) (rest := [.ref qE, .ref h0]) ⟨hx, hb, hml, hown, hts⟩ (k_X2_init l dC dI qE H.size qS qW) (cwI 2 hts (tg_cc wc_X2_init) rfl rfl rfl (htg _ wz_X2) (htg _ wl_X5_43) (htg _ wi_X2_init) rfl (by decide +kernel) ⟨Nat.le_of_ble_eq_true rfl, Nat.le_of_ble_eq_true rfl⟩) ⟨fun a U g mk q => by obtain ⟨q0, q1, qP, qK, qD⟩ := q; exact ⟨q0, q1, qP, va_K.moved (u := U) (U := U.calling g mk a) (Vm.Alike.refl U.vm) qK, qD⟩, fun U hU hW => ⟨rfl, by rw [hU], by rw [hU]; exact hPc, va_K.moved hW.alike hKc, hDc.weaken (fun _ _ _ _ => trivial)⟩⟩ rfl rfl hl.1 rfl (lv_room (Nat.le_of_ble_eq_true rfl)) dX5_init_73 ⟨Nat.le_of_ble_eq_true rfl, Nat.le_of_ble_eq_true rfl⟩) hS (fun q _ h => hFc q h) hFc (fun cB t H1 locs ht hvm _ hB hz1 hk1 hS => ?_)
  obtain ⟨qE1, qE2, qE3, qE4, qE5, hP1, hK1, hD1⟩ := hB
  rw [ht] at hP1
  have hK1 := va_K.moved hvm.symm hK1
  obtain ⟨hP, hD⟩ := va_join (wr := [(h0, .inr (5, [.ref qS, .ref qB, .ref qW, .ref qP, .null, .int 0, .int 0, .int 0])), (qS, .inr (3, [.ref qS1, .int 0, .int 0, .int 0])), (qS1, .inl (cA, 618, .inl (fun _ => 0))), (qB, .inr (0, [.ref qB1])), (qB1, .inl (cA, 270, .inl (fun _ => 0))), (qW, .inr (4, [.ref qS, .ref qB, .int 1])), (qP, .inr (1, [.ref qS, .ref qP1, .int 0, .int 0])), (qP1, .inl (cA, 19158, .inl (fun _ => 0)))]) (w1 := [(qE, .inr (2, [.ref qS, .ref qW, .ref qE1, .ref qE2, .ref qE3, .ref qE4, .ref qE5, .int 0, .int 0, .int 0])), (qE1, .inl (cB, 182400, .inl (fun _ => 0))), (qE2, .inl (cB, 300, .inl (fun _ => 0))), (qE3, .inl (cB, 1024, .inl (fun _ => 0))), (qE4, .inl (cB, 618, .inl (fun _ => 0))), (qE5, .inl (cB, 7, .inl (fun _ => 0)))]) hP hD [8] [0, 1, 2, 3, 4, 5, 6, 7] rfl rfl (by decide) (by decide) hk1 hFc hP1 hD1
  generalize H1 = H at hP hS ⊢
  obtain rfl : cB = cA := ra_same ((hK.sub (tys' := [(cA, .int)]) [0] rfl).app hK1)
  obtain ⟨cA, hcA⟩ : ∃ z, z = cB := ⟨_, rfl⟩
  subst hcA
  have hP : va_P (dC, dI) vwCl [(h0, .inr (5, [.ref qS, .ref qB, .ref qW, .ref qP, .null, .int 0, .int 0, .int 0])), (qS, .inr (3, [.ref qS1, .int 0, .int 0, .int 0])), (qS1, .inl (cA, 618, .inl (fun _ => 0))), (qB, .inr (0, [.ref qB1])), (qB1, .inl (cA, 270, .inl (fun _ => 0))), (qW, .inr (4, [.ref qS, .ref qB, .int 1])), (qP, .inr (1, [.ref qS, .ref qP1, .int 0, .int 0])), (qP1, .inl (cA, 19158, .inl (fun _ => 0))), (qE, .inr (2, [.ref qS, .ref qW, .ref qE1, .ref qE2, .ref qE3, .ref qE4, .ref qE5, .int 0, .int 0, .int 0])), (qE1, .inl (cA, 182400, .inl (fun _ => 0))), (qE2, .inl (cA, 300, .inl (fun _ => 0))), (qE3, .inl (cA, 1024, .inl (fun _ => 0))), (qE4, .inl (cA, 618, .inl (fun _ => 0))), (qE5, .inl (cA, 7, .inl (fun _ => 0)))] H := hP
  have hD : va_D A [(h0, .inr (5, [.ref qS, .ref qB, .ref qW, .ref qP, .null, .int 0, .int 0, .int 0])), (qS, .inr (3, [.ref qS1, .int 0, .int 0, .int 0])), (qS1, .inl (cA, 618, .inl (fun _ => 0))), (qB, .inr (0, [.ref qB1])), (qB1, .inl (cA, 270, .inl (fun _ => 0))), (qW, .inr (4, [.ref qS, .ref qB, .int 1])), (qP, .inr (1, [.ref qS, .ref qP1, .int 0, .int 0])), (qP1, .inl (cA, 19158, .inl (fun _ => 0))), (qE, .inr (2, [.ref qS, .ref qW, .ref qE1, .ref qE2, .ref qE3, .ref qE4, .ref qE5, .int 0, .int 0, .int 0])), (qE1, .inl (cA, 182400, .inl (fun _ => 0))), (qE2, .inl (cA, 300, .inl (fun _ => 0))), (qE3, .inl (cA, 1024, .inl (fun _ => 0))), (qE4, .inl (cA, 618, .inl (fun _ => 0))), (qE5, .inl (cA, 7, .inl (fun _ => 0)))] := hD
  refine va_putF (D := (dC, dI)) (ci := 5) (v := .ref qE) (ty := .object "KeyKeepers$Search") (C := RX5) (T := TX5) (N := 8) hx hb hts (fun w h => List.mem_cons_of_mem _ (wu_X5 w h)) tyX5 tyX5_ok nmX5 hown hK hP hD hS 0 rfl rfl 4 (by decide) (htg _ wf_X5_46) (fun _ h9 => h9) rfl hin rfl (by decide +kernel) rfl rfl (Nat.le_of_ble_eq_true rfl) dX5_init_76 (fun H locs hP hD hS => ?_)
  have hP : va_P (dC, dI) vwCl [(h0, .inr (5, [.ref qS, .ref qB, .ref qW, .ref qP, .ref qE, .int 0, .int 0, .int 0])), (qS, .inr (3, [.ref qS1, .int 0, .int 0, .int 0])), (qS1, .inl (cA, 618, .inl (fun _ => 0))), (qB, .inr (0, [.ref qB1])), (qB1, .inl (cA, 270, .inl (fun _ => 0))), (qW, .inr (4, [.ref qS, .ref qB, .int 1])), (qP, .inr (1, [.ref qS, .ref qP1, .int 0, .int 0])), (qP1, .inl (cA, 19158, .inl (fun _ => 0))), (qE, .inr (2, [.ref qS, .ref qW, .ref qE1, .ref qE2, .ref qE3, .ref qE4, .ref qE5, .int 0, .int 0, .int 0])), (qE1, .inl (cA, 182400, .inl (fun _ => 0))), (qE2, .inl (cA, 300, .inl (fun _ => 0))), (qE3, .inl (cA, 1024, .inl (fun _ => 0))), (qE4, .inl (cA, 618, .inl (fun _ => 0))), (qE5, .inl (cA, 7, .inl (fun _ => 0)))] H := hP
  have hD : va_D A [(h0, .inr (5, [.ref qS, .ref qB, .ref qW, .ref qP, .ref qE, .int 0, .int 0, .int 0])), (qS, .inr (3, [.ref qS1, .int 0, .int 0, .int 0])), (qS1, .inl (cA, 618, .inl (fun _ => 0))), (qB, .inr (0, [.ref qB1])), (qB1, .inl (cA, 270, .inl (fun _ => 0))), (qW, .inr (4, [.ref qS, .ref qB, .int 1])), (qP, .inr (1, [.ref qS, .ref qP1, .int 0, .int 0])), (qP1, .inl (cA, 19158, .inl (fun _ => 0))), (qE, .inr (2, [.ref qS, .ref qW, .ref qE1, .ref qE2, .ref qE3, .ref qE4, .ref qE5, .int 0, .int 0, .int 0])), (qE1, .inl (cA, 182400, .inl (fun _ => 0))), (qE2, .inl (cA, 300, .inl (fun _ => 0))), (qE3, .inl (cA, 1024, .inl (fun _ => 0))), (qE4, .inl (cA, 618, .inl (fun _ => 0))), (qE5, .inl (cA, 7, .inl (fun _ => 0)))] := hD
  refine lv_aload_n hx hb dX5_init_79 rfl (lv_at hl 0 rfl) ?_
  refine va_get (D := (dC, dI)) (ci := 5) (v := .ref qS) (C := RX5) (T := TX5) (N := 8) hx hb hts (fun w h => List.mem_cons_of_mem _ (wu_X5 w h)) hown hK hP 0 rfl rfl 0 (by decide) (htg _ wf_X5_10) (fun x9 h9 => h9) rfl dX5_init_80 ?_
  refine lv_iconst (v := 0) hx hb dX5_init_83 (by decide) ?_
  refine lv_iconst (v := 2) hx hb dX5_init_84 (by decide) ?_
  have hP : va_P (dC, dI) vwCl (WC (ad14 h0 qS qB qW qP qE qS1 qB1 qP1 qE1 qE2 qE3 qE4 qE5) cA vC0) H := hP.sub (ws' := WC (ad14 h0 qS qB qW qP qE qS1 qB1 qP1 qE1 qE2 qE3 qE4 qE5) cA vC0) [0, 1, 3, 5, 6, 8, 2, 4, 7, 9, 10, 11, 12, 13] rfl
  have hD : va_D A (WC (ad14 h0 qS qB qW qP qE qS1 qB1 qP1 qE1 qE2 qE3 qE4 qE5) cA vC0) := hD.sub (ws' := WC (ad14 h0 qS qB qW qP qE qS1 qB1 qP1 qE1 qE2 qE3 qE4 qE5) cA vC0) [0, 1, 3, 5, 6, 8, 2, 4, 7, 9, 10, 11, 12, 13] (by decide) rfl
  obtain ⟨hap, hAA⟩ := AP_of (ad := ad14 h0 qS qB qW qP qE qS1 qB1 qP1 qE1 qE2 qE3 qE4 qE5) (n := 14) hD (fun k hk => by
    rcases (show k = 0 ∨ k = 1 ∨ k = 2 ∨ k = 3 ∨ k = 4 ∨ k = 5 ∨ k = 6 ∨ k = 7 ∨ k = 8 ∨ k = 9 ∨ k = 10 ∨ k = 11 ∨ k = 12 ∨ k = 13 by omega) with rfl | rfl | rfl | rfl | rfl | rfl | rfl | rfl | rfl | rfl | rfl | rfl | rfl | rfl <;> exact ⟨_, rfl⟩)
  refine x_vvG (Wf := WC (ad14 h0 qS qB qW qP qE qS1 qB1 qP1 qE1 qE2 qE3 qE4 qE5) cA) (A := AF (ad14 h0 qS qB qW qP qE qS1 qB1 qP1 qE1 qE2 qE3 qE4 qE5) 14) (ci := 3) (q0 := 1) (b := qS) (As := [.int 0, .int 2]) (rest := []) ⟨hx, hb, hml, hown, hts⟩ hK hP hS hAA (k_X3_startAnew hap hv2) rfl rfl wl_X5_50 wi_X3_startAnew ws_X3_startAnew wz_X3 wc_X3_startAnew (by decide +kernel) ⟨Nat.le_of_ble_eq_true rfl, Nat.le_of_ble_eq_true rfl⟩ hl.1 rfl (Nat.zero_le _) dX5_init_85 ⟨Nat.le_of_ble_eq_true rfl, Nat.le_of_ble_eq_true rfl⟩ (fun H1 locs1 hP hS => ?_)
  have hD2 : va_D A (WC (ad14 h0 qS qB qW qP qE qS1 qB1 qP1 qE1 qE2 qE3 qE4 qE5) cA v2) := ⟨(WC_D hap v2).1, fun k q hq => hAA _ ((WC_D hap v2).2 k q hq)⟩
  exact W.vret hx hb hr (fun t ht hW => ⟨⟨(ad14 h0 qS qB qW qP qE qS1 qB1 qP1 qE1 qE2 qE3 qE4 qE5, cA), rfl, trivial, rfl, hap, by rw [ht]; exact hP, va_K.moved hW.alike hK, hD2⟩, hS.F ht⟩) hS.2.2 dX5_init_88
