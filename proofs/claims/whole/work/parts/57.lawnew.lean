-- the law: two new objects
def LA (s : State) : Nat → Prop := fun q => s.heap.size ≤ q
/-- the law, its two objects made, ahead of its loop -/
theorem law_new {p : Program} {l : Launch} {e : Env} {s : State} {m : MethodId} {args : Array Value} {below : List Frame} {meth : Method} {c : Code} {Q : State → Prop} {dC : Nat → ClassId} {dI : Nat → Nat → Nat} {b : Nat} {u2 v2 : Wo} (S : CallFix p m c cL_law 4 s args TG RL) (hKs : va_K (dC, dI) vwCl [] s) (hu2 : fX3_startAnew (0 : Int32) (2 : Int32) vC0 = some (0, u2)) (hv2 : fX6_clear vM0 = some (0, v2))
    (k : ∀ (H : Heap) (locs : List Loc) (ls : Array Slot) (ad ad2 : Nat → Nat) (cA : ClassId), va_K (dC, dI) vwCl [(cA, .int)] s → AP ad 14 → AP ad2 9 → va_P (dC, dI) vwCl (WC ad cA u2) H → va_P (dC, dI) vwCl (WM ad2 cA v2) H → va_D (LA s) (WC ad cA u2 ++ WM ad2 cA v2) → va_S (LA s) s.heap H locs → lv_has ls 4 [(2, .ref (ad2 0)), (1, .ref (ad 0)), (0, .ref b)] → W p l e room_1 s m args below meth c H locs 23 556840 Q (F0 m 16 ls [])) : W p l e room_1 s m args below meth c s.heap [] 0 0 Q (entryFrame m ([Value.ref b] : List Value).toArray 4) := by
  obtain ⟨hx, hb, hml, hown, hts⟩ := S
  have S : CallFix p m c cL_law 4 s args TG RL := ⟨hx, hb, hml, hown, hts⟩
  have hA : ∀ q : Nat, s.heap.size ≤ q → LA s q := fun q h => h
  have hS : va_S (LA s) s.heap s.heap [] := va_S.rf
  have hP : va_P (dC, dI) vwCl [] s.heap := fun k q h => by cases h
  have hD : va_D (LA s) [] := ⟨fun i j p q h => (by cases h), fun k q h => (by cases h)⟩
  have hK := hKs
  have hl := lv_entry ([.ref b]) (n := 4) (Nat.le_of_ble_eq_true rfl)
  rw [lg_entry_eq]
  generalize (lg_sl ([.ref b]) ++ List.replicate (4 - (lg_sl ([.ref b])).length) Slot.unset).toArray = ls at hl ⊢
  have hl : lv_has ls 4 [(0, .ref b)] := hl
  refine va_new (ci := 5) (fs := [.null, .null, .null, .null, .null, .int 0, .int 0, .int 0]) (C := RX5) (T := TX5) (N := 8) hx hb hts wu_X5 tyX5 tyX5_ok hown (hts _ wg_L_7) (hts _ wa_X5) (hts _ wz_X5) hK hP hD hS hA rfl (fun j hj => by rcases (show j = 0 ∨ j = 1 ∨ j = 2 ∨ j = 3 ∨ j = 4 ∨ j = 5 ∨ j = 6 ∨ j = 7 by omega) with rfl | rfl | rfl | rfl | rfl | rfl | rfl | rfl <;> rfl) (Nat.le_of_ble_eq_true rfl) (Nat.le_of_ble_eq_true rfl) dL_law_0 (fun qC H hP hD hS => ?_)
  have hP : va_P (dC, dI) vwCl [(qC, .inr (5, [.null, .null, .null, .null, .null, .int 0, .int 0, .int 0]))] H := hP
  have hD : va_D (LA s) [(qC, .inr (5, [.null, .null, .null, .null, .null, .int 0, .int 0, .int 0]))] := hD
  refine lv_dup hx hb dL_law_3 rfl ?_
  have hFc := va_free (wc := [(qC, .inr (5, [.null, .null, .null, .null, .null, .int 0, .int 0, .int 0]))]) hD hS hA [0] rfl
  refine va_callv (va_runI (As := []) (rest := [.ref qC]) S (k_X5_init l dC dI qC H.size u2 hu2) (cwI 0 hts (tg_code wc_X5_init) rfl rfl rfl (hts _ wz_X5) (hts _ wl_L_9) (hts _ wi_X5_init) rfl (by decide +kernel) ⟨Nat.le_of_ble_eq_true rfl, Nat.le_of_ble_eq_true rfl⟩) ⟨fun a U g mk q => by obtain ⟨q0, q1, qP, qK, qD⟩ := q; exact ⟨q0, q1, qP, va_K.moved (u := U) (U := U.calling g mk a) (Vm.Alike.refl U.vm) qK, qD⟩, fun U hU hW => ⟨rfl, by rw [hU], by rw [hU]; exact hP, va_K.moved hW.alike hK, hD.weaken (fun _ _ _ _ => trivial)⟩⟩ rfl rfl hl.1 rfl (lv_room (Nat.le_of_ble_eq_true rfl)) dL_law_4 ⟨Nat.le_of_ble_eq_true rfl, Nat.le_of_ble_eq_true rfl⟩) hS (fun q _ h => hFc q h) hFc (fun x t H1 locs ht hvm _ hB hz1 hk1 hS => ?_)
  obtain ⟨ad, cA⟩ := x
  obtain ⟨had, hap, hP1, hK1, hD1⟩ := hB
  dsimp only at had hap hP1 hK1 hD1
  rw [ht] at hP1
  have hK1 := va_K.moved hvm.symm hK1
  have hD2 : va_D (LA s) (WC ad cA u2) := ⟨hD1.1, fun k q hq => hFc _ (hD1.2 k q hq)⟩
  subst had
  have hK := hK1
  have hP := hP1
  have hD := hD2
  refine lv_astore_n hx hb dL_law_7 rfl hl (by decide) rfl (fun ls hl => ?_)
  have hl : lv_has ls 4 [(1, .ref (ad 0)), (0, .ref b)] := hl
  refine va_new (ci := 6) (fs := [.int 0, .int 0, .null, .null, .null, .int 0, .int 0, .int 0, .int 0, .int 0, .int 0, .null, .null, .int 0, .null, .null, .null, .int 0]) (C := RX6) (T := TX6) (N := 18) hx hb hts wu_X6 tyX6 tyX6_ok hown (hts _ wg_L_10) (hts _ wa_X6) (hts _ wz_X6) hK hP hD hS hA rfl (fun j hj => by rcases (show j = 0 ∨ j = 1 ∨ j = 2 ∨ j = 3 ∨ j = 4 ∨ j = 5 ∨ j = 6 ∨ j = 7 ∨ j = 8 ∨ j = 9 ∨ j = 10 ∨ j = 11 ∨ j = 12 ∨ j = 13 ∨ j = 14 ∨ j = 15 ∨ j = 16 ∨ j = 17 by omega) with rfl | rfl | rfl | rfl | rfl | rfl | rfl | rfl | rfl | rfl | rfl | rfl | rfl | rfl | rfl | rfl | rfl | rfl <;> rfl) (Nat.le_of_ble_eq_true rfl) (Nat.le_of_ble_eq_true rfl) dL_law_8 (fun qM H hP hD hS => ?_)
  refine lv_dup hx hb dL_law_11 rfl ?_
  have hPc := hP.sub (ws' := [(qM, .inr (6, [.int 0, .int 0, .null, .null, .null, .int 0, .int 0, .int 0, .int 0, .int 0, .int 0, .null, .null, .int 0, .null, .null, .null, .int 0]))]) [14] rfl
  have hDc := hD.sub (ws' := [(qM, .inr (6, [.int 0, .int 0, .null, .null, .null, .int 0, .int 0, .int 0, .int 0, .int 0, .int 0, .null, .null, .int 0, .null, .null, .null, .int 0]))]) [14] (by decide) rfl
  have hKc := hK.sub (tys' := []) [] rfl
  have hFc := va_free (wc := [(qM, .inr (6, [.int 0, .int 0, .null, .null, .null, .int 0, .int 0, .int 0, .int 0, .int 0, .int 0, .null, .null, .int 0, .null, .null, .null, .int 0]))]) hD hS hA [14] rfl
  refine va_callv (va_runI (As := []) (rest := [.ref qM]) S (k_X6_init l dC dI qM H.size v2 hv2) (cwI 0 hts (tg_code wc_X6_init) rfl rfl rfl (hts _ wz_X6) (hts _ wl_L_12) (hts _ wi_X6_init) rfl (by decide +kernel) ⟨Nat.le_of_ble_eq_true rfl, Nat.le_of_ble_eq_true rfl⟩) ⟨fun a U g mk q => by obtain ⟨q0, q1, qP, qK, qD⟩ := q; exact ⟨q0, q1, qP, va_K.moved (u := U) (U := U.calling g mk a) (Vm.Alike.refl U.vm) qK, qD⟩, fun U hU hW => ⟨rfl, by rw [hU], by rw [hU]; exact hPc, va_K.moved hW.alike hKc, hDc.weaken (fun _ _ _ _ => trivial)⟩⟩ rfl rfl hl.1 rfl (lv_room (Nat.le_of_ble_eq_true rfl)) dL_law_12 ⟨Nat.le_of_ble_eq_true rfl, Nat.le_of_ble_eq_true rfl⟩) hS (fun q _ h => hFc q h) hFc (fun x t H1 locs ht hvm _ hB hz1 hk1 hS => ?_)
  obtain ⟨ad2, cB⟩ := x
  obtain ⟨had, hap2, hPm, hKm, hDm⟩ := hB
  dsimp only at had hap2 hPm hKm hDm
  rw [ht] at hPm
  have hKm := va_K.moved hvm.symm hKm
  obtain rfl : cB = cA := ra_same ((hK.sub (tys' := [(cA, .int)]) [0] rfl).app hKm)
  obtain ⟨hPJ, hDJ⟩ := va_join (wr := WC ad cB u2) (w1 := WM ad2 cB v2) hP hD [14] [0, 1, 2, 3, 4, 5, 6, 7, 8, 9, 10, 11, 12, 13] rfl rfl (by decide) (by decide) hk1 hFc hPm hDm
  have hPC := hPJ.sub (ws' := WC ad cB u2) [0, 1, 2, 3, 4, 5, 6, 7, 8, 9, 10, 11, 12, 13] rfl
  subst had
  refine lv_astore_n hx hb dL_law_15 rfl hl (by decide) rfl (fun ls hl => ?_)
  have hl : lv_has ls 4 [(2, .ref (ad2 0)), (1, .ref (ad 0)), (0, .ref b)] := hl
  exact k H1 _ ls ad ad2 cB hK hap hap2 hPC hPm hDJ hS hl
