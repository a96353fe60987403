-- the law: a call of one side, the other side kept
section LAWC
variable {p : Program} {l : Launch} {e : Env} {R : Room} {s : State} {m : MethodId} {args : Array Value} {below : List Frame} {meth : Method} {c : Code} {H : Heap} {locs : List Loc} {cells slots : Nat} {Q : State → Prop} {cc : ByteArray} {nL pc index : Nat} {ls : Array Slot} {rest : List Value} {own : String} {dC : Nat → ClassId} {dI : Nat → Nat → Nat} {cI : ClassId} {Wf : Wo → va_W} {A A0 : Nat → Prop} {u : Wo} {wo : va_W}
theorem tg_self : GoodIn TG TG := fun w h => ⟨h, good_of_word (tg_good h)⟩
theorem tg_code {y2 : MethodName} {c2 : ByteArray} {n2 : Nat} {r2 : Option FieldType} (h2 : Cond.code y2 c2 n2 r2 ∈ TG) : GoodIn TG (Cond.code y2 c2 n2 r2 :: TG) := fun w h => by
  rcases List.mem_cons.mp h with rfl | h
  · exact tg_self _ h2
  · exact tg_self _ h
theorem x_viL {y : MethodName} {cy : ByteArray} {ny : Nat} {ry : Option FieldType} {fr lo b : Nat} {As st0 : List Value} {r : Int32} {u1 : Wo} (S : CallFix p m c cc nL s args TG own) (hK : va_K (dC, dI) vwCl [(cI, .int)] s) (hP : va_P (dC, dI) vwCl (Wf u) H) (hO : va_P (dC, dI) vwCl wo H) (hdis : ∀ (k : Nat) (x : Nat × va_E), wo[k]? = some x → ¬ A x.1) (hS : va_S A0 s.heap H locs) (hAA : ∀ q, A q → A0 q)
    (hC : CI l dC dI cI Wf A y cy ny ry fr lo (.ref b :: As) u r u1) {ci q0 N : Nat} {T : u_T} {fs : List Value} (hc : vwCl[ci]? = some (y.cls, T, N)) (he : (Wf u)[q0]? = some (b, .inr (ci, fs)))
    (hl : Cond.methodLink own index y ∈ TG) (hi : Cond.instanceMethod y ∈ TG) (hs : Cond.selects y.cls y y ∈ TG) (hz : Cond.initialized y.cls ∈ TG) (hcd : Cond.code y cy ny ry ∈ TG)
    (hy : y.cls ≠ "java/lang/invoke/MethodHandle" ∧ y.cls ≠ "java/lang/invoke/VarHandle" ∧ (parseMethodDescriptor y.desc).map (fun d => d.parameters.length) = some As.length)
    (hR : fr + 1 ≤ R.frames ∧ 8 + (ny + 11) + lo ≤ R.locals) (hsz : ls.size = nL) (hst : st0 = As.reverse ++ .ref b :: rest) (hW : (rest.map fun v => v.category).sum ≤ 8) (hd : decode cc pc = .ok (.invokevirtual index, 3)) (hcs : cells + 0 ≤ R.cells ∧ slots + 0 ≤ R.slots)
    (k : ∀ (H1 : Heap) (locs1 : List Loc), va_P (dC, dI) vwCl (Wf u1) H1 → va_P (dC, dI) vwCl wo H1 → va_S A0 s.heap H1 locs1 → W p l e R s m args below meth c H1 locs1 cells slots Q (F0 m (pc + 3) ls (.int r :: rest))) : W p l e R s m args below meth c H locs cells slots Q (F0 m pc ls st0) := by
  subst hst
  have hG : GoodIn TG (wsV own index y.cls y (Cond.code y cy ny ry :: TG)) := fun w hw => by
    rcases List.mem_append.mp hw with hw | hw
    · have : w ∈ TG := by
        simp only [List.mem_cons, List.not_mem_nil, or_false] at hw
        rcases hw with rfl | rfl | rfl | rfl <;> assumption
      exact tg_self w this
    · exact tg_code hcd w hw
  refine va_calli (va_runV (As := As) (rest := rest) S hC (cwV As.length S.2.2.2.2 hG rfl rfl rfl ⟨rfl, hy⟩ hR) ⟨pw_blind, va_recv hK hP hc he, fun U hU hW => ⟨rfl, by rw [hU]; exact hP, va_K.moved hW.alike hK⟩⟩ rfl rfl hsz rfl (lv_room hW) hd hcs) hS (fun q _ h => hAA q h) (fun q h => hAA q h) (fun r2 u2 t H1 locs1 ht hvm hw hB hz1 hk1 hS => ?_)
  obtain ⟨rfl, rfl⟩ := hw
  exact k _ _ (ht ▸ hB.1) (hO.kept (fun k x hx => hk1 x.1 (hO k x hx).lt (hdis k x hx))) hS
end LAWC
