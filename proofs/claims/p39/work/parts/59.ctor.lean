/-! constructors: the frame of them -/
section CTF
variable {p : Program} {l : Launch} {e : Env} {R : Room} {s : State} {m : MethodId} {args : Array Value} {below : List Frame} {meth : Method} {c : Code} {H : Heap} {locs : List Loc} {cells slots : Nat} {Q : State → Prop}
variable {D : va_G} {A : Nat → Prop} {ad adV : Nat → Nat} {cA : Nat → ClassId}
abbrev tyW (cA : Nat → ClassId) : List (ClassId × FieldType) := [(cA 0, .int), (cA 1, .char)]
def IW (D : va_G) (A : Nat → Prop) (ad adV : Nat → Nat) (cA : Nat → ClassId) (ws : va_W) (U : State) : Prop :=
  va_P D cls9 ws U.heap ∧ va_K D cls9 (tyW cA) U ∧ va_D A ws ∧ WX A ad adV U U.heap ∧ ∀ q, U.heap.size ≤ q → A q
def IQ (D : va_G) (A : Nat → Prop) (G : va_W → Prop) : Array Value → State → Outcome → State → Prop := fun _ st o t =>
  o = .returned none ∧ (∃ ws', G ws' ∧ va_P D cls9 ws' t.heap ∧ va_D A ws') ∧ va_F A st t
def rmC (d mc ms : Nat) : Room := { frames := d, cells := mc, slots := ms, locals := 40 * d }
def CtI (l : Launch) (D : va_G) (A : Nat → Prop) (ad adV : Nat → Nat) (cA : Nat → ClassId) (y : MethodName) (bc : ByteArray) (nL d : Nat) (as : List Value) (ws : va_W) (G : va_W → Prop) (mc ms : Nat) : Prop :=
  Met l y (Jvm.Cond.code y bc nL none :: TS) (rmC d mc ms) (va_Pc as (IW D A ad adV cA ws)) (IQ D A G) mc ms A
theorem ci_of {y : MethodName} {bc : ByteArray} {nL d mc ms : Nat} {as : List Value} {ws : va_W} {G : va_W → Prop} (hy : plainName y.cls = true) (hy1 : y.name = "<init>")
    (body : ∀ (p : Program) (e : Env) (R : Room) (s : State) (m : MethodId) (args : Array Value) (below : List Frame) (meth : Method) (c : Code), R = rmC d mc ms → p.tables.exec = Jvm.exec → c.code = bc → c.maxLocals = nL → s.vm.findClass y.cls = some m.cls → (∀ w ∈ TS, w.before args s = true) → meth.locks = false → meth.sig.returnType = none → meth.name = "<init>" → IW D A ad adV cA ws s →
      ∀ ls : Array Slot, lv_has ls nL (lv_args 0 as) → W p l e R s m args below meth c s.heap [] 0 0 (MQ below (IQ D A G) args s mc ms A) (F0 m 0 ls [])) (has : (lg_sl as).length ≤ nL) : CtI l D A ad adV cA y bc nL d as ws G mc ms := by
  refine Met.ofW (cc := bc) (maxL := nL) (ret := none) hy rfl ?_
  intro p e s m args below meth c s₁ B hml hv
  obtain ⟨rfl, hI⟩ := hv
  have hts0 := atoms_spec B.pre
  have hown := findClass_of_methodNamed B.named
  rw [lg_entry_eq]
  exact body p e _ s m _ below meth c rfl B.exec B.bytes hml hown (fun w hw => hts0 w (List.mem_cons_of_mem _ hw)) B.notSynchronized B.returns ((name_of_methodNamed B.named B.method).1.trans hy1) hI _ (lv_entry as has)
theorem ci_blind {as : List Value} {ws : va_W} : FrameBlind (va_Pc as (IW D A ad adV cA ws)) := fun a U g mk h =>
  ⟨h.1, h.2.1, va_K.moved (u := U) (U := U.calling g mk a) (State.WarmedH.refl U).alike h.2.2.1, h.2.2.2.1, WX.warm (s := U) (U := U.calling g mk a) (State.WarmedH.refl U) h.2.2.2.2.1, h.2.2.2.2.2⟩
theorem ci_pre {ws : va_W} (hw : va_P D cls9 ws H) (hD : va_D A ws) (hK : va_K D cls9 (tyW cA) s) (hWX : WX A ad adV s s.heap) (hA : ∀ q, s.heap.size ≤ q → A q) (hS : va_S A s.heap H locs) {as : List Value} : ∀ U : State, U.heap = H → s.WarmedH U.vm → va_Pc as (IW D A ad adV cA ws) as.toArray U := by
  intro U hU hW
  refine ⟨rfl, by rw [hU]; exact hw, va_K.moved hW.alike hK, hD, ?_, fun q hq => hA q (Nat.le_trans hS.1 (by rw [hU] at hq; exact hq))⟩
  rw [hU]
  exact WX.warm hW (hWX.kept hS.2.1)
theorem ci_ran {G : va_W → Prop} {mc ms pc : Nat} {ls : Array Slot} {st0 rest : List Value} {a : Array Value} (hr : va_Run p l e R s m args below meth c H locs cells slots mc ms (F0 m pc ls st0) rest (IQ D A G a) A) (hS : va_S A s.heap H locs)
    (kk : ∀ (ws' : va_W) (H1 : Heap) (locs1 : List Loc), G ws' → va_P D cls9 ws' H1 → va_D A ws' → va_S A s.heap H1 locs1 → W p l e R s m args below meth c H1 locs1 (cells + mc) (slots + ms) Q (F0 m (pc + 3) ls rest)) : W p l e R s m args below meth c H locs cells slots Q (F0 m pc ls st0) := by
  intro T hT X
  obtain ⟨v, st₀, t, T', L, h0, X', hL, e1, e2, ⟨hv, ⟨ws', hG, hP, hD⟩, hF1, hF2⟩, st⟩ := hr T hT X
  cases hv
  rw [h0] at hF1 hF2
  obtain ⟨t2, a1, b1⟩ := kk ws' T'.heap (locs ++ L) hG (by rw [e1]; exact hP) hD ⟨Nat.le_trans hS.1 (by rw [e1]; exact hF1), fun q hq hA => by rw [e1, hF2 q (Nat.lt_of_lt_of_le hq hS.1) hA]; exact hS.2.1 q hq hA, fun z hz => (List.mem_append.mp hz).elim (hS.2.2 z) (hL z)⟩ T' rfl X'
  exact ⟨t2, st t2 a1, b1⟩
theorem good_C {y : MethodName} {bc : ByteArray} {nL : Nat} (h4 : Jvm.Cond.code y bc nL none ∈ lw_tbl) : GoodIn TS (Jvm.Cond.code y bc nL none :: TS) := by
  intro w hw
  rcases List.mem_cons.mp hw with rfl | hw
  · exact good_TS' (TS_mem h4 rfl)
  · exact good_TS' hw
/-- a call of a constructor -/
theorem ci_I {y : MethodName} {bc cc : ByteArray} {nL n d x pc mc ms : Nat} {As rest : List Value} {b : Nat} {own : String} {ls : Array Slot} {ws : va_W} {G : va_W → Prop} (hM : CtI l D A ad adV cA y bc nL d (.ref b :: As) ws G mc ms) (hx : p.tables.exec = Jvm.exec) (hts : ∀ w ∈ TS, w.before args s = true) (hb : c.code = cc) (hown : s.vm.findClass own = some m.cls)
    (hw : va_P D cls9 ws H) (hD : va_D A ws) (hK : va_K D cls9 (tyW cA) s) (hWX : WX A ad adV s s.heap) (hA : ∀ q, s.heap.size ≤ q → A q) (hS : va_S A s.heap H locs) (hl : ls.size = c.maxLocals) (hlink : Jvm.Cond.methodLink own x y ∈ lw_tbl)
    (h1 : Jvm.Cond.instanceMethod y ∈ lw_tbl) (h3 : Jvm.Cond.initialized y.cls ∈ lw_tbl) (h4 : Jvm.Cond.code y bc nL none ∈ lw_tbl) (hy1 : y.name = "<init>")
    (hy : y.cls ≠ "java/lang/invoke/MethodHandle" ∧ y.cls ≠ "java/lang/invoke/VarHandle" ∧ (parseMethodDescriptor y.desc).map (fun d => d.parameters.length) = some n) (hn : As.length = n)
    (hR : d + 1 ≤ R.frames ∧ 8 + (nL + 11) + 40 * d ≤ R.locals ∧ cells + mc ≤ R.cells ∧ slots + ms ≤ R.slots) (h8 : (rest.map fun v => v.category).sum ≤ 8) (hd : decode cc pc = .ok (.invokespecial x, 3))
    {st0 : List Value} (hst : st0 = As.reverse ++ .ref b :: rest) (kk : ∀ (ws' : va_W) (H1 : Heap) (locs1 : List Loc), G ws' → va_P D cls9 ws' H1 → va_D A ws' → va_S A s.heap H1 locs1 → W p l e R s m args below meth c H1 locs1 (cells + mc) (slots + ms) Q (F0 m (pc + 3) ls rest)) : W p l e R s m args below meth c H locs cells slots Q (F0 m pc ls st0) :=
  ci_ran (va_runI (Ts := TS) (As := As) ⟨hx, hb, rfl, hown, hts⟩ hM (cwI n hts (good_C h4) rfl rfl rfl (ts_of' hts h3 rfl) (ts_of' hts hlink rfl) (ts_of' hts h1 rfl) hy1 hy ⟨hR.1, hR.2.1⟩) ⟨ci_blind, ci_pre hw hD hK hWX hA hS⟩ rfl hn hl hst (lv_room h8) hd hR.2.2) hS kk
/-- a call of a private constructor of a nest mate -/
theorem ci_IN {y : MethodName} {bc cc : ByteArray} {nL n d x pc mc ms : Nat} {As rest : List Value} {b : Nat} {own : String} {ls : Array Slot} {ws : va_W} {G : va_W → Prop} (hM : CtI l D A ad adV cA y bc nL d (.ref b :: As) ws G mc ms) (hx : p.tables.exec = Jvm.exec) (hts : ∀ w ∈ TS, w.before args s = true) (hb : c.code = cc) (hown : s.vm.findClass own = some m.cls)
    (hw : va_P D cls9 ws H) (hD : va_D A ws) (hK : va_K D cls9 (tyW cA) s) (hWX : WX A ad adV s s.heap) (hA : ∀ q, s.heap.size ≤ q → A q) (hS : va_S A s.heap H locs) (hl : ls.size = c.maxLocals) (hlink : Jvm.Cond.methodLinkNest own x y "FerryDraughts" ∈ lw_tbl)
    (h1 : Jvm.Cond.instanceMethod y ∈ lw_tbl) (h3 : Jvm.Cond.initialized y.cls ∈ lw_tbl) (h4 : Jvm.Cond.code y bc nL none ∈ lw_tbl) (hy1 : y.name = "<init>")
    (hy : y.cls ≠ "java/lang/invoke/MethodHandle" ∧ y.cls ≠ "java/lang/invoke/VarHandle" ∧ (parseMethodDescriptor y.desc).map (fun d => d.parameters.length) = some n) (hn : As.length = n)
    (hR : d + 1 ≤ R.frames ∧ 8 + (nL + 11) + 40 * d ≤ R.locals ∧ cells + mc ≤ R.cells ∧ slots + ms ≤ R.slots) (h8 : (rest.map fun v => v.category).sum ≤ 8) (hd : decode cc pc = .ok (.invokespecial x, 3))
    {st0 : List Value} (hst : st0 = As.reverse ++ .ref b :: rest) (kk : ∀ (ws' : va_W) (H1 : Heap) (locs1 : List Loc), G ws' → va_P D cls9 ws' H1 → va_D A ws' → va_S A s.heap H1 locs1 → W p l e R s m args below meth c H1 locs1 (cells + mc) (slots + ms) Q (F0 m (pc + 3) ls rest)) : W p l e R s m args below meth c H locs cells slots Q (F0 m pc ls st0) :=
  ci_ran (va_runIN (Ts := TS) (As := As) (host := "FerryDraughts") ⟨hx, hb, rfl, hown, hts⟩ hM ⟨va_cnB n hts (good_C h4) rfl rfl rfl (hWX.2.1 _ hlink rfl) (ts_of' hts h3 rfl) hy ⟨hR.1, hR.2.1⟩, hy1, ts_of' hts h1 rfl⟩ ⟨ci_blind, ci_pre hw hD hK hWX hA hS⟩ rfl hn hl hst (lv_room h8) hd hR.2.2) hS kk
/-! worlds that grow behind -/
theorem ws_self {ws : va_W} {n : Nat} {y : Nat × va_E} (h : ws[n]? = some y) : ws = ws.set n y ++ [] := by
  rw [List.append_nil]
  refine List.ext_getElem? fun i => ?_
  by_cases e : i = n
  · subst e
    rw [List.getElem?_set_self (List.getElem?_eq_some_iff.mp h).1, h]
  · rw [List.getElem?_set_ne (Ne.symm e)]
theorem ws_put {ws X : va_W} {n : Nat} {y y' : Nat × va_E} (h : n < ws.length) : (ws.set n y ++ X).set n y' = ws.set n y' ++ X := by
  rw [List.set_append_left _ _ (by rw [List.length_set]; exact h), List.set_set]
theorem ws_get {ws X : va_W} {n : Nat} {y : Nat × va_E} (h : n < ws.length) : (ws.set n y ++ X)[n]? = some y := by
  rw [List.getElem?_append_left (by rw [List.length_set]; exact h), List.getElem?_set_self h]
theorem ws_put2 {ws X : va_W} {n j : Nat} {y x' : Nat × va_E} : (ws.set n y ++ X).set (ws.length + j) x' = ws.set n y ++ X.set j x' := by
  rw [List.set_append_right _ _ (by rw [List.length_set]; omega), List.length_set, Nat.add_sub_cancel_left]
theorem ws_get2 {ws X : va_W} {n j : Nat} {y : Nat × va_E} : (ws.set n y ++ X)[ws.length + j]? = X[j]? := by
  rw [List.getElem?_append_right (by rw [List.length_set]; omega), List.length_set, Nat.add_sub_cancel_left]
/-- a new array of ints or chars has the class of all such arrays -/
theorem cA_is {t : Nat} {ty : FieldType} {c9 : ClassId} (hK : va_K D cls9 (tyW cA) s) (h0 : (tyW cA)[t]? = some (cA t, ty)) (hty : ty = .int ∨ ty = .char) (h : va_K D cls9 (tyW cA ++ [(c9, ty)]) s) : c9 = cA t := by
  have h1 := (h.2 2 (c9, ty) rfl).2
  have h2 := (hK.2 t (cA t, ty) h0).2
  rcases hty with rfl | rfl <;> exact Option.some.inj ((show s.vm.findClass _ = some c9 from h1).symm.trans h2)
end CTF
