/-! the library's methods of strings: their frames -/
section JBF
variable {p : Program} {l : Launch} {e : Env} {R : Room} {s : State} {m : MethodId} {args : Array Value} {below : List Frame} {meth : Method} {c : Code} {H : Heap} {locs : List Loc} {cells slots : Nat} {Q : State → Prop}
variable {D : va_G} {A B : Nat → Prop} {ad adV : Nat → Nat} {cA : Nat → ClassId}
abbrev RAS : String := "java/lang/AbstractStringBuilder"
abbrev RST : String := "java/lang/String"
/-- the bytes of a text: 0 behind it -/
def chs (L : List Int) : Nat → Int32 := fun i => iI (L.getD i 0)
/-- a string that stands: its address, its array's, its chars -/
def vS (A : Nat → Prop) (z : Nat × Nat × List Int) (U : State) (H : Heap) : Prop :=
  va_O RST z.1 A U H ∧ va_OF RST "coder" "B" (.int (iI 0)) z.1 A U H ∧ va_OF RST "value" "[B" (.ref z.2.1) z.1 A U H ∧ va_T .byte z.2.1 z.2.2.length (fun j => .int (chs z.2.2 j)) A U H ∧ (∀ x ∈ z.2.2, 0 ≤ x ∧ x < 128) ∧ z.2.2.length ≤ 100
theorem va_O.keep {E : String} {t : Nat} {U : State} {H1 : Heap} (h : va_O E t A U H) (hq : ∀ a : Nat, a < H.size → ¬ A a → H1[a]? = H[a]?) : va_O E t A U H1 := by
  obtain ⟨cell, h1, h2, h3, h4⟩ := h
  exact ⟨cell, by rw [hq t (Array.getElem?_eq_some_iff.mp h1).1 h4]; exact h1, h2, h3, h4⟩
theorem vS.kept {z : Nat × Nat × List Int} {U : State} {H1 : Heap} (h : vS A z U H) (hq : ∀ a : Nat, a < H.size → ¬ A a → H1[a]? = H[a]?) : vS A z U H1 := by
  obtain ⟨h1, h2, h3, h4, h5⟩ := h
  exact ⟨h1.keep hq, h2.kept hq, h3.kept hq, h4.kept hq, h5⟩
theorem vS.warm {z : Nat × Nat × List Int} {U : State} (hW : s.WarmedH U.vm) (h : vS A z s H) : vS A z U H := by
  obtain ⟨h1, h2, h3, h4, h5⟩ := h
  exact ⟨va_O.moved hW.alike h1, va_OF.moved hW.alike h2, va_OF.moved hW.alike h3, va_T.moved hW.alike h4, h5⟩
theorem vS.parts {q v : Nat} {L : List Int} {U : State} (h : vS A (q, v, L) U H) : va_O RST q A U H ∧ va_OF RST "coder" "B" (.int (iI 0)) q A U H ∧ va_OF RST "value" "[B" (.ref v) q A U H ∧ va_T .byte v L.length (fun j => .int (chs L j)) A U H ∧ (∀ x ∈ L, 0 ≤ x ∧ x < 128) ∧ L.length ≤ 100 := h
/-- the tables of digits -/
def DG (A : Nat → Prop) (U : State) (H : Heap) : Prop := (∃ t : Nat, va_Z "java/lang/Integer" "DigitTens" "[B" (.ref t) A U H ∧ va_T .byte t 100 dgT A U H) ∧ (∃ t : Nat, va_Z "java/lang/Integer" "DigitOnes" "[B" (.ref t) A U H ∧ va_T .byte t 100 dgO A U H) ∧ PB U
theorem DG.kept {U : State} {H1 : Heap} (h : DG A U H) (hq : ∀ a : Nat, a < H.size → ¬ A a → H1[a]? = H[a]?) : DG A U H1 := by
  obtain ⟨⟨t, a1, a2⟩, ⟨u, b1, b2⟩, hp⟩ := h
  exact ⟨⟨t, a1.kept hq, a2.kept hq⟩, ⟨u, b1.kept hq, b2.kept hq⟩, hp⟩
theorem DG.warm {U : State} (hW : s.WarmedH U.vm) (h : DG A s H) : DG A U H := by
  obtain ⟨⟨t, a1, a2⟩, ⟨u, b1, b2⟩, hp⟩ := h
  exact ⟨⟨t, va_Z.moved hW.alike a1, va_T.moved hW.alike a2⟩, ⟨u, va_Z.moved hW.alike b1, va_T.moved hW.alike b2⟩, hp.warm hW⟩
theorem DG.narrow {U : State} (h : DG A U H) (hAB : ∀ q, B q → A q) : DG B U H := by
  obtain ⟨⟨t, a1, a2⟩, ⟨u, b1, b2⟩, hp⟩ := h
  exact ⟨⟨t, a1.narrow hAB, a2.narrow hAB⟩, ⟨u, b1.narrow hAB, b2.narrow hAB⟩, hp⟩
def IJ (D : va_G) (A : Nat → Prop) (ad adV : Nat → Nat) (cA : Nat → ClassId) (S : List (Nat × Nat × List Int)) (V : va_W) (U : State) : Prop :=
  va_P D cls9 V U.heap ∧ va_K D cls9 (tyL cA) U ∧ va_D A V ∧ WX A ad adV U U.heap ∧ (∀ q, U.heap.size ≤ q → A q) ∧ DG A U U.heap ∧ ∀ z ∈ S, vS A z U U.heap
def JQ9 (D : va_G) (A : Nat → Prop) (G : Option Value → va_W → Prop) : Array Value → State → Outcome → State → Prop := fun _ st o t => ∃ v V', o = .returned v ∧ G v V' ∧ va_P D cls9 V' t.heap ∧ va_D A V' ∧ va_F A st t
def rmB (f mc ms : Nat) : Room := { frames := f, cells := mc, slots := ms, locals := 60 * f }
def JM (l : Launch) (D : va_G) (A : Nat → Prop) (ad adV : Nat → Nat) (cA : Nat → ClassId) (S : List (Nat × Nat × List Int)) (y : MethodName) (bc : ByteArray) (nL : Nat) (ret : Option FieldType) (f mc ms : Nat) (as : List Value) (V : va_W) (G : Option Value → va_W → Prop) : Prop :=
  Met l y (Jvm.Cond.code y bc nL ret :: TS) (rmB f mc ms) (va_Pc as (IJ D A ad adV cA S V)) (JQ9 D A G) mc ms A
theorem IJ_blind {S : List (Nat × Nat × List Int)} {as : List Value} {W : va_W} : FrameBlind (va_Pc as (IJ D A ad adV cA S W)) := fun a U g mk h =>
  ⟨h.1, h.2.1, va_K.moved (u := U) (U := U.calling g mk a) (State.WarmedH.refl U).alike h.2.2.1, h.2.2.2.1, WX.warm (s := U) (U := U.calling g mk a) (State.WarmedH.refl U) h.2.2.2.2.1, h.2.2.2.2.2.1, DG.warm (s := U) (U := U.calling g mk a) (State.WarmedH.refl U) h.2.2.2.2.2.2.1, fun z hz => vS.warm (s := U) (U := U.calling g mk a) (State.WarmedH.refl U) (h.2.2.2.2.2.2.2 z hz)⟩
theorem IJ_pre {S : List (Nat × Nat × List Int)} {W : va_W} (hw : va_P D cls9 W H) (hD : va_D A W) (hK : va_K D cls9 (tyL cA) s) (hWX : WX A ad adV s s.heap) (hA : ∀ q, s.heap.size ≤ q → A q) (hDG : DG A s s.heap) (hSS : ∀ z ∈ S, vS A z s s.heap) (hS : va_S A s.heap H locs) {as : List Value} : ∀ U : State, U.heap = H → s.WarmedH U.vm → va_Pc as (IJ D A ad adV cA S W) as.toArray U := by
  intro U hU hW
  refine ⟨rfl, by rw [hU]; exact hw, va_K.moved hW.alike hK, hD, ?_, fun q hq => hA q (Nat.le_trans hS.1 (by rw [hU] at hq; exact hq)), ?_, ?_⟩
  · rw [hU]
    exact WX.warm hW (hWX.kept hS.2.1)
  · rw [hU]
    exact DG.warm hW (hDG.kept hS.2.1)
  · rw [hU]
    exact fun z hz => vS.warm hW ((hSS z hz).kept hS.2.1)
/-- what a frame of the library's stands on -/
def FJ (own : String) (D : va_G) (A : Nat → Prop) (ad adV : Nat → Nat) (cA : Nat → ClassId) (S : List (Nat × Nat × List Int)) (p : Program) (s : State) (m : MethodId) (args : Array Value) (c : Code) (bc : ByteArray) (nL : Nat) : Prop :=
  p.tables.exec = Jvm.exec ∧ c.code = bc ∧ c.maxLocals = nL ∧ s.vm.findClass own = some m.cls ∧ (∀ w ∈ TS, w.before args s = true) ∧ va_K D cls9 (tyL cA) s ∧ WX A ad adV s s.heap ∧ (∀ q, s.heap.size ≤ q → A q) ∧ DG A s s.heap ∧ ∀ z ∈ S, vS A z s s.heap
theorem jm_of {S : List (Nat × Nat × List Int)} {y : MethodName} {bc : ByteArray} {nL f mc ms : Nat} {ret : Option FieldType} {as : List Value} {V : va_W} {G : Option Value → va_W → Prop} (hy : plainName y.cls = true)
    (body : ∀ (p : Program) (e : Env) (s : State) (m : MethodId) (args : Array Value) (below : List Frame) (meth : Method) (c : Code), FJ y.cls D A ad adV cA S p s m args c bc nL → meth.locks = false → meth.sig.returnType = ret → meth.name = y.name → WV D A s V s.heap [] →
      ∀ ls : Array Slot, lv_has ls nL (lv_args 0 as) → W p l e (rmB f mc ms) s m args below meth c s.heap [] 0 0 (MQ below (JQ9 D A G) args s mc ms A) (F0 m 0 ls [])) (has : (lg_sl as).length ≤ nL) : JM l D A ad adV cA S y bc nL ret f mc ms as V G := by
  refine Met.ofW (cc := bc) (maxL := nL) (ret := ret) hy rfl ?_
  intro p e s m args below meth c s₁ B hml hv
  obtain ⟨rfl, hP, hK, hD, hWX, hA, hDG, hSS⟩ := hv
  have hts0 := atoms_spec B.pre
  have hown := findClass_of_methodNamed B.named
  rw [lg_entry_eq]
  exact body p e s m _ below meth c ⟨B.exec, B.bytes, hml, hown, fun w hw => hts0 w (List.mem_cons_of_mem _ hw), hK, hWX, hA, hDG, hSS⟩ B.notSynchronized B.returns (name_of_methodNamed B.named B.method).1 ⟨hP, hD, va_S.rf⟩ _ (lv_entry as has)
theorem JM.to {S : List (Nat × Nat × List Int)} {y : MethodName} {bc : ByteArray} {nL f mc ms : Nat} {ret : Option FieldType} {as as' : List Value} {V V' : va_W} {G : Option Value → va_W → Prop} (h : JM l D A ad adV cA S y bc nL ret f mc ms as V G) (e1 : as = as') (e2 : V = V') : JM l D A ad adV cA S y bc nL ret f mc ms as' V' G := e1 ▸ e2 ▸ h
theorem jm_ran {mc ms pc : Nat} {ls : Array Slot} {st0 rest : List Value} {a : Array Value} {G : Option Value → va_W → Prop} (hr : va_Run p l e R s m args below meth c H locs cells slots mc ms (F0 m pc ls st0) rest (JQ9 D A G a) A) (hS : va_S A s.heap H locs)
    (kk : ∀ (v : Option Value) (V' : va_W), G v V' → ∀ (H1 : Heap) (locs1 : List Loc), WV D A s V' H1 locs1 → W p l e R s m args below meth c H1 locs1 (cells + mc) (slots + ms) Q (F0 m (pc + 3) ls (v.toList ++ rest))) : W p l e R s m args below meth c H locs cells slots Q (F0 m pc ls st0) := by
  intro T hT X
  obtain ⟨v, st₀, t, T', L, h0, X', hL, e1, e2, ⟨k, V', hv, hGk, hP, hD', hF⟩, st⟩ := hr T hT X
  cases hv
  obtain ⟨k1, k2, k3⟩ := vx_keep (A1 := A) (free := A) h0 e1 hS (fun q _ h => h) (fun _ h => h) hL hF
  obtain ⟨t2, a1, b1⟩ := kk _ V' hGk T'.heap (locs ++ L) ⟨by rw [e1]; exact hP, hD', k3⟩ T' rfl X'
  exact ⟨t2, st t2 a1, b1⟩
theorem good_B {y : MethodName} {bc : ByteArray} {nL : Nat} {ret : Option FieldType} (h4 : Jvm.Cond.code y bc nL ret ∈ lw_tbl) : GoodIn TS (Jvm.Cond.code y bc nL ret :: TS) := by
  intro w hw
  rcases List.mem_cons.mp hw with rfl | hw
  · exact good_TS' (TS_mem h4 rfl)
  · exact good_TS' hw
variable {S : List (Nat × Nat × List Int)} {own : String} {cc : ByteArray} {nL0 : Nat}
/-- a private method is the one that is run, whatever the object's class -/
theorem sel_priv {y : MethodName} {C : String} {n : Nat} (hy : y.cls ≠ "java/lang/invoke/MethodHandle" ∧ y.cls ≠ "java/lang/invoke/VarHandle") (hins : (Cond.instantiable C n).before args s = true) (hpriv : (Cond.privateMethod y).before args s = true) (hinst : (Cond.instanceMethod y).before args s = true) (hsame : (Cond.sameMethod y.cls y.cls y.name y.desc).before args s = true) : (Cond.selects C y y).before args s = true := by
  obtain ⟨c, k, hc, hk, -, hniab, -, -⟩ := Cond.instantiable_spec hins
  obtain ⟨mk, methM, hnamed, hmethM, -, -⟩ := Cond.instanceMethod_spec hinst
  have hfound : s.methodFound? y.cls y.name y.desc = some mk := State.methodFound?_of_named hnamed hy
  obtain ⟨c2, k2, r, hc2, hk2, hni2, -, -⟩ := Cond.sameMethod_found hsame
  have hcls : mk.cls = c2 := Option.some.inj ((findClass_of_methodNamed hnamed).symm.trans hc2)
  have hsel : selectMethod {} s.vm c mk = .method mk := selectMethod_private hmethM (Cond.privateMethod_at hpriv mk methM hnamed hmethM)
  simp only [Cond.before, Cond.holds, Cond.value, hc, hfound, hnamed, hsel, hcls, hk2]
  simp; exact hni2
theorem jm_S {y : MethodName} {bc : ByteArray} {nL n f mc ms x pc : Nat} {ret : Option FieldType} {as rest st0 : List Value} {ls : Array Slot} {V : va_W} {G : Option Value → va_W → Prop} (F : FJ own D A ad adV cA S p s m args c cc nL0) (hw : WV D A s V H locs) (hl : ls.size = nL0) (hM : JM l D A ad adV cA S y bc nL ret f mc ms as V G)
    (hlink : Jvm.Cond.methodLink own x y ∈ lw_tbl) (h1 : Jvm.Cond.static y ∈ lw_tbl) (h3 : Jvm.Cond.initialized y.cls ∈ lw_tbl) (h4 : Jvm.Cond.code y bc nL ret ∈ lw_tbl)
    (hy : y.cls ≠ "java/lang/invoke/MethodHandle" ∧ y.cls ≠ "java/lang/invoke/VarHandle" ∧ (parseMethodDescriptor y.desc).map (fun d => d.parameters.length) = some n) (hn : as.length = n)
    (hR : f + 1 ≤ R.frames ∧ 8 + (nL + 11) + 60 * f ≤ R.locals ∧ cells + mc ≤ R.cells ∧ slots + ms ≤ R.slots) (h8 : (rest.map fun v => v.category).sum ≤ 8) (hd : decode cc pc = .ok (.invokestatic x, 3)) (hst : st0 = as.reverse ++ rest)
    (kk : ∀ (v : Option Value) (V' : va_W), G v V' → ∀ (H1 : Heap) (locs1 : List Loc), WV D A s V' H1 locs1 → W p l e R s m args below meth c H1 locs1 (cells + mc) (slots + ms) Q (F0 m (pc + 3) ls (v.toList ++ rest))) : W p l e R s m args below meth c H locs cells slots Q (F0 m pc ls st0) := by
  obtain ⟨hx, hb, hml, hown, hts, hK, hWX, hA, hDG, hSS⟩ := F
  obtain ⟨hP, hD, hS⟩ := hw
  exact jm_ran (va_runS (own := own) (Ts := TS) (As := as) ⟨hx, hb, rfl, hown, hts⟩ hM ⟨callB_of n hts (good_B h4) rfl rfl rfl (ts_of' hts h3 rfl) (ts_of' hts hlink rfl) hy ⟨hR.1, hR.2.1⟩, ts_of' hts h1 rfl⟩ ⟨IJ_blind, IJ_pre hP hD hK hWX hA hDG hSS hS⟩ rfl hn (hl.trans hml.symm) hst (lv_room h8) hd hR.2.2) hS kk
theorem jm_V {C : String} {y : MethodName} {bc : ByteArray} {nL n f mc ms x pc b : Nat} {ret : Option FieldType} {as rest st0 : List Value} {ls : Array Slot} {V : va_W} {G : Option Value → va_W → Prop} (F : FJ own D A ad adV cA S p s m args c cc nL0) (hw : WV D A s V H locs) (hl : ls.size = nL0) (hM : JM l D A ad adV cA S y bc nL ret f mc ms (.ref b :: as) V G)
    (hr : ∃ cellB : Cell, H[b]? = some cellB ∧ cellB.vm.isStatics = false ∧ s.vm.findClass C = some cellB.cls) (hsel : (Cond.selects C y y).before args s = true)
    (hlink : Jvm.Cond.methodLink own x y ∈ lw_tbl) (h1 : Jvm.Cond.instanceMethod y ∈ lw_tbl) (h3 : Jvm.Cond.initialized y.cls ∈ lw_tbl) (h4 : Jvm.Cond.code y bc nL ret ∈ lw_tbl)
    (hy : y.cls ≠ "java/lang/invoke/MethodHandle" ∧ y.cls ≠ "java/lang/invoke/VarHandle" ∧ (parseMethodDescriptor y.desc).map (fun d => d.parameters.length) = some n) (hn : as.length = n)
    (hR : f + 1 ≤ R.frames ∧ 8 + (nL + 11) + 60 * f ≤ R.locals ∧ cells + mc ≤ R.cells ∧ slots + ms ≤ R.slots) (h8 : (rest.map fun v => v.category).sum ≤ 8) (hd : decode cc pc = .ok (.invokevirtual x, 3)) (hst : st0 = as.reverse ++ .ref b :: rest)
    (kk : ∀ (v : Option Value) (V' : va_W), G v V' → ∀ (H1 : Heap) (locs1 : List Loc), WV D A s V' H1 locs1 → W p l e R s m args below meth c H1 locs1 (cells + mc) (slots + ms) Q (F0 m (pc + 3) ls (v.toList ++ rest))) : W p l e R s m args below meth c H locs cells slots Q (F0 m pc ls st0) := by
  obtain ⟨hx, hb, hml, hown, hts, hK, hWX, hA, hDG, hSS⟩ := F
  obtain ⟨hP, hD, hS⟩ := hw
  exact jm_ran (va_runV (own := own) (C := C) (Ts := TS) (b := b) (As := as) ⟨hx, hb, rfl, hown, hts⟩ hM ⟨callB_of n hts (good_B h4) rfl rfl rfl (ts_of' hts h3 rfl) (ts_of' hts hlink rfl) hy ⟨hR.1, hR.2.1⟩, ts_of' hts h1 rfl, hsel⟩ ⟨IJ_blind, hr, IJ_pre hP hD hK hWX hA hDG hSS hS⟩ rfl hn (hl.trans hml.symm) hst (lv_room h8) hd hR.2.2) hS kk
theorem jm_I {y : MethodName} {bc : ByteArray} {nL n f mc ms x pc b : Nat} {as rest st0 : List Value} {ls : Array Slot} {V : va_W} {G : Option Value → va_W → Prop} (F : FJ own D A ad adV cA S p s m args c cc nL0) (hw : WV D A s V H locs) (hl : ls.size = nL0) (hM : JM l D A ad adV cA S y bc nL none f mc ms (.ref b :: as) V G)
    (hy1 : y.name = "<init>") (hlink : Jvm.Cond.methodLink own x y ∈ lw_tbl) (h1 : Jvm.Cond.instanceMethod y ∈ lw_tbl) (h3 : Jvm.Cond.initialized y.cls ∈ lw_tbl) (h4 : Jvm.Cond.code y bc nL none ∈ lw_tbl)
    (hy : y.cls ≠ "java/lang/invoke/MethodHandle" ∧ y.cls ≠ "java/lang/invoke/VarHandle" ∧ (parseMethodDescriptor y.desc).map (fun d => d.parameters.length) = some n) (hn : as.length = n)
    (hR : f + 1 ≤ R.frames ∧ 8 + (nL + 11) + 60 * f ≤ R.locals ∧ cells + mc ≤ R.cells ∧ slots + ms ≤ R.slots) (h8 : (rest.map fun v => v.category).sum ≤ 8) (hd : decode cc pc = .ok (.invokespecial x, 3)) (hst : st0 = as.reverse ++ .ref b :: rest)
    (kk : ∀ (v : Option Value) (V' : va_W), G v V' → ∀ (H1 : Heap) (locs1 : List Loc), WV D A s V' H1 locs1 → W p l e R s m args below meth c H1 locs1 (cells + mc) (slots + ms) Q (F0 m (pc + 3) ls (v.toList ++ rest))) : W p l e R s m args below meth c H locs cells slots Q (F0 m pc ls st0) := by
  obtain ⟨hx, hb, hml, hown, hts, hK, hWX, hA, hDG, hSS⟩ := F
  obtain ⟨hP, hD, hS⟩ := hw
  exact jm_ran (va_runI (own := own) (Ts := TS) (b := b) (As := as) ⟨hx, hb, rfl, hown, hts⟩ hM ⟨callB_of n hts (good_B h4) rfl rfl rfl (ts_of' hts h3 rfl) (ts_of' hts hlink rfl) hy ⟨hR.1, hR.2.1⟩, hy1, ts_of' hts h1 rfl⟩ ⟨IJ_blind, IJ_pre hP hD hK hWX hA hDG hSS hS⟩ rfl hn (hl.trans hml.symm) hst (lv_room h8) hd hR.2.2) hS kk
/-- the superclass's own method, on a builder -/
theorem jm_SU {y : MethodName} {bc : ByteArray} {nL n f mc ms x pc b k : Nat} {ret : Option FieldType} {fs as rest st0 : List Value} {ls : Array Slot} {V : va_W} {G : Option Value → va_W → Prop} (F : FJ own D A ad adV cA S p s m args c cc nL0) (hw : WV D A s V H locs) (hl : ls.size = nL0) (hM : JM l D A ad adV cA S y bc nL ret f mc ms (.ref b :: as) V G)
    (hk : V[k]? = some (b, .inr (8, fs))) (hsup : Jvm.Cond.superclass own y.cls ∈ lw_tbl) (hsame : Jvm.Cond.sameMethod y.cls y.cls y.name y.desc ∈ lw_tbl) (hlink : Jvm.Cond.methodLink own x y ∈ lw_tbl) (h1 : Jvm.Cond.instanceMethod y ∈ lw_tbl) (h3 : Jvm.Cond.initialized y.cls ∈ lw_tbl) (h4 : Jvm.Cond.code y bc nL ret ∈ lw_tbl)
    (hy : y.name ≠ "<init>" ∧ (parseMethodDescriptor y.desc).map (fun d => d.parameters.length) = some n) (hn : as.length = n)
    (hR : f + 1 ≤ R.frames ∧ 8 + (nL + 11) + 60 * f ≤ R.locals ∧ cells + mc ≤ R.cells ∧ slots + ms ≤ R.slots) (h8 : (rest.map fun v => v.category).sum ≤ 8) (hd : decode cc pc = .ok (.invokespecial x, 3)) (hst : st0 = as.reverse ++ .ref b :: rest)
    (kk : ∀ (v : Option Value) (V' : va_W), G v V' → ∀ (H1 : Heap) (locs1 : List Loc), WV D A s V' H1 locs1 → W p l e R s m args below meth c H1 locs1 (cells + mc) (slots + ms) Q (F0 m (pc + 3) ls (v.toList ++ rest))) : W p l e R s m args below meth c H locs cells slots Q (F0 m pc ls st0) := by
  obtain ⟨hx, hb, hml, hown, hts, hK, hWX, hA, hDG, hSS⟩ := F
  obtain ⟨hP, hD, hS⟩ := hw
  have hG := good_B h4
  have hr := va_recv (q := (RX9b, TX9b, 4)) hK hP rfl hk
  refine jm_ran (va_runSU (own := own) (C := RX9b) (cC := D.1 8) (Ts := TS) (b := b) (As := as) (hK.1 8 _ rfl).2 ⟨hx, hb, rfl, hown, hts⟩ hM ⟨⟨rfl, rfl, hR.1, hR.2.1, pay_in hts hG, List.mem_cons_self⟩, ts_of' hts hlink rfl, ts_of' hts hsame rfl, ts_of' hts hsup rfl, ts_of' hts h1 rfl, ts_of' hts h3 rfl, hts _ (hG _ List.mem_cons_self).1, hy.1, fun sig h => ?_⟩ ⟨IJ_blind, hr, IJ_pre hP hD hK hWX hA hDG hSS hS⟩ rfl hn (hl.trans hml.symm) hst (lv_room h8) hd hR.2.2) hS kk
  have h2 := hy.2
  rw [h] at h2
  exact (Option.some.inj h2).symm
/-- the fields of a builder -/
theorem uw_B {c : Nat} (h : c = 8 ∨ c = 9) : ∀ w ∈ u_ws (cls9.getD c (RX0, TX0, 0)).1 (cls9.getD c (RX0, TX0, 0)).2.1 (cls9.getD c (RX0, TX0, 0)).2.2, w ∈ TS := by
  have h1 : ∀ w ∈ u_ws RX9b TX9b 4 ++ u_ws RX9s TX9s 4, w ∈ lw_tbl := by decide +kernel
  have h2 : ∀ w ∈ u_ws RX9b TX9b 4 ++ u_ws RX9s TX9s 4, goodWord w = true := by decide +kernel
  rcases h with rfl | rfl
  · exact fun w hw => TS_mem (h1 w (List.mem_append_left _ hw)) (h2 w (List.mem_append_left _ hw))
  · exact fun w hw => TS_mem (h1 w (List.mem_append_right _ hw)) (h2 w (List.mem_append_right _ hw))
def ty9b : Nat → FieldType := fun k => (parseFieldDescriptor (TX9b k).2.2.1).getD .int
def ty9s : Nat → FieldType := fun k => (parseFieldDescriptor (TX9s k).2.2.1).getD .int
theorem ty9b_ok : ∀ k, k < 4 → parseFieldDescriptor (TX9b k).2.2.1 = some (ty9b k) := by decide +kernel
theorem ty9s_ok : ∀ k, k < 4 → parseFieldDescriptor (TX9s k).2.2.1 = some (ty9s k) := by decide +kernel
theorem nm9b : ∀ a, a < 4 → ∀ b, b < 4 → a ≠ b → (TX9b a).2.1 ≠ (TX9b b).2.1 := by decide +kernel
theorem nm9s : ∀ a, a < 4 → ∀ b, b < 4 → a ≠ b → (TX9s a).2.1 ≠ (TX9s b).2.1 := by decide +kernel
theorem jb_get {k i b idx pc : Nat} {fs rest : List Value} {v : Value} {ls : Array Slot} {V : va_W} (F : FJ own D A ad adV cA S p s m args c cc nL0) (hw : WV D A s V H locs) (hk : V[k]? = some (b, .inr (8, fs))) (hi : i < 4) (hv : fs[i]? = some v) (hl : Jvm.Cond.fieldLink own idx (TX9b i).1 (TX9b i).2.1 (TX9b i).2.2.1 ∈ lw_tbl) (hd : decode cc pc = .ok (.getfield idx, 3))
    (kk : W p l e R s m args below meth c H locs cells slots Q (F0 m (pc + 3) ls (v :: rest))) : W p l e R s m args below meth c H locs cells slots Q (F0 m pc ls (.ref b :: rest)) :=
  va_get (D := D) (ci := 8) (v := v) (C := RX9b) (T := TX9b) (N := 4) F.1 F.2.1 F.2.2.2.2.1 (uw_B (Or.inl rfl)) F.2.2.2.1 F.2.2.2.2.2.1 hw.1 k hk rfl i hi (ts_of' F.2.2.2.2.1 hl rfl) (fun _ h9 => h9) hv hd kk
theorem jb_put {k i b idx pc : Nat} {fs rest : List Value} {v : Value} {ty : FieldType} {ls : Array Slot} {V : va_W} (F : FJ own D A ad adV cA S p s m args c cc nL0) (hw : WV D A s V H locs) (hk : V[k]? = some (b, .inr (8, fs))) (hi : i < 4) (hfin : (TX9b i).2.2.2 = false) (hty : parseFieldDescriptor (TX9b i).2.2.1 = some ty) (hn : narrow ty v = v) (hfit : fits ty v = true) (hlen : i < fs.length) (hl : Jvm.Cond.fieldLink own idx (TX9b i).1 (TX9b i).2.1 (TX9b i).2.2.1 ∈ lw_tbl) (hd : decode cc pc = .ok (.putfield idx, 3))
    (kk : ∀ (H1 : Heap) (locs1 : List Loc), WV D A s (V.set k (b, .inr (8, fs.set i v))) H1 locs1 → W p l e R s m args below meth c H1 locs1 cells slots Q (F0 m (pc + 3) ls rest)) : W p l e R s m args below meth c H locs cells slots Q (F0 m pc ls (v :: .ref b :: rest)) :=
  va_put (D := D) (ci := 8) (v := v) (C := RX9b) (T := TX9b) (N := 4) F.1 F.2.1 F.2.2.2.2.1 (uw_B (Or.inl rfl)) ty9b ty9b_ok nm9b F.2.2.2.1 F.2.2.2.2.2.1 hw.1 hw.2.1 hw.2.2 k hk rfl i hi (ts_of' F.2.2.2.2.1 hl rfl) (fun _ h9 => h9) hfin hty hn hfit hlen hd (fun H1 locs1 a1 a2 a3 => kk H1 locs1 ⟨a1, a2, a3⟩)
theorem js_putF {k i b idx pc : Nat} {fs rest : List Value} {v : Value} {ty : FieldType} {ls : Array Slot} {V : va_W} (F : FJ RST D A ad adV cA S p s m args c cc nL0) (hw : WV D A s V H locs) (hk : V[k]? = some (b, .inr (9, fs))) (hi : i < 4) (hmn : meth.name = "<init>") (hfin : (TX9s i).2.2.2 = true) (hdecl : (TX9s i).1 = RST) (hty : parseFieldDescriptor (TX9s i).2.2.1 = some ty) (hn : narrow ty v = v) (hfit : fits ty v = true) (hlen : i < fs.length) (hl : Jvm.Cond.fieldLink RST idx (TX9s i).1 (TX9s i).2.1 (TX9s i).2.2.1 ∈ lw_tbl) (hd : decode cc pc = .ok (.putfield idx, 3))
    (kk : ∀ (H1 : Heap) (locs1 : List Loc), WV D A s (V.set k (b, .inr (9, fs.set i v))) H1 locs1 → W p l e R s m args below meth c H1 locs1 cells slots Q (F0 m (pc + 3) ls rest)) : W p l e R s m args below meth c H locs cells slots Q (F0 m pc ls (v :: .ref b :: rest)) :=
  va_putF (D := D) (ci := 9) (v := v) (C := RX9s) (T := TX9s) (N := 4) F.1 F.2.1 F.2.2.2.2.1 (uw_B (Or.inr rfl)) ty9s ty9s_ok nm9s F.2.2.2.1 F.2.2.2.2.2.1 hw.1 hw.2.1 hw.2.2 k hk rfl i hi (ts_of' F.2.2.2.2.1 hl rfl) (fun _ h9 => h9) hfin hmn hdecl hty hn hfit hlen hd (fun H1 locs1 a1 a2 a3 => kk H1 locs1 ⟨a1, a2, a3⟩)
/-- String.COMPACT_STRINGS is 1 -/
theorem jb_cs {idx pc : Nat} {rest : List Value} {ls : Array Slot} {V : va_W} (F : FJ own D A ad adV cA S p s m args c cc nL0) (hw : WV D A s V H locs) (hl : Jvm.Cond.fieldLink own idx RST "COMPACT_STRINGS" "Z" ∈ lw_tbl) (hd : decode cc pc = .ok (.getstatic idx, 3))
    (kk : W p l e R s m args below meth c H locs cells slots Q (F0 m (pc + 3) ls (.int (iI 1) :: rest))) : W p l e R s m args below meth c H locs cells slots Q (F0 m pc ls rest) :=
  va_gets (C := RST) (ref := RST) F.1 F.2.1 F.2.2.2.2.2.2.1.2.2.2.1 hw.2.2 F.2.2.2.1 (ts_of' F.2.2.2.2.1 hl rfl) (fun _ h => h) hd kk
/-- an array's length, a new array of bytes -/
theorem jb_alen {k a n pc : Nat} {f : Nat → Int32} {rest : List Value} {ls : Array Slot} {V : va_W} (F : FJ own D A ad adV cA S p s m args c cc nL0) (hw : WV D A s V H locs) (hk : V[k]? = some (a, .inl (cA 4, n, .inl f))) (hd : decode cc pc = .ok (.arraylength, 1))
    (kk : W p l e R s m args below meth c H locs cells slots Q (F0 m (pc + 1) ls (.int (iI (n : Int)) :: rest))) : W p l e R s m args below meth c H locs cells slots Q (F0 m pc ls (.ref a :: rest)) :=
  va_alen F.1 F.2.1 F.2.2.2.2.2.1 hw.1 k 4 hk rfl (v := iI (n : Int)) (iI_nI n).symm hd kk
theorem jb_newb {N pc : Nat} {z : Int} {rest : List Value} {ls : Array Slot} {V : va_W} (F : FJ own D A ad adV cA S p s m args c cc nL0) (hw : WV D A s V H locs) (hz : z = (N : Int)) (hN : N ≤ 1000) (hc : cells + 1 ≤ R.cells) (hs : slots + N ≤ R.slots) (hd : decode cc pc = .ok (.newarray .byte, 2))
    (kk : ∀ (q : Nat) (H1 : Heap), WV D A s (V ++ [(q, .inl (cA 4, N, .inl (fun _ => 0)))]) H1 locs → W p l e R s m args below meth c H1 locs (cells + 1) (slots + N) Q (F0 m (pc + 2) ls (.ref q :: rest))) : W p l e R s m args below meth c H locs cells slots Q (F0 m pc ls (.int (iI z) :: rest)) := by
  subst hz
  have h1 := iI_clamp (z := (N : Int)) ⟨by omega, by omega⟩
  refine va_newa (atype := .byte) (ty := .byte) (N' := N) (a0 := (N, .inl (fun _ => 0))) F.1 F.2.1 (ts_of' F.2.2.2.2.1 (show Jvm.Cond.arrayClass .byte ∈ lw_tbl by decide +kernel) rfl) rfl F.2.2.2.2.2.1 hw.1 hw.2.1 hw.2.2 F.2.2.2.2.2.2.2.1 (fun c9 => rfl) h1.2 (by rw [h1.1]; omega) (by show N * _ ≤ _; simp [componentBytes]; omega) hc hs hd (fun q c9 H1 k1 k2 k3 k4 => ?_)
  have e9 := cA_same (t := 4) F.2.2.2.2.2.1 rfl (by intro C h; cases h) k1
  subst e9
  exact kk q H1 ⟨k2, k3, k4⟩
/-- ends -/
theorem jm_zret {G : Option Value → va_W → Prop} {mc ms pc : Nat} {ls : Array Slot} {V : va_W} {ty : FieldType} {x : Int32} (F : FJ own D A ad adV cA S p s m args c cc nL0) (hlk : meth.locks = false) (hr : meth.sig.returnType = some ty) (hw : WV D A s V H locs) (hn : narrow ty (.int x) = .int x) (hG : G (some (.int x)) V) (hc : cells ≤ mc) (hs : slots ≤ ms) (hd : decode cc pc = .ok (.ireturn, 1)) : W p l e R s m args below meth c H locs cells slots (MQ below (JQ9 D A G) args s mc ms A) (F0 m pc ls [.int x]) :=
  W.widen hc hs (W.zret F.1 F.2.1 hr hn (fun t ht hW => ⟨_, V, rfl, hG, by rw [ht]; exact hw.1, hw.2.1, hw.2.2.F ht⟩) hw.2.2.2.2 hd hlk)
theorem jm_vret {G : Option Value → va_W → Prop} {mc ms pc : Nat} {ls : Array Slot} {V : va_W} (F : FJ own D A ad adV cA S p s m args c cc nL0) (hlk : meth.locks = false) (hr : meth.sig.returnType = none) (hw : WV D A s V H locs) (hG : G none V) (hc : cells ≤ mc) (hs : slots ≤ ms) (hd : decode cc pc = .ok (.return_, 1)) : W p l e R s m args below meth c H locs cells slots (MQ below (JQ9 D A G) args s mc ms A) (F0 m pc ls []) :=
  W.widen hc hs (W.vret F.1 F.2.1 hr (fun t ht hW => ⟨_, V, rfl, hG, by rw [ht]; exact hw.1, hw.2.1, hw.2.2.F ht⟩) hw.2.2.2.2 hd hlk)
theorem jm_aret {G : Option Value → va_W → Prop} {mc ms pc x : Nat} {ls : Array Slot} {V : va_W} {ty : FieldType} (hty : (∃ C, ty = .object C) ∨ (∃ C, ty = .array C)) (F : FJ own D A ad adV cA S p s m args c cc nL0) (hlk : meth.locks = false) (hr : meth.sig.returnType = some ty) (hw : WV D A s V H locs) (hG : G (some (.ref x)) V) (hc : cells ≤ mc) (hs : slots ≤ ms) (hd : decode cc pc = .ok (.areturn, 1)) : W p l e R s m args below meth c H locs cells slots (MQ below (JQ9 D A G) args s mc ms A) (F0 m pc ls [.ref x]) :=
  W.widen hc hs (W.aret F.1 F.2.1 hr hty (Or.inr ⟨x, rfl⟩) (fun t ht hW => ⟨_, V, rfl, hG, by rw [ht]; exact hw.1, hw.2.1, hw.2.2.F ht⟩) hw.2.2.2.2 hd hlk)
/-- chars of ASCII -/
theorem asc : ∀ n : Nat, n < 128 → (((iI (n : Int) &&& 255).toUInt32 % 65536).toInt32 = iI (n : Int) ∧ vp_nar .char (iI (n : Int)) = iI (n : Int) ∧ vp_nar .byte (iI (n : Int)) = iI (n : Int) ∧ (iI (n : Int)).toInt8.toInt32 = iI (n : Int) ∧ fits .byte (.int (iI (n : Int))) = true) := by decide +kernel
theorem asc' {x : Int} (h : 0 ≤ x ∧ x < 128) : ((iI x &&& 255).toUInt32 % 65536).toInt32 = iI x ∧ vp_nar .char (iI x) = iI x ∧ vp_nar .byte (iI x) = iI x ∧ (iI x).toInt8.toInt32 = iI x ∧ fits .byte (.int (iI x)) = true := by
  obtain ⟨n, rfl⟩ := Int.eq_ofNat_of_zero_le h.1
  exact asc n (by omega)
theorem getD_in {L : List Int} {k : Nat} (h : k < L.length) : L.getD k 0 ∈ L := by
  rw [List.getD_eq_getElem?_getD, List.getElem?_eq_getElem h]
  exact List.getElem_mem h
end JBF
