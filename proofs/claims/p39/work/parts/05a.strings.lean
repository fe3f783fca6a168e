/-! a constant's length and chars: the library's own methods, walked -/
section JDK
variable {p : Program} {l : Launch} {e : Env} {R : Room} {s : State} {m : MethodId} {args : Array Value} {below : List Frame} {meth : Method} {c : Code} {H : Heap} {locs : List Loc} {cells slots : Nat} {Q : State → Prop}
variable {A : Nat → Prop} {ad adV : Nat → Nat}
theorem good_TS' {w : Jvm.Cond} (h : w ∈ TS) : w ∈ TS ∧ ((w.onTables && w.keeps) = true ∨ ∃ ty, w = .arrayClass ty) := ⟨h, good_of_word (TS_good w h)⟩
theorem ts_of' {w : Jvm.Cond} (hts : ∀ w ∈ TS, w.before args s = true) (h : w ∈ lw_tbl) (g : goodWord w = true) : w.before args s = true := hts w (TS_mem h g)
abbrev yLen : MethodName := ⟨"java/lang/String", "length", "()I"⟩
abbrev yCod : MethodName := ⟨"java/lang/String", "coder", "()B"⟩
abbrev yLat : MethodName := ⟨"java/lang/String", "isLatin1", "()Z"⟩
abbrev yChr : MethodName := ⟨"java/lang/String", "charAt", "(I)C"⟩
abbrev yChl : MethodName := ⟨"java/lang/StringLatin1", "charAt", "([BI)C"⟩
abbrev yChk : MethodName := ⟨"java/lang/String", "checkIndex", "(II)V"⟩
abbrev yPck : MethodName := ⟨"jdk/internal/util/Preconditions", "checkIndex", "(IILjava/util/function/BiFunction;)I"⟩
abbrev sfl (k : Nat) (n d : String) : Jvm.Cond := .fieldLink "java/lang/String" k "java/lang/String" n d
/-- the words of it -/
theorem jdk_in : ∀ w ∈ [Jvm.Cond.instanceMethod yLen, .selects yLen.cls yLen yLen, .initialized yLen.cls, .code yLen prog_27_method_54_code 1 (some .int),
    .instanceMethod yCod, .selects yCod.cls yCod yCod, .code yCod prog_27_method_152_code 1 (some .byte), .methodLink "java/lang/String" 335 yCod,
    .instanceMethod yLat, .selects yLat.cls yLat yLat, .code yLat prog_27_method_154_code 1 (some .boolean), .methodLink "java/lang/String" 492 yLat,
    .instanceMethod yChr, .selects yChr.cls yChr yChr, .code yChr prog_27_method_56_code 2 (some .char),
    .static yChl, .initialized yChl.cls, .code yChl prog_29_method_2_code 2 (some .char), .methodLink "java/lang/String" 495 yChl,
    .static yChk, .code yChk prog_27_method_155_code 2 none, .methodLink "java/lang/StringLatin1" 9 yChk,
    .static yPck, .initialized yPck.cls, .code yPck prog_39_method_11_code 3 (some .int), .methodLink "java/lang/String" 1059 yPck,
    sfl 38 "COMPACT_STRINGS" "Z", sfl 9 "value" "[B", sfl 15 "coder" "B",
    .fieldLink "java/lang/String" 1053 "jdk/internal/util/Preconditions" "SIOOBE_FORMATTER" "Ljava/util/function/BiFunction;"], w ∈ lw_tbl := by decide +kernel
def rmJ (d : Nat) : Room := { frames := d, cells := 0, slots := 0, locals := 30 * d }
def JQ (v : Option Value) : Array Value → State → Outcome → State → Prop := fun _ st o t => o = .returned v ∧ t.heap = st.heap
def JC (l : Launch) (A : Nat → Prop) (ad adV : Nat → Nat) (y : MethodName) (bc : ByteArray) (nL : Nat) (ret : Option FieldType) (d : Nat) (as : List Value) (v : Option Value) : Prop :=
  vx_Met l y (Jvm.Cond.code y bc nL ret :: TS) (rmJ d) (va_Pc as (fun U => WX A ad adV U U.heap)) (JQ v) (fun _ _ _ => False) 0 0 (fun _ => False)
theorem jc_of {y : MethodName} {bc : ByteArray} {nL : Nat} {ret : Option FieldType} {d : Nat} {as : List Value} {v : Option Value} (hy : plainName y.cls = true)
    (body : ∀ (p : Program) (e : Env) (R : Room) (s : State) (m : MethodId) (args : Array Value) (below : List Frame) (meth : Method) (c : Code), R = rmJ d → p.tables.exec = Jvm.exec → c.code = bc → c.maxLocals = nL → s.vm.findClass y.cls = some m.cls → (∀ w ∈ TS, w.before args s = true) → meth.locks = false → meth.sig.returnType = ret → WX A ad adV s s.heap →
      W p l e R s m args below meth c s.heap [] 0 0 (vx_MQ below (JQ v) (fun _ _ _ => False) args s 0 0 (fun _ => False)) (F0 m 0 ((lg_sl as ++ List.replicate (nL - (lg_sl as).length) Slot.unset).toArray) [])) : JC l A ad adV y bc nL ret d as v := by
  refine vx_ofW (cc := bc) (maxL := nL) (ret := ret) hy rfl ?_
  intro p e s m args below meth c s₁ B hml htab hv
  obtain ⟨rfl, hWX⟩ := hv
  have hts0 := atoms_spec B.pre
  have hown := findClass_of_methodNamed B.named
  rw [lg_entry_eq]
  exact body p e _ s m _ below meth c rfl B.exec B.bytes hml hown (fun w hw => hts0 w (List.mem_cons_of_mem _ hw)) B.notSynchronized B.returns hWX
theorem jc_blind {as : List Value} : FrameBlind (va_Pc as (fun U => WX A ad adV U U.heap)) := fun a U g mk h =>
  ⟨h.1, WX.warm (s := U) (U := U.calling g mk a) (State.WarmedH.refl U) h.2⟩
theorem jc_pre (hWX : WX A ad adV s s.heap) (hS : va_S A s.heap H locs) {as : List Value} : ∀ U : State, U.heap = H → s.WarmedH U.vm → va_Pc as (fun U => WX A ad adV U U.heap) as.toArray U := by
  intro U hU hW
  refine ⟨rfl, ?_⟩
  show WX A ad adV U U.heap
  rw [hU]
  exact WX.warm hW (hWX.kept hS.2.1)
theorem jc_ran {v : Option Value} {pc : Nat} {ls : Array Slot} {st0 rest : List Value} {a : Array Value} (hr : vx_Run p l e R s m args below meth c H locs cells slots 0 0 (F0 m pc ls st0) rest (JQ v a) (fun _ _ _ => False) (fun _ => False))
    (kk : W p l e R s m args below meth c H locs cells slots Q (F0 m (pc + 3) ls (v.toList ++ rest))) : W p l e R s m args below meth c H locs cells slots Q (F0 m pc ls st0) := by
  intro T hT X
  rcases hr T hT X with ⟨v', st₀, t, T', L, h0, X', hL, e1, e2, hq, st⟩ | ⟨q, st₀, t, T', L, E, ce, h0, X', hL, e1, e2, hxq, -, -, -, st⟩
  · obtain ⟨hv, hh⟩ := hq
    cases hv
    have hn : L = [] := List.eq_nil_iff_forall_not_mem.mpr fun z hz => hL z hz
    subst hn
    rw [List.append_nil] at X'
    obtain ⟨t2, a1, b1⟩ := kk T' (e1.trans (hh.trans h0)) X'
    exact ⟨t2, st t2 a1, b1⟩
  · exact hxq.elim
/-- a call of a virtual method of the library -/
theorem jc_V {y : MethodName} {bc cc : ByteArray} {nL n d x pc : Nat} {ret : Option FieldType} {As rest : List Value} {v : Option Value} {b : Nat} {own : String} {ls : Array Slot} (hM : JC l A ad adV y bc nL ret d (.ref b :: As) v) (hx : p.tables.exec = Jvm.exec) (hts : ∀ w ∈ TS, w.before args s = true) (hb : c.code = cc) (hown : s.vm.findClass own = some m.cls)
    (hWX : WX A ad adV s s.heap) (hS : va_S A s.heap H locs) (hl : ls.size = c.maxLocals) (hlink : (Jvm.Cond.methodLink own x y).before args s = true)
    (h1 : Jvm.Cond.instanceMethod y ∈ lw_tbl) (h2 : Jvm.Cond.selects y.cls y y ∈ lw_tbl) (h3 : Jvm.Cond.initialized y.cls ∈ lw_tbl) (h4 : Jvm.Cond.code y bc nL ret ∈ lw_tbl)
    (hy : y.cls ≠ "java/lang/invoke/MethodHandle" ∧ y.cls ≠ "java/lang/invoke/VarHandle" ∧ (parseMethodDescriptor y.desc).map (fun d => d.parameters.length) = some n) (hn : As.length = n)
    (hR : d + 1 ≤ R.frames ∧ 8 + (nL + 11) + 30 * d ≤ R.locals ∧ cells ≤ R.cells ∧ slots ≤ R.slots) (hr : ∃ cellB : Cell, H[b]? = some cellB ∧ cellB.vm.isStatics = false ∧ s.vm.findClass y.cls = some cellB.cls) (h8 : (rest.map fun v => v.category).sum ≤ 8) (hd : decode cc pc = .ok (.invokevirtual x, 3))
    {st0 : List Value} (hst : st0 = As.reverse ++ .ref b :: rest) (kk : W p l e R s m args below meth c H locs cells slots Q (F0 m (pc + 3) ls (v.toList ++ rest))) : W p l e R s m args below meth c H locs cells slots Q (F0 m pc ls st0) := by
  have hG : GoodIn TS (Jvm.Cond.code y bc nL ret :: TS) := by
    intro w hw
    rcases List.mem_cons.mp hw with rfl | hw
    · exact good_TS' (TS_mem h4 rfl)
    · exact good_TS' hw
  have hcb : CallB R s args own x y bc nL ret (Jvm.Cond.code y bc nL ret :: TS) (rmJ d) 0 0 n := callB_of n hts hG rfl rfl rfl (ts_of' hts h3 rfl) hlink hy ⟨hR.1, hR.2.1⟩
  exact jc_ran (vx_runV (Ts := TS) (C := y.cls) (b := b) (As := As) ⟨hx, hb, rfl, hown, hts⟩ hM ⟨hcb, ts_of' hts h1 rfl, ts_of' hts h2 rfl⟩ ⟨jc_blind, hr, jc_pre hWX hS⟩ rfl hn hl hst (lv_room h8) hd ⟨hR.2.2.1, hR.2.2.2⟩) kk
/-- a call of a static method of the library -/
theorem jc_S {y : MethodName} {bc cc : ByteArray} {nL n d x pc : Nat} {ret : Option FieldType} {As rest : List Value} {v : Option Value} {own : String} {ls : Array Slot} (hM : JC l A ad adV y bc nL ret d As v) (hx : p.tables.exec = Jvm.exec) (hts : ∀ w ∈ TS, w.before args s = true) (hb : c.code = cc) (hown : s.vm.findClass own = some m.cls)
    (hWX : WX A ad adV s s.heap) (hS : va_S A s.heap H locs) (hl : ls.size = c.maxLocals) (hlink : (Jvm.Cond.methodLink own x y).before args s = true)
    (h1 : Jvm.Cond.static y ∈ lw_tbl) (h3 : Jvm.Cond.initialized y.cls ∈ lw_tbl) (h4 : Jvm.Cond.code y bc nL ret ∈ lw_tbl)
    (hy : y.cls ≠ "java/lang/invoke/MethodHandle" ∧ y.cls ≠ "java/lang/invoke/VarHandle" ∧ (parseMethodDescriptor y.desc).map (fun d => d.parameters.length) = some n) (hn : As.length = n)
    (hR : d + 1 ≤ R.frames ∧ 8 + (nL + 11) + 30 * d ≤ R.locals ∧ cells ≤ R.cells ∧ slots ≤ R.slots) (h8 : (rest.map fun v => v.category).sum ≤ 8) (hd : decode cc pc = .ok (.invokestatic x, 3))
    {st0 : List Value} (hst : st0 = As.reverse ++ rest) (kk : W p l e R s m args below meth c H locs cells slots Q (F0 m (pc + 3) ls (v.toList ++ rest))) : W p l e R s m args below meth c H locs cells slots Q (F0 m pc ls st0) := by
  have hG : GoodIn TS (Jvm.Cond.code y bc nL ret :: TS) := by
    intro w hw
    rcases List.mem_cons.mp hw with rfl | hw
    · exact good_TS' (TS_mem h4 rfl)
    · exact good_TS' hw
  have hcb : CallB R s args own x y bc nL ret (Jvm.Cond.code y bc nL ret :: TS) (rmJ d) 0 0 n := callB_of n hts hG rfl rfl rfl (ts_of' hts h3 rfl) hlink hy ⟨hR.1, hR.2.1⟩
  exact jc_ran (vx_runS (Ts := TS) (As := As) ⟨hx, hb, rfl, hown, hts⟩ hM ⟨hcb, ts_of' hts h1 rfl⟩ ⟨jc_blind, jc_pre hWX hS⟩ rfl hn hl hst (lv_room h8) hd ⟨hR.2.2.1, hR.2.2.2⟩) kk
end JDK
