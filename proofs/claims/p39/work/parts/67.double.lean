/-! the calls of doubles, class side -/
section DBL
variable {p : Program} {l : Launch} {e : Env} {R : Room} {s : State} {m : MethodId} {args : Array Value} {below : List Frame} {meth : Method} {c : Code} {H : Heap} {locs : List Loc} {cells slots : Nat} {Q : State → Prop}
variable {D : va_G} {A : Nat → Prop} {ad adV : Nat → Nat} {cA : Nat → ClassId}
def AEx : String := "java/lang/ArithmeticException"
def DC (l : Launch) (D : va_G) (A : Nat → Prop) (ad adV : Nat → Nat) (cA : Nat → ClassId) (y : MethodName) (bc : ByteArray) (nL : Nat) (ret : FieldType) (as : List Value) (V : va_W) (G : Value → va_W → Prop) (XE : Prop) : Prop :=
  vx_Met l y (Jvm.Cond.code y bc nL (some ret) :: TS) { frames := 14, cells := 1, slots := 6, locals := 900 } (va_Pc as (IL D A ad adV cA V)) (fun _ st o t => ∃ v V', o = .returned (some v) ∧ G v V' ∧ va_P D cls9 V' t.heap ∧ va_D A V' ∧ va_F A st t) (fun E st t => (XE ∧ E = AEx) ∧ va_P D cls9 V t.heap ∧ va_F A st t) 1 6 A
theorem dc_of {y : MethodName} {bc : ByteArray} {nL : Nat} {ret : FieldType} {as : List Value} {V : va_W} {G : Value → va_W → Prop} {XE : Prop} (hy : plainName y.cls = true)
    (body : ∀ (p : Program) (e : Env) (R : Room) (s : State) (m : MethodId) (args : Array Value) (below : List Frame) (meth : Method) (c : Code), R = { frames := 14, cells := 1, slots := 6, locals := 900 } → p.tables.exec = Jvm.exec → c.code = bc → c.maxLocals = nL → s.vm.findClass y.cls = some m.cls → (∀ w ∈ TS, w.before args s = true) → meth.locks = false → meth.sig.returnType = some ret → (∀ x ∈ c.exceptionTable.toList, False) → IL D A ad adV cA V s →
      ∀ ls : Array Slot, lv_has ls nL (lv_args 0 as) → W p l e R s m args below meth c s.heap [] 0 0 (vx_MQ below (fun _ st o t => ∃ v V', o = .returned (some v) ∧ G v V' ∧ va_P D cls9 V' t.heap ∧ va_D A V' ∧ va_F A st t) (fun E st t => (XE ∧ E = AEx) ∧ va_P D cls9 V t.heap ∧ va_F A st t) args s 1 6 A) (F0 m 0 ls [])) (has : (lg_sl as).length ≤ nL) : DC l D A ad adV cA y bc nL ret as V G XE := by
  refine vx_ofW (cc := bc) (maxL := nL) (ret := some ret) hy rfl ?_
  intro p e s m args below meth c s₁ B hml htab hv
  obtain ⟨rfl, hI⟩ := hv
  have hts0 := atoms_spec B.pre
  have hown := findClass_of_methodNamed B.named
  rw [lg_entry_eq]
  exact body p e _ s m _ below meth c rfl B.exec B.bytes hml hown (fun w hw => hts0 w (List.mem_cons_of_mem _ hw)) B.notSynchronized B.returns htab hI _ (lv_entry as has)
def dW : List Jvm.Cond := [.methodLink RX7 147 (mY m5_total), .methodLink RX7 276 (mY m5_sumOf), .classLink RX7 292 AEx, .methodLink RX7 294 ⟨AEx, "<init>", "()V"⟩]
theorem dW_in : ∀ w ∈ dW, w ∈ lw_tbl := by decide +kernel
theorem dw (k : Nat) {w : Jvm.Cond} (h : dW[k]? = some w) : w ∈ lw_tbl := dW_in w (List.mem_of_getElem? h)
theorem dX_ok : xchk 7 (292, 294, AEx, 961) = true := by decide +kernel
def dFL : List Jvm.Cond := [Jvm.Cond.fieldLink RX7 12 RX7 (TX7 0).2.1 (TX7 0).2.2.1, .instanceMethod (mY m5_total), .selects (mY m5_total).cls (mY m5_total) (mY m5_total), .instanceMethod (mY m5_sumOf), .selects (mY m5_sumOf).cls (mY m5_sumOf) (mY m5_sumOf)]
theorem dF_in : ∀ w ∈ dFL, w ∈ lw_tbl := by decide +kernel
theorem df (k : Nat) {w : Jvm.Cond} (h : dFL[k]? = some w) : w ∈ lw_tbl := dF_in w (List.mem_of_getElem? h)
set_option maxHeartbeats 2000000 in
theorem dc_mean (hl0 : l.stackTraces = false) {τ : SZ} {X : va_W} {N : Nat} (hN : cel (τ 4) 107 = (N : Int)) (h8 : N ≤ 8) (hB : Bd (τ 4)) : DC l D A ad adV cA yX7_meanJumps cX7_meanJumps 2 .double [.ref (ad 0)] (wO ad cA (sz τ) ++ X) (fun v V' => ¬ N = 0 ∧ v = .double (FP.ddiv (FP.i2d (iI (sm (fun k => cel (τ 4) (0 + (k : Int) * 6 + 4)) N))) (FP.i2d (iI (N : Int)))) ∧ V' = wO ad cA (sz τ) ++ X) (N = 0) := by
  refine dc_of (by decide) ?_ (Nat.le_of_ble_eq_true rfl)
  rintro p e R s m args below meth c rfl hx hb hml hown hts hlk hrt htab ⟨hP, hK, hD, hWX, hA, hNC, hJ⟩ ls hl
  have hl : lv_has ls 2 [(0, .ref (ad 0))] := hl
  have hS : va_S A s.heap s.heap [] := va_S.rf
  have hown : s.vm.findClass RX7 = some m.cls := hown
  have t1 : RR 2 m5_total [.inl 1, .inr 7] (sz τ) (.inl (some (.inr (iI (N : Int))), sz τ)) := by
    have h := RZ_ok _ _ _ _ _ (s_total (ρ := 1) (a := 4) (w := 7) (τ := τ) (Or.inl ⟨rfl, rfl⟩) ⟨by omega, by omega⟩)
    rw [show (100 : Int) + 7 = 107 from rfl, hN] at h
    exact h
  have t2 : RR 3 m5_sumOf [.inl 1, .inr 4] (sz τ) (.inl (some (.inr (iI (sm (fun k => cel (τ 4) (0 + (k : Int) * 6 + 4)) N))), sz τ)) :=
    RZ_ok _ _ _ _ _ (s_sumOf (ρ := 1) (a := 4) (w := 4) (τ := τ) (Or.inl ⟨rfl, rfl⟩) hN h8 ⟨by omega, by omega⟩ hB)
  refine lv_aload_n hx hb (k := 0) (i := 0) (x := ad 0) (by decide +kernel) rfl (lv_at hl 0 rfl) ?_
  refine va_get (D := D) (ci := 7) (v := .ref (ad 1)) (C := RX7) (T := TX7) (N := 12) hx hb hts (c_uws (c := 7) (by decide)) hown hK hP 0 (ap_l (wO_get (k := 0) rfl)) rfl 0 (by decide) (ts_of hts (df 0 rfl) rfl) (fun _ h9 => h9) rfl (by decide +kernel) ?_
  refine lv_bipush hx hb (n := 7) (v := 7) (by decide +kernel) rfl ?_
  refine lcall (d := 2) (j := m5_total) (a := 1) (as := [.inr 7]) (X := X) (own := RX7) (x := 147) (rest := []) hl0 t1 (by decide) rfl rfl hx hts hb hown hP hD hK hWX hA hS (hl.1.trans hml.symm) (dw 0 rfl) (df 1 rfl) (df 2 rfl) ⟨by decide, by decide, by decide +kernel, by decide +kernel⟩ (by decide) (by decide +kernel) rfl (fun E τ e => by cases e) (fun v τ9 e H locs hP hS => ?_)
  cases e
  refine W.widen (k := 0) (n := 0) (by decide +kernel) (by decide +kernel) ?_
  refine W.eq (g2 := F0 m 9 ls [.int (iI (N : Int))]) rfl ?_
  refine lv_istore_n hx hb (k := 1) (i := 1) (lv' := [(1, .int (iI (N : Int))), (0, .ref (ad 0))]) (by decide +kernel) rfl hl (by decide) rfl (fun ls hl => ?_)
  refine lv_iload_n hx hb (k := 1) (i := 1) (x := iI (N : Int)) (by decide +kernel) rfl (lv_at hl 0 rfl) ?_
  refine lv_if_ne hx hb (off := 11) (tgt := 22) (by decide +kernel) (by decide) (fun hz => ?_) (fun hz => ?_)
  · have hN0 : ¬ N = 0 := fun h => hz (by subst h; rfl)
    refine lv_aload_n hx hb (k := 0) (i := 0) (x := ad 0) (by decide +kernel) rfl (lv_at hl 1 rfl) ?_
    refine va_get (D := D) (ci := 7) (v := .ref (ad 1)) (C := RX7) (T := TX7) (N := 12) hx hb hts (c_uws (c := 7) (by decide)) hown hK hP 0 (ap_l (wO_get (k := 0) rfl)) rfl 0 (by decide) (ts_of hts (df 0 rfl) rfl) (fun _ h9 => h9) rfl (by decide +kernel) ?_
    refine lv_iconst hx hb (n := 4) (v := 4) (by decide +kernel) rfl ?_
    refine lcall (d := 3) (j := m5_sumOf) (a := 1) (as := [.inr 4]) (X := X) (own := RX7) (x := 276) (rest := []) hl0 t2 (by decide) rfl rfl hx hts hb hown hP hD hK hWX hA hS (hl.1.trans hml.symm) (dw 1 rfl) (df 3 rfl) (df 4 rfl) ⟨by decide, by decide, by decide +kernel, by decide +kernel⟩ (by decide) (by decide +kernel) rfl (fun E τ e => by cases e) (fun v τ9 e H locs hP hS => ?_)
    cases e
    refine W.widen (k := 1) (n := 6) (by decide +kernel) (by decide +kernel) ?_
    refine W.eq (g2 := F0 m 30 ls [.int (iI (sm (fun k => cel (τ 4) (0 + (k : Int) * 6 + 4)) N))]) rfl ?_
    refine lv_i2d hx hb (by decide +kernel) ?_
    refine lv_iload_n hx hb (k := 1) (i := 1) (x := iI (N : Int)) (by decide +kernel) rfl (lv_at hl 0 rfl) ?_
    refine lv_i2d hx hb (by decide +kernel) ?_
    refine lv_ddiv hx hb (by decide +kernel) (Jvm.Free.Fl.ddiv_out (Jvm.Free.Fl.i2d_fin _).noNaN (Jvm.Free.Fl.i2d_fin _) (Jvm.Free.Fl.i2d_nz hz)) ?_
    exact vx_ret (W.dret hx hb hrt (fun t ht hW => ⟨_, _, rfl, ⟨hN0, rfl, rfl⟩, by rw [ht]; exact hP, hD, hS.F ht⟩) hS.2.2 (by decide +kernel) hlk)
  · have hN0 : N = 0 := by
      have h9 := congrArg Int32.toInt hz
      rw [iI_toInt ⟨by omega, by omega⟩, show (0 : Int32).toInt = 0 from rfl] at h9
      omega
    have g := dX_ok
    simp only [xchk, Bool.and_eq_true, decide_eq_true_eq] at g
    obtain ⟨g1, g2, g3, g4, g5⟩ := g
    refine vx_throw0 (own := RX7) (cls := AEx) (names := exN) (ik := 292) (ic := 294) (A := A) hx hb hl0 hown g3 (fun n hn => List.all_eq_true.mp g4 n hn) (ts_of hts (dw 2 rfl) rfl) (ts_of hts g2 rfl) ?_ ?_ hWX.1.1 hWX.1.2 hS (hl.1.trans hml.symm) (by decide +kernel) (by decide +kernel) (by decide +kernel) (by decide +kernel) (fun x hx9 => (htab x hx9).elim) (by decide +kernel) (by decide +kernel) (by decide +kernel) (by decide +kernel) hlk (fun t ht h1 h2 => ⟨⟨hN0, rfl⟩, hP.kept fun k q hq => h2 q.1 ((hP k q hq).lt), Nat.le_trans hS.1 h1, fun q hq hA9 => (h2 q (Nat.lt_of_lt_of_le hq hS.1)).trans (hS.2.1 q hq hA9)⟩) hS.2.2 (by decide) (by decide)
    · intro w hw9
      have h1 := List.all_eq_true.mp g5 w hw9
      simp only [Bool.and_eq_true, Bool.or_eq_true, decide_eq_true_eq] at h1
      rcases h1.2.1 with h2 | h2
      · exact ts_of hts h1.1 h2
      · exact va_Nw.use (wrm_tab h2) (hWX.2.1 w h1.1 h2)
    · intro w hw9
      rcases List.mem_cons.mp hw9 with rfl | hw9
      · rfl
      · rcases List.mem_cons.mp hw9 with rfl | hw9
        · rfl
        · have h1 := List.all_eq_true.mp g5 w hw9
          simp only [Bool.and_eq_true] at h1
          exact h1.2.2
set_option maxHeartbeats 2000000 in
theorem dc_king (hl0 : l.stackTraces = false) {τ : SZ} {X : va_W} {N : Nat} (hN : cel (τ 4) 107 = (N : Int)) (h8 : N ≤ 8) (hB : Bd (τ 4)) : DC l D A ad adV cA yX7_kingShare cX7_kingShare 2 .float [.ref (ad 0)] (wO ad cA (sz τ) ++ X) (fun v V' => ¬ N = 0 ∧ v = .float (FP.fdiv (FP.i2f (iI (sm (fun k => cel (τ 4) (0 + (k : Int) * 6 + 3)) N))) (FP.i2f (iI (N : Int)))) ∧ V' = wO ad cA (sz τ) ++ X) (N = 0) := by
  refine dc_of (by decide) ?_ (Nat.le_of_ble_eq_true rfl)
  rintro p e R s m args below meth c rfl hx hb hml hown hts hlk hrt htab ⟨hP, hK, hD, hWX, hA, hNC, hJ⟩ ls hl
  have hl : lv_has ls 2 [(0, .ref (ad 0))] := hl
  have hS : va_S A s.heap s.heap [] := va_S.rf
  have hown : s.vm.findClass RX7 = some m.cls := hown
  have t1 : RR 2 m5_total [.inl 1, .inr 7] (sz τ) (.inl (some (.inr (iI (N : Int))), sz τ)) := by
    have h := RZ_ok _ _ _ _ _ (s_total (ρ := 1) (a := 4) (w := 7) (τ := τ) (Or.inl ⟨rfl, rfl⟩) ⟨by omega, by omega⟩)
    rw [show (100 : Int) + 7 = 107 from rfl, hN] at h
    exact h
  have t2 : RR 3 m5_sumOf [.inl 1, .inr 3] (sz τ) (.inl (some (.inr (iI (sm (fun k => cel (τ 4) (0 + (k : Int) * 6 + 3)) N))), sz τ)) :=
    RZ_ok _ _ _ _ _ (s_sumOf (ρ := 1) (a := 4) (w := 3) (τ := τ) (Or.inl ⟨rfl, rfl⟩) hN h8 ⟨by omega, by omega⟩ hB)
  refine lv_aload_n hx hb (k := 0) (i := 0) (x := ad 0) (by decide +kernel) rfl (lv_at hl 0 rfl) ?_
  refine va_get (D := D) (ci := 7) (v := .ref (ad 1)) (C := RX7) (T := TX7) (N := 12) hx hb hts (c_uws (c := 7) (by decide)) hown hK hP 0 (ap_l (wO_get (k := 0) rfl)) rfl 0 (by decide) (ts_of hts (df 0 rfl) rfl) (fun _ h9 => h9) rfl (by decide +kernel) ?_
  refine lv_bipush hx hb (n := 7) (v := 7) (by decide +kernel) rfl ?_
  refine lcall (d := 2) (j := m5_total) (a := 1) (as := [.inr 7]) (X := X) (own := RX7) (x := 147) (rest := []) hl0 t1 (by decide) rfl rfl hx hts hb hown hP hD hK hWX hA hS (hl.1.trans hml.symm) (dw 0 rfl) (df 1 rfl) (df 2 rfl) ⟨by decide, by decide, by decide +kernel, by decide +kernel⟩ (by decide) (by decide +kernel) rfl (fun E τ e => by cases e) (fun v τ9 e H locs hP hS => ?_)
  cases e
  refine W.widen (k := 0) (n := 0) (by decide +kernel) (by decide +kernel) ?_
  refine W.eq (g2 := F0 m 9 ls [.int (iI (N : Int))]) rfl ?_
  refine lv_istore_n hx hb (k := 1) (i := 1) (lv' := [(1, .int (iI (N : Int))), (0, .ref (ad 0))]) (by decide +kernel) rfl hl (by decide) rfl (fun ls hl => ?_)
  refine lv_iload_n hx hb (k := 1) (i := 1) (x := iI (N : Int)) (by decide +kernel) rfl (lv_at hl 0 rfl) ?_
  refine lv_if_ne hx hb (off := 11) (tgt := 22) (by decide +kernel) (by decide) (fun hz => ?_) (fun hz => ?_)
  · have hN0 : ¬ N = 0 := fun h => hz (by subst h; rfl)
    refine lv_aload_n hx hb (k := 0) (i := 0) (x := ad 0) (by decide +kernel) rfl (lv_at hl 1 rfl) ?_
    refine va_get (D := D) (ci := 7) (v := .ref (ad 1)) (C := RX7) (T := TX7) (N := 12) hx hb hts (c_uws (c := 7) (by decide)) hown hK hP 0 (ap_l (wO_get (k := 0) rfl)) rfl 0 (by decide) (ts_of hts (df 0 rfl) rfl) (fun _ h9 => h9) rfl (by decide +kernel) ?_
    refine lv_iconst hx hb (n := 3) (v := 3) (by decide +kernel) rfl ?_
    refine lcall (d := 3) (j := m5_sumOf) (a := 1) (as := [.inr 3]) (X := X) (own := RX7) (x := 276) (rest := []) hl0 t2 (by decide) rfl rfl hx hts hb hown hP hD hK hWX hA hS (hl.1.trans hml.symm) (dw 1 rfl) (df 3 rfl) (df 4 rfl) ⟨by decide, by decide, by decide +kernel, by decide +kernel⟩ (by decide) (by decide +kernel) rfl (fun E τ e => by cases e) (fun v τ9 e H locs hP hS => ?_)
    cases e
    refine W.widen (k := 1) (n := 6) (by decide +kernel) (by decide +kernel) ?_
    refine W.eq (g2 := F0 m 30 ls [.int (iI (sm (fun k => cel (τ 4) (0 + (k : Int) * 6 + 3)) N))]) rfl ?_
    refine lv_i2f hx hb (by decide +kernel) ?_
    refine lv_iload_n hx hb (k := 1) (i := 1) (x := iI (N : Int)) (by decide +kernel) rfl (lv_at hl 0 rfl) ?_
    refine lv_i2f hx hb (by decide +kernel) ?_
    refine lv_fdiv hx hb (by decide +kernel) (Jvm.Free.Fl.fdiv_out (Jvm.Free.Fl.i2f_fin _).noNaN (Jvm.Free.Fl.i2f_fin _) (Jvm.Free.Fl.i2f_nz hz)) ?_
    exact vx_ret (W.fret hx hb hrt (fun t ht hW => ⟨_, _, rfl, ⟨hN0, rfl, rfl⟩, by rw [ht]; exact hP, hD, hS.F ht⟩) hS.2.2 (by decide +kernel) hlk)
  · have hN0 : N = 0 := by
      have h9 := congrArg Int32.toInt hz
      rw [iI_toInt ⟨by omega, by omega⟩, show (0 : Int32).toInt = 0 from rfl] at h9
      omega
    have g := dX_ok
    simp only [xchk, Bool.and_eq_true, decide_eq_true_eq] at g
    obtain ⟨g1, g2, g3, g4, g5⟩ := g
    refine vx_throw0 (own := RX7) (cls := AEx) (names := exN) (ik := 292) (ic := 294) (A := A) hx hb hl0 hown g3 (fun n hn => List.all_eq_true.mp g4 n hn) (ts_of hts (dw 2 rfl) rfl) (ts_of hts g2 rfl) ?_ ?_ hWX.1.1 hWX.1.2 hS (hl.1.trans hml.symm) (by decide +kernel) (by decide +kernel) (by decide +kernel) (by decide +kernel) (fun x hx9 => (htab x hx9).elim) (by decide +kernel) (by decide +kernel) (by decide +kernel) (by decide +kernel) hlk (fun t ht h1 h2 => ⟨⟨hN0, rfl⟩, hP.kept fun k q hq => h2 q.1 ((hP k q hq).lt), Nat.le_trans hS.1 h1, fun q hq hA9 => (h2 q (Nat.lt_of_lt_of_le hq hS.1)).trans (hS.2.1 q hq hA9)⟩) hS.2.2 (by decide) (by decide)
    · intro w hw9
      have h1 := List.all_eq_true.mp g5 w hw9
      simp only [Bool.and_eq_true, Bool.or_eq_true, decide_eq_true_eq] at h1
      rcases h1.2.1 with h2 | h2
      · exact ts_of hts h1.1 h2
      · exact va_Nw.use (wrm_tab h2) (hWX.2.1 w h1.1 h2)
    · intro w hw9
      rcases List.mem_cons.mp hw9 with rfl | hw9
      · rfl
      · rcases List.mem_cons.mp hw9 with rfl | hw9
        · rfl
        · have h1 := List.all_eq_true.mp g5 w hw9
          simp only [Bool.and_eq_true] at h1
          exact h1.2.2
end DBL

/-! the calls of doubles: the wrappers -/
section DBW
variable {p : Program} {l : Launch} {e : Env} {R : Room} {s : State} {m : MethodId} {args : Array Value} {below : List Frame} {meth : Method} {c : Code} {H : Heap} {locs : List Loc} {cells slots : Nat} {Q : State → Prop}
variable {D : va_G} {A : Nat → Prop} {ad adV : Nat → Nat} {cA : Nat → ClassId}
/-- a call of a method of doubles -/
theorem dj_call {x pc nL n a j : Nat} {y : MethodName} {bc cc : ByteArray} {ret : FieldType} {V : va_W} {G : Value → va_W → Prop} {XE : Prop} {own : String} {ls : Array Slot} {rest st0 : List Value} {fs : List (Option Nat)} {σ : Sg} {X : va_W} {ci : Nat} (hM : DC l D A ad adV cA y bc nL ret [.ref (ad a)] V G XE) (hV : V = wO ad cA σ ++ X) (hci : ci < 9) (hcl : (cq ci).1 = y.cls) (hsh : SH[a]? = some (.inl (ci, fs)))
    (hx : p.tables.exec = Jvm.exec) (hts : ∀ w ∈ TS, w.before args s = true) (hb : c.code = cc) (hown : s.vm.findClass own = some m.cls) (hw : va_P D cls9 V H) (hD : va_D A V) (hK : va_K D cls9 (tyL cA) s) (hWX : WX A ad adV s s.heap) (hA : ∀ q, s.heap.size ≤ q → A q) (hN : NC s) (hJ : JX A ad s s.heap) (hS : va_S A s.heap H locs) (hl : ls.size = c.maxLocals)
    (hlink : Jvm.Cond.methodLink own x y ∈ lw_tbl) (h1 : Jvm.Cond.instanceMethod y ∈ lw_tbl) (h2 : Jvm.Cond.selects y.cls y y ∈ lw_tbl) (h4 : Jvm.Cond.code y bc nL (some ret) ∈ lw_tbl)
    (hy : (parseMethodDescriptor y.desc).map (fun d => d.parameters.length) = some 0)
    (hR : 15 ≤ R.frames ∧ 8 + (nL + 11) + 900 ≤ R.locals ∧ cells + 1 ≤ R.cells ∧ slots + 6 ≤ R.slots) (h8 : (rest.map fun v => v.category).sum ≤ 8) (hd : decode cc pc = .ok (.invokevirtual x, 3)) (hst : st0 = .ref (ad a) :: rest)
    (kx : XE → ∀ (ce : Cell) (q9 : Addr) (H1 : Heap) (locs1 : List Loc), va_P D cls9 V H1 → va_S A s.heap H1 locs1 → H1[q9]? = some ce → ce.vm = .none → s.vm.findClass AEx = some ce.cls → vx_W p l e R s m args below meth c H1 locs1 (cells + 1) (slots + 6) Q (F0 m pc ls rest) q9)
    (kk : ∀ (v : Value) (V' : va_W), G v V' → ∀ (H1 : Heap) (locs1 : List Loc), va_P D cls9 V' H1 → va_D A V' → va_S A s.heap H1 locs1 → W p l e R s m args below meth c H1 locs1 (cells + 1) (slots + 6) Q (F0 m (pc + 3) ls (v :: rest))) : W p l e R s m args below meth c H locs cells slots Q (F0 m pc ls st0) := by
  subst hV
  have hG : GoodIn TS (Jvm.Cond.code y bc nL (some ret) :: TS) := by
    intro w hw
    rcases List.mem_cons.mp hw with rfl | hw
    · exact good_TS' (TS_mem h4 rfl)
    · exact good_TS' hw
  have hrecv := va_recv hK (vP_l hw) (cq_get hci) (wO_get (ad := ad) (cA := cA) (σ := σ) hsh)
  have hcb : CallB R s args own x y bc nL (some ret) (Jvm.Cond.code y bc nL (some ret) :: TS) { frames := 14, cells := 1, slots := 6, locals := 900 } 1 6 0 := callB_of 0 hts hG rfl rfl rfl (hts _ (by rw [← hcl]; exact (c_plain hci).2.1)) (ts_of hts hlink rfl) ⟨by rw [← hcl]; exact (c_handle hci).1, by rw [← hcl]; exact (c_handle hci).2, hy⟩ ⟨hR.1, hR.2.1⟩
  have hr := vx_runV (l := l) (e := e) (below := below) (meth := meth) (H := H) (locs := locs) (cells := cells) (slots := slots) (Ts := TS) (C := y.cls) (b := ad a) (As := []) (rest := rest) (g := F0 m pc ls st0) ⟨hx, hb, rfl, hown, hts⟩ hM ⟨hcb, ts_of hts h1 rfl, ts_of hts h2 rfl⟩ ⟨IL_blind, by rw [← hcl]; exact hrecv, IL_pre hw hD hK hWX hA hN hJ hS⟩ rfl rfl hl hst (lv_room h8) hd hR.2.2
  intro T hT X9
  rcases hr T hT X9 with ⟨v, st₀, t, T', L, h0, X', hL, e1, e2, ⟨v1, V', hv, hGv, hP, hD', hF⟩, st⟩ | ⟨q, st₀, t, T', L, E, ce, h0, X', hL, e1, e2, ⟨⟨hXE, hE⟩, hP, hF⟩, hce, hcv, hcl9, st⟩
  · cases hv
    obtain ⟨k1, k2, k3⟩ := vx_keep (A1 := A) (free := A) h0 e1 hS (fun q _ h => h) (fun _ h => h) hL hF
    obtain ⟨t2, a1, b1⟩ := kk v1 V' hGv T'.heap (locs ++ L) (by rw [e1]; exact hP) hD' k3 T' rfl X'
    exact ⟨t2, st t2 a1, b1⟩
  · subst hE
    obtain ⟨k1, k2, k3⟩ := vx_keep (A1 := A) (free := A) h0 e1 hS (fun q _ h => h) (fun _ h => h) hL hF
    obtain ⟨t2, a1, b1⟩ := kx hXE ce q T'.heap (locs ++ L) (by rw [e1]; exact hP) k3 (by rw [e1]; exact hce) hcv hcl9 T' rfl X'
    exact ⟨t2, st.trans a1, b1⟩
/-- a call of a method of doubles from a frame of the law, that answers -/
theorem dl_call {x pc nL nL0 : Nat} {y : MethodName} {bc cc : ByteArray} {ret : FieldType} {G : Value → va_W → Prop} {XE : Prop} {ls : Array Slot} {rest st0 : List Value} {σ : Sg} {X : va_W} (F : FL D A ad adV cA p l s m args c cc nL0) (hw : WV D A s (wO ad cA σ ++ X) H locs) (hl : ls.size = nL0) (hM : DC l D A ad adV cA y bc nL ret [.ref (ad 0)] (wO ad cA σ ++ X) G XE) (hXE : ¬ XE) (hcl : (cq 7).1 = y.cls)
    (hlink : Jvm.Cond.methodLink RL x y ∈ lw_tbl) (h1 : Jvm.Cond.instanceMethod y ∈ lw_tbl) (h2 : Jvm.Cond.selects y.cls y y ∈ lw_tbl) (h4 : Jvm.Cond.code y bc nL (some ret) ∈ lw_tbl)
    (hy : (parseMethodDescriptor y.desc).map (fun d => d.parameters.length) = some 0)
    (hR : 15 ≤ R.frames ∧ 8 + (nL + 11) + 900 ≤ R.locals ∧ cells + 1 ≤ R.cells ∧ slots + 6 ≤ R.slots) (h8 : (rest.map fun v => v.category).sum ≤ 8) (hd : decode cc pc = .ok (.invokevirtual x, 3)) (hst : st0 = .ref (ad 0) :: rest)
    (kk : ∀ (v : Value) (V' : va_W), G v V' → ∀ (H1 : Heap) (locs1 : List Loc), WV D A s V' H1 locs1 → W p l e R s m args below meth c H1 locs1 (cells + 1) (slots + 6) Q (F0 m (pc + 3) ls (v :: rest))) : W p l e R s m args below meth c H locs cells slots Q (F0 m pc ls st0) := by
  obtain ⟨hx, hb, hml, hown, hts, hK, hWX, hA, hN, hJ, hl0⟩ := F
  obtain ⟨hP, hD, hS⟩ := hw
  exact dj_call (n := 0) (j := 0) (a := 0) (ci := 7) (own := RL) (rest := rest) hM rfl (by decide) hcl rfl hx hts hb hown hP hD hK hWX hA hN hJ hS (hl.trans hml.symm) hlink h1 h2 h4 hy hR h8 hd hst (fun h => absurd h hXE) (fun v V' hG H1 locs1 a1 a2 a3 => kk v V' hG H1 locs1 ⟨a1, a2, a3⟩)
theorem dc0 {x : UInt64} (h : vf_n64 x) : Op.cmpValue (FP.dcmp x x) .l = 0 := by
  have h2 : FP.dcmp x x = some .eq := Jvm.FP.Core.dcmp_refl (Jvm.Free.Fl.noNaN64_no.mp h)
  rw [h2]
  rfl
theorem fc0 {x : UInt32} (h : vf_n32 x) : Op.cmpValue (FP.fcmp x x) .l = 0 := by
  have h2 : FP.fcmp x x = some .eq := Jvm.FP.Core.fcmp_refl (Jvm.Free.Fl.noNaN32_no.mp h)
  rw [h2]
  rfl
end DBW
