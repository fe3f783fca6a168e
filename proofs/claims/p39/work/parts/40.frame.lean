/-! the law's frames: calls of the class's methods beside further cells -/
section LKF
variable {p : Program} {l : Launch} {e : Env} {R : Room} {s : State} {m : MethodId} {args : Array Value} {below : List Frame} {meth : Method} {c : Code} {H : Heap} {locs : List Loc} {cells slots : Nat} {Q : State → Prop}
variable {D : va_G} {A B : Nat → Prop} {ad adV : Nat → Nat} {cA : Nat → ClassId}
theorem WX.narrow {U : State} (h : WX A ad adV U H) (hAB : ∀ q, B q → A q) : WX B ad adV U H :=
  ⟨⟨h.1.1.narrow hAB, h.1.2.narrow hAB⟩, h.2.1, ⟨h.2.2.1.1.narrow hAB, h.2.2.1.2⟩, ⟨h.2.2.2.1.narrow hAB, h.2.2.2.2.narrow hAB⟩⟩
theorem ap_l {α : Type} {a b : List α} {k : Nat} {q : α} (h : a[k]? = some q) : (a ++ b)[k]? = some q := by
  rw [List.getElem?_append_left (List.getElem?_eq_some_iff.mp h).1]; exact h
theorem ap_r {α : Type} {a b : List α} {k : Nat} {q : α} (h : b[k]? = some q) : (a ++ b)[a.length + k]? = some q := by
  rw [List.getElem?_append_right (by omega), Nat.add_sub_cancel_left]; exact h
theorem vP_l {w1 w2 : va_W} (h : va_P D cls9 (w1 ++ w2) H) : va_P D cls9 w1 H := fun k q hk => h k q (ap_l hk)
theorem vP_r {w1 w2 : va_W} (h : va_P D cls9 (w1 ++ w2) H) : va_P D cls9 w2 H := fun k q hk => h _ q (ap_r hk)
theorem vD_l {w1 w2 : va_W} (h : va_D A (w1 ++ w2)) : va_D A w1 := ⟨fun i j p q hi hj e => h.1 i j p q (ap_l hi) (ap_l hj) e, fun k q hk => h.2 k q (ap_l hk)⟩
theorem vD_r {w1 w2 : va_W} (h : va_D A (w1 ++ w2)) : va_D A w2 := ⟨fun i j p q hi hj e => Nat.add_left_cancel (h.1 _ _ p q (ap_r hi) (ap_r hj) e), fun k q hk => h.2 _ q (ap_r hk)⟩
theorem vD_x {w1 w2 : va_W} (h : va_D A (w1 ++ w2)) {i j : Nat} {p q : Nat × va_E} (hi : w1[i]? = some p) (hj : w2[j]? = some q) : p.1 ≠ q.1 := fun e => by
  have h1 := h.1 _ _ p q (ap_l hi) (ap_r hj) e
  have h2 := (List.getElem?_eq_some_iff.mp hi).1
  omega
theorem wO_at {σ : Sg} {i : Nat} {p : Nat × va_E} (h : (wO ad cA σ)[i]? = some p) (τ : Sg) : ∃ e, (wO ad cA τ)[i]? = some (p.1, e) := by
  have hi : i < SH.length := by
    have := (List.getElem?_eq_some_iff.mp h).1
    rw [wO_len] at this
    exact this
  have g := List.getElem?_eq_getElem hi
  have h1 := wO_get (ad := ad) (cA := cA) (σ := σ) g
  have h2 := wO_get (ad := ad) (cA := cA) (σ := τ) g
  cases h1.symm.trans h
  exact ⟨_, h2⟩
theorem wOX_D {σ τ : Sg} {X : va_W} (h : va_D A (wO ad cA σ ++ X)) : va_D A (wO ad cA τ ++ X) := by
  refine va_D.app (wO_D (vD_l h)) (vD_r h) fun i j p q hi hj => ?_
  obtain ⟨e, he⟩ := wO_at hi σ
  exact vD_x (p := (p.1, e)) h he hj
theorem wO_len21 {σ : Sg} : (wO ad cA σ).length = 21 := wO_len
theorem wOX_get {σ : Sg} {X : va_W} {j : Nat} {q : Nat × va_E} (h : X[j]? = some q) : (wO ad cA σ ++ X)[21 + j]? = some q := by
  have := ap_r (a := wO ad cA σ) h
  rw [wO_len21] at this
  exact this
theorem wOX_set {σ : Sg} {X : va_W} {j : Nat} {q : Nat × va_E} : (wO ad cA σ ++ X).set (21 + j) q = wO ad cA σ ++ X.set j q := by
  rw [List.set_append_right _ _ (by rw [wO_len21]; omega), wO_len21, Nat.add_sub_cancel_left]
abbrev tyL (cA : Nat → ClassId) : List (ClassId × FieldType) := [(cA 0, .int), (cA 1, .char), (cA 2, .long), (cA 3, .boolean), (cA 4, .byte)]
def EX6 : List String := ["java/lang/IllegalArgumentException", "java/lang/UnsupportedOperationException", "java/lang/IndexOutOfBoundsException", "java/util/NoSuchElementException", "java/lang/IllegalStateException", "java/lang/ArithmeticException"]
def EX5 : List String := ["java/lang/IllegalArgumentException", "java/lang/UnsupportedOperationException", "java/lang/IndexOutOfBoundsException", "java/util/NoSuchElementException", "java/lang/IllegalStateException"]
def NC (U : State) : Prop := ∀ E ∈ EX6, ∀ N ∈ EX5, E ≠ N → va_Nc E N U
theorem NC.moved {u U : State} (hvm : u.vm.Alike U.vm) (h : NC u) : NC U := fun E hE N hN hne => va_Nc.moved hvm (h E hE N hN hne)
/-- the law's own string constants: their places, their numbers -/
def lawS : List (Nat × Nat) := [(251, 6), (259, 7), (261, 8), (279, 9), (281, 10), (297, 11), (302, 12), (304, 13), (306, 14), (308, 15), (310, 16), (312, 17), (314, 18)]
def dgT (i : Nat) : Value := .int (Int32.ofNat (48 + i / 10))
def dgO (i : Nat) : Value := .int (Int32.ofNat (48 + i % 10))
/-- private methods of a builder's superclass: the ones that are run on it -/
def PRB : List MethodName := [⟨"java/lang/AbstractStringBuilder", "ensureCapacityInternal", "(I)V"⟩, ⟨"java/lang/AbstractStringBuilder", "newCapacity", "(I)I"⟩, ⟨"java/lang/AbstractStringBuilder", "putStringAt", "(ILjava/lang/String;)V"⟩, ⟨"java/lang/AbstractStringBuilder", "inflateIfNeededFor", "(Ljava/lang/String;)V"⟩]
def PB (U : State) : Prop := ∀ y ∈ PRB, (Cond.selects RX9b y y).before #[] U = true
theorem PB.warm {U : State} (hW : s.WarmedH U.vm) (h : PB s) : PB U := fun y hy => word_at hW (Or.inl rfl) (h y hy)
/-- what else stands: the law's constants, the tables of digits -/
def JX (A : Nat → Prop) (ad : Nat → Nat) (U : State) (H : Heap) : Prop :=
  ((∀ e ∈ lawS, vk_R RL e.1 (STT.getD e.2 "") (ad (100 + e.2)) U) ∧ PB U) ∧
  (∃ t : Nat, va_Z "java/lang/Integer" "DigitTens" "[B" (.ref t) A U H ∧ va_T .byte t 100 dgT A U H) ∧ (∃ t : Nat, va_Z "java/lang/Integer" "DigitOnes" "[B" (.ref t) A U H ∧ va_T .byte t 100 dgO A U H) ∧
  ∃ (L : Nat) (xs : Nat → Int32), L ≤ 260 ∧ va_X (ad 99) L xs U H ∧ ad 99 < H.size ∧ ¬ A (ad 99)
theorem JX.kept {U : State} {H1 : Heap} (h : JX A ad U H) (hsz : H.size ≤ H1.size) (hq : ∀ a : Nat, a < H.size → ¬ A a → H1[a]? = H[a]?) : JX A ad U H1 := by
  obtain ⟨h1, ⟨t, a1, a2⟩, ⟨u, b1, b2⟩, L, xs, c1, c2, c3, c4⟩ := h
  exact ⟨h1, ⟨t, a1.kept hq, a2.kept hq⟩, ⟨u, b1.kept hq, b2.kept hq⟩, L, xs, c1, c2.kept (hq _ c3 c4), Nat.lt_of_lt_of_le c3 hsz, c4⟩
theorem JX.warm {U : State} (hW : s.WarmedH U.vm) (h : JX A ad s H) : JX A ad U H := by
  obtain ⟨h1, ⟨t, a1, a2⟩, ⟨u, b1, b2⟩, L, xs, c1, c2, c3⟩ := h
  exact ⟨⟨fun e he => (h1.1 e he).warm hW, h1.2.warm hW⟩, ⟨t, va_Z.moved hW.alike a1, va_T.moved hW.alike a2⟩, ⟨u, va_Z.moved hW.alike b1, va_T.moved hW.alike b2⟩, L, xs, c1, va_X.moved hW.alike c2, c3⟩
/-- the law's cells, and what stands beside them -/
def IL (D : va_G) (A : Nat → Prop) (ad adV : Nat → Nat) (cA : Nat → ClassId) (W : va_W) (U : State) : Prop :=
  va_P D cls9 W U.heap ∧ va_K D cls9 (tyL cA) U ∧ va_D A W ∧ WX A ad adV U U.heap ∧ (∀ q, U.heap.size ≤ q → A q) ∧ NC U ∧ JX A ad U U.heap
theorem IL_blind {as : List Value} {W : va_W} : FrameBlind (va_Pc as (IL D A ad adV cA W)) := fun a U g mk h =>
  ⟨h.1, h.2.1, va_K.moved (u := U) (U := U.calling g mk a) (State.WarmedH.refl U).alike h.2.2.1, h.2.2.2.1, WX.warm (s := U) (U := U.calling g mk a) (State.WarmedH.refl U) h.2.2.2.2.1, h.2.2.2.2.2.1, NC.moved (u := U) (U := U.calling g mk a) (State.WarmedH.refl U).alike h.2.2.2.2.2.2.1, JX.warm (s := U) (U := U.calling g mk a) (State.WarmedH.refl U) h.2.2.2.2.2.2.2⟩
theorem IL_pre {W : va_W} (hw : va_P D cls9 W H) (hD : va_D A W) (hK : va_K D cls9 (tyL cA) s) (hWX : WX A ad adV s s.heap) (hA : ∀ q, s.heap.size ≤ q → A q) (hN : NC s) (hJ : JX A ad s s.heap) (hS : va_S A s.heap H locs) {as : List Value} : ∀ U : State, U.heap = H → s.WarmedH U.vm → va_Pc as (IL D A ad adV cA W) as.toArray U := by
  intro U hU hW
  refine ⟨rfl, by rw [hU]; exact hw, va_K.moved hW.alike hK, hD, ?_, fun q hq => hA q (Nat.le_trans hS.1 (by rw [hU] at hq; exact hq)), NC.moved hW.alike hN, ?_⟩
  · rw [hU]
    exact WX.warm hW (hWX.kept hS.2.1)
  · rw [hU]
    exact JX.warm hW (hJ.kept hS.1 hS.2.1)
theorem subA {W : va_W} (hD : va_D A W) (hA : ∀ q, s.heap.size ≤ q → A q) (hS : va_S A s.heap H locs) : ∀ q, va_A W H.size q → A q := by
  rintro q (⟨k, e, hk⟩ | h)
  · exact hD.2 k _ hk
  · exact hA q (Nat.le_trans hS.1 h)
/-- the further cells stay over a call -/
theorem X_stay {σ τ : Sg} {X : va_W} {H1 : Heap} (hw : va_P D cls9 (wO ad cA σ ++ X) H) (hD : va_D A (wO ad cA σ ++ X)) (h1 : va_P D cls9 (wO ad cA τ) H1) (hk : ∀ q : Nat, q < H.size → ¬ va_A (wO ad cA σ) H.size q → H1[q]? = H[q]?) : va_P D cls9 (wO ad cA τ ++ X) H1 := by
  refine h1.app ((vP_r hw).kept fun k q hq => hk q.1 ((vP_r hw k q hq).lt) ?_)
  rintro (⟨i, e, hi⟩ | h)
  · exact vD_x hD hi hq rfl
  · exact absurd ((vP_r hw k q hq).lt) (by omega)
theorem lran {mc ms pc : Nat} {ls : Array Slot} {st0 rest : List Value} {a : Array Value} {σ : Sg} {r : RS} {X : va_W}
    (hr : vx_Run p l e R s m args below meth c H locs cells slots mc ms (F0 m pc ls st0) rest (QC D (va_A (wO ad cA σ) H.size) ad cA r a) (XQ D (va_A (wO ad cA σ) H.size) ad cA r) (va_A (wO ad cA σ) H.size))
    (hw : va_P D cls9 (wO ad cA σ ++ X) H) (hD : va_D A (wO ad cA σ ++ X)) (hA : ∀ q, s.heap.size ≤ q → A q) (hS : va_S A s.heap H locs)
    (kx : ∀ (E : String) (τ : Sg), r = .inr (E, τ) → ∀ (ce : Cell) (q9 : Addr) (H1 : Heap) (locs1 : List Loc), va_P D cls9 (wO ad cA τ ++ X) H1 → va_S A s.heap H1 locs1 → H1[q9]? = some ce → ce.vm = .none → s.vm.findClass E = some ce.cls → vx_W p l e R s m args below meth c H1 locs1 (cells + mc) (slots + ms) Q (F0 m pc ls rest) q9)
    (kk : ∀ (v : Option VV) (τ : Sg), r = .inl (v, τ) → ∀ (H1 : Heap) (locs1 : List Loc), va_P D cls9 (wO ad cA τ ++ X) H1 → va_S A s.heap H1 locs1 → W p l e R s m args below meth c H1 locs1 (cells + mc) (slots + ms) Q (F0 m (pc + 3) ls ((v.map (vv ad)).toList ++ rest))) : W p l e R s m args below meth c H locs cells slots Q (F0 m pc ls st0) := by
  have hsub := subA (vD_l hD) hA hS
  intro T hT X'
  rcases hr T hT X' with ⟨v, st₀, t, T', L, h0, X', hL, e1, e2, hq, st⟩ | ⟨q, st₀, t, T', L, E, ce, h0, X', hL, e1, e2, hxq, hce, hcv, hcl, st⟩
  · match r, hq with
    | .inl (w, τ), hq =>
      obtain ⟨hv, hw1, hF⟩ := hq
      cases hv
      obtain ⟨k1, k2, k3⟩ := vx_keep (A1 := va_A (wO ad cA σ) H.size) (free := va_A (wO ad cA σ) H.size) h0 e1 hS (fun q _ h => hsub q h) hsub hL hF
      obtain ⟨t2, a1, b1⟩ := kk w τ rfl T'.heap (locs ++ L) (X_stay hw hD (by rw [e1]; exact hw1) k2) k3 T' rfl X'
      exact ⟨t2, st t2 a1, b1⟩
  · match r, hxq with
    | .inr (E', τ), hxq =>
      obtain ⟨hE, hw1, hF⟩ := hxq
      cases hE
      obtain ⟨k1, k2, k3⟩ := vx_keep (A1 := va_A (wO ad cA σ) H.size) (free := va_A (wO ad cA σ) H.size) h0 e1 hS (fun q _ h => hsub q h) hsub hL hF
      obtain ⟨t2, a1, b1⟩ := kx E τ rfl ce q T'.heap (locs ++ L) (X_stay hw hD (by rw [e1]; exact hw1) k2) k3 (by rw [e1]; exact hce) hcv hcl T' rfl X'
      exact ⟨t2, st.trans a1, b1⟩
/-- a call of a method of one of the two sides -/
theorem lcall {d j x pc a : Nat} {fs : List (Option Nat)} {as : List VV} {σ : Sg} {r : RS} {X : va_W} {own : String} {cc : ByteArray} {ls : Array Slot} {rest st0 : List Value} (hl0 : l.stackTraces = false) (hr : RR d j (.inl a :: as) σ r) (hj : j < NM) (hsh : SH[a]? = some (.inl (mC j, fs))) (hlen : as.length = mN j)
    (hx : p.tables.exec = Jvm.exec) (hts : ∀ w ∈ TS, w.before args s = true) (hb : c.code = cc) (hown : s.vm.findClass own = some m.cls) (hw : va_P D cls9 (wO ad cA σ ++ X) H) (hD : va_D A (wO ad cA σ ++ X)) (hK : va_K D cls9 (tyL cA) s) (hWX : WX A ad adV s s.heap) (hA : ∀ q, s.heap.size ≤ q → A q) (hS : va_S A s.heap H locs) (hl : ls.size = c.maxLocals)
    (hlink : Jvm.Cond.methodLink own x (mY j) ∈ lw_tbl) (h1 : Jvm.Cond.instanceMethod (mY j) ∈ lw_tbl) (h2 : Jvm.Cond.selects (mY j).cls (mY j) (mY j) ∈ lw_tbl)
    (hR : d + 8 + 1 ≤ R.frames ∧ 8 + (20 + 11) + (100 * d + 200) ≤ R.locals ∧ cells + mX j ≤ R.cells ∧ slots + 6 * mX j ≤ R.slots) (h8 : (rest.map fun v => v.category).sum ≤ 8) (hd : decode cc pc = .ok (.invokevirtual x, 3)) (hst : st0 = (as.map (vv ad)).reverse ++ .ref (ad a) :: rest)
    (kx : ∀ (E : String) (τ : Sg), r = .inr (E, τ) → ∀ (ce : Cell) (q9 : Addr) (H1 : Heap) (locs1 : List Loc), va_P D cls9 (wO ad cA τ ++ X) H1 → va_S A s.heap H1 locs1 → H1[q9]? = some ce → ce.vm = .none → s.vm.findClass E = some ce.cls → vx_W p l e R s m args below meth c H1 locs1 (cells + mX j) (slots + 6 * mX j) Q (F0 m pc ls rest) q9)
    (kk : ∀ (v : Option VV) (τ : Sg), r = .inl (v, τ) → ∀ (H1 : Heap) (locs1 : List Loc), va_P D cls9 (wO ad cA τ ++ X) H1 → va_S A s.heap H1 locs1 → W p l e R s m args below meth c H1 locs1 (cells + mX j) (slots + 6 * mX j) Q (F0 m (pc + 3) ls ((v.map (vv ad)).toList ++ rest))) : W p l e R s m args below meth c H locs cells slots Q (F0 m pc ls st0) := by
  obtain ⟨hc9j, hclj, hnj, hLj⟩ := m_fact hj
  have hK2 : va_K D cls9 [(cA 0, .int), (cA 1, .char)] s := hK.sub [0, 1] rfl
  have hsub := subA (vD_l hD) hA hS
  have hM : CT l D (va_A (wO ad cA σ) H.size) ad adV cA d j (.inl a :: as) σ r := sound hl0 d j _ σ r hr
  have hrecv := va_recv hK2 (vP_l hw) (cq_get hc9j) (wO_get (ad := ad) (cA := cA) (σ := σ) hsh)
  have hcb : CallB R s args own x (mY j) (mB j) (mL j) (mR j) (Jvm.Cond.code (mY j) (mB j) (mL j) (mR j) :: TS) (rmOf d j) (mX j) (6 * mX j) (mN j) :=
    callB_of (mN j) hts (good_ws.mpr (m_code hj)) rfl rfl rfl (hts _ (by rw [← hclj]; exact (c_plain hc9j).2.1)) (ts_of hts hlink rfl) ⟨by rw [← hclj]; exact (c_handle hc9j).1, by rw [← hclj]; exact (c_handle hc9j).2, hnj⟩ ⟨hR.1, by show 8 + (mL j + 11) + (100 * d + 200) ≤ R.locals; omega⟩
  exact lran (vx_runV (own := own) (Ts := TS) (C := (mY j).cls) (b := ad a) (As := as.map (vv ad)) ⟨hx, hb, rfl, hown, hts⟩ hM ⟨hcb, ts_of hts h1 rfl, ts_of hts h2 rfl⟩
    ⟨WD_blind, by rw [← hclj]; exact hrecv, fun U hU hW => ⟨rfl, by rw [hU]; exact vP_l hw, va_K.moved hW.alike hK2, (vD_l hD).self, by rw [hU]; exact WX.warm hW ((hWX.kept hS.2.1).narrow hsub)⟩⟩ rfl (by rw [List.length_map]; exact hlen) hl hst (lv_room h8) hd hR.2.2) hw hD hA hS kx kk
/-! contracts of the law's own static methods -/
/-- what a frame of the law stands on -/
def FL (D : va_G) (A : Nat → Prop) (ad adV : Nat → Nat) (cA : Nat → ClassId) (p : Program) (l : Launch) (s : State) (m : MethodId) (args : Array Value) (c : Code) (bc : ByteArray) (nL : Nat) : Prop :=
  p.tables.exec = Jvm.exec ∧ c.code = bc ∧ c.maxLocals = nL ∧ s.vm.findClass RL = some m.cls ∧ (∀ w ∈ TS, w.before args s = true) ∧ va_K D cls9 (tyL cA) s ∧ WX A ad adV s s.heap ∧ (∀ q, s.heap.size ≤ q → A q) ∧ NC s ∧ JX A ad s s.heap ∧ l.stackTraces = false
/-- the world at a point of it -/
def WV (D : va_G) (A : Nat → Prop) (s : State) (V : va_W) (H : Heap) (locs : List Loc) : Prop := va_P D cls9 V H ∧ va_D A V ∧ va_S A s.heap H locs
def rmK (f mc ms : Nat) : Room := { frames := f, cells := mc, slots := ms, locals := 100 * f + 200 }
def LQ (D : va_G) (A : Nat → Prop) (G : Option Value → va_W → Prop) : Array Value → State → Outcome → State → Prop := fun _ st o t => ∃ v V', o = .returned v ∧ G v V' ∧ va_P D cls9 V' t.heap ∧ va_D A V' ∧ va_F A st t
def LK (l : Launch) (D : va_G) (A : Nat → Prop) (ad adV : Nat → Nat) (cA : Nat → ClassId) (w : Jvm.Cond) (y : MethodName) (f mc ms : Nat) (as : List Value) (V : va_W) (G : Option Value → va_W → Prop) : Prop :=
  vx_Met l y (w :: TS) (rmK f mc ms) (va_Pc as (IL D A ad adV cA V)) (LQ D A G) (fun _ _ _ => False) mc ms A
theorem lk_ran {mc ms pc : Nat} {ls : Array Slot} {st0 rest : List Value} {a : Array Value} {G : Option Value → va_W → Prop} (hr : vx_Run p l e R s m args below meth c H locs cells slots mc ms (F0 m pc ls st0) rest (LQ D A G a) (fun _ _ _ => False) A) (hS : va_S A s.heap H locs)
    (kk : ∀ (v : Option Value) (V' : va_W), G v V' → ∀ (H1 : Heap) (locs1 : List Loc), WV D A s V' H1 locs1 → W p l e R s m args below meth c H1 locs1 (cells + mc) (slots + ms) Q (F0 m (pc + 3) ls (v.toList ++ rest))) : W p l e R s m args below meth c H locs cells slots Q (F0 m pc ls st0) := by
  intro T hT X
  rcases hr T hT X with ⟨v, st₀, t, T', L, h0, X', hL, e1, e2, ⟨k, V', hv, hGk, hP, hD', hF⟩, st⟩ | ⟨q, st₀, t, T', L, E, ce, h0, X', hL, e1, e2, hxq, -, -, -, st⟩
  · cases hv
    obtain ⟨k1, k2, k3⟩ := vx_keep (A1 := A) (free := A) h0 e1 hS (fun q _ h => h) (fun _ h => h) hL hF
    obtain ⟨t2, a1, b1⟩ := kk _ V' hGk T'.heap (locs ++ L) ⟨by rw [e1]; exact hP, hD', k3⟩ T' rfl X'
    exact ⟨t2, st t2 a1, b1⟩
  · exact hxq.elim
/-- a call of one without a table -/
theorem lk_call {x pc nL n f mc ms nL0 : Nat} {y : MethodName} {bc bc0 : ByteArray} {ret : Option FieldType} {as : List Value} {V : va_W} {G : Option Value → va_W → Prop} {ls : Array Slot} {rest st0 : List Value} (F : FL D A ad adV cA p l s m args c bc0 nL0) (hw : WV D A s V H locs) (hl : ls.size = nL0) (hM : LK l D A ad adV cA (.code y bc nL ret) y f mc ms as V G)
    (hlink : Jvm.Cond.methodLink RL x y ∈ lw_tbl) (h1 : Jvm.Cond.static y ∈ lw_tbl) (h2 : Jvm.Cond.code y bc nL ret ∈ lw_tbl) (h3 : Jvm.Cond.initialized RL ∈ lw_tbl)
    (hy : y.cls = RL ∧ y.cls ≠ "java/lang/invoke/MethodHandle" ∧ y.cls ≠ "java/lang/invoke/VarHandle" ∧ (parseMethodDescriptor y.desc).map (fun d => d.parameters.length) = some n) (hn : as.length = n)
    (hR : f + 1 ≤ R.frames ∧ 8 + (nL + 11) + (100 * f + 200) ≤ R.locals ∧ cells + mc ≤ R.cells ∧ slots + ms ≤ R.slots) (h8 : (rest.map fun v => v.category).sum ≤ 8) (hd : decode bc0 pc = .ok (.invokestatic x, 3)) (hst : st0 = as.reverse ++ rest)
    (kk : ∀ (v : Option Value) (V' : va_W), G v V' → ∀ (H1 : Heap) (locs1 : List Loc), WV D A s V' H1 locs1 → W p l e R s m args below meth c H1 locs1 (cells + mc) (slots + ms) Q (F0 m (pc + 3) ls (v.toList ++ rest))) : W p l e R s m args below meth c H locs cells slots Q (F0 m pc ls st0) := by
  obtain ⟨hx, hb, hml, hown, hts, hK, hWX, hA, hN, hJ, hl0⟩ := F
  obtain ⟨hP, hD, hS⟩ := hw
  have hG : GoodIn TS (Jvm.Cond.code y bc nL ret :: TS) := by
    intro w hw
    rcases List.mem_cons.mp hw with rfl | hw
    · exact good_TS' (TS_mem h2 rfl)
    · exact good_TS' hw
  have hcw : CallB R s args RL x y bc nL ret (Jvm.Cond.code y bc nL ret :: TS) (rmK f mc ms) mc ms n ∧ (Jvm.Cond.static y).before args s = true := by
    refine cwS n hts ?_ rfl rfl rfl hy ⟨hR.1, hR.2.1⟩
    intro w hw9
    unfold wsS at hw9
    rcases List.mem_append.mp hw9 with hw9 | hw9
    · simp only [List.mem_cons, List.not_mem_nil, or_false] at hw9
      rcases hw9 with rfl | rfl | rfl
      · exact good_TS' (TS_mem hlink rfl)
      · exact good_TS' (TS_mem h1 rfl)
      · exact good_TS' (TS_mem h3 rfl)
    · exact hG w hw9
  exact lk_ran (vx_runS (own := RL) (Ts := TS) (As := as) ⟨hx, hb, rfl, hown, hts⟩ hM hcw ⟨IL_blind, IL_pre hP hD hK hWX hA hN hJ hS⟩ rfl hn (hl.trans hml.symm) hst (lv_room h8) hd hR.2.2) hS kk
/-- a call of one with a table -/
theorem lk_callH {x pc nL n f mc ms nL0 : Nat} {y : MethodName} {bc bc0 : ByteArray} {ret : Option FieldType} {hh : List (Nat × Nat × Nat × Nat)} {as : List Value} {V : va_W} {G : Option Value → va_W → Prop} {ls : Array Slot} {rest st0 : List Value} (F : FL D A ad adV cA p l s m args c bc0 nL0) (hw : WV D A s V H locs) (hl : ls.size = nL0) (hM : LK l D A ad adV cA (.codeWith y bc nL ret hh) y f mc ms as V G)
    (hlink : Jvm.Cond.methodLink RL x y ∈ lw_tbl) (h1 : Jvm.Cond.static y ∈ lw_tbl) (h2 : Jvm.Cond.codeWith y bc nL ret hh ∈ lw_tbl) (h3 : Jvm.Cond.initialized y.cls ∈ lw_tbl)
    (hy : y.cls ≠ "java/lang/invoke/MethodHandle" ∧ y.cls ≠ "java/lang/invoke/VarHandle" ∧ (parseMethodDescriptor y.desc).map (fun d => d.parameters.length) = some n) (hn : as.length = n)
    (hR : f + 1 ≤ R.frames ∧ 8 + (nL + 11) + (100 * f + 200) ≤ R.locals ∧ cells + mc ≤ R.cells ∧ slots + ms ≤ R.slots) (h8 : (rest.map fun v => v.category).sum ≤ 8) (hd : decode bc0 pc = .ok (.invokestatic x, 3)) (hst : st0 = as.reverse ++ rest)
    (kk : ∀ (v : Option Value) (V' : va_W), G v V' → ∀ (H1 : Heap) (locs1 : List Loc), WV D A s V' H1 locs1 → W p l e R s m args below meth c H1 locs1 (cells + mc) (slots + ms) Q (F0 m (pc + 3) ls (v.toList ++ rest))) : W p l e R s m args below meth c H locs cells slots Q (F0 m pc ls st0) := by
  obtain ⟨hx, hb, hml, hown, hts, hK, hWX, hA, hN, hJ, hl0⟩ := F
  obtain ⟨hP, hD, hS⟩ := hw
  have hG : GoodIn TS (Jvm.Cond.codeWith y bc nL ret hh :: TS) := by
    intro w hw
    rcases List.mem_cons.mp hw with rfl | hw
    · exact good_TS' (TS_mem h2 rfl)
    · exact good_TS' hw
  have hc : Jvm.Cond.codeWith y bc nL ret hh ∈ (Jvm.Cond.codeWith y bc nL ret hh :: TS) := List.mem_cons_self
  have hlen : ∀ sig, parseMethodDescriptor y.desc = some sig → n = sig.parameters.length := by
    intro sig h
    have h2 := hy.2.2
    rw [h] at h2
    exact (Option.some.inj h2).symm
  exact lk_ran (vx_runSX (l := l) (e := e) (below := below) (meth := meth) (H := H) (locs := locs) (cells := cells) (slots := slots) (hh := hh) (Ts := TS) (As := as) (rest := rest) (g := F0 m pc ls st0) ⟨hx, hb, rfl, hown, hts⟩ hM ⟨⟨rfl, rfl, hR.1, hR.2.1, pay_in hts hG, hc⟩, hts _ (hG _ hc).1, ts_of hts h3 rfl, ⟨hy.1, hy.2.1⟩, hlen, ts_of hts hlink rfl, ts_of hts h1 rfl⟩ ⟨IL_blind, IL_pre hP hD hK hWX hA hN hJ hS⟩ rfl hn (hl.trans hml.symm) hst (lv_room h8) hd hR.2.2) hS kk
/-- bodies -/
theorem lk_of {y : MethodName} {bc : ByteArray} {nL f mc ms : Nat} {ret : Option FieldType} {as : List Value} {V : va_W} {G : Option Value → va_W → Prop} (hl0 : l.stackTraces = false) (hy : y.cls = RL)
    (body : ∀ (p : Program) (e : Env) (s : State) (m : MethodId) (args : Array Value) (below : List Frame) (meth : Method) (c : Code), FL D A ad adV cA p l s m args c bc nL → meth.locks = false → meth.sig.returnType = ret → WV D A s V s.heap [] →
      ∀ ls : Array Slot, lv_has ls nL (lv_args 0 as) → W p l e (rmK f mc ms) s m args below meth c s.heap [] 0 0 (vx_MQ below (LQ D A G) (fun _ _ _ => False) args s mc ms A) (F0 m 0 ls [])) (has : (lg_sl as).length ≤ nL) : LK l D A ad adV cA (.code y bc nL ret) y f mc ms as V G := by
  refine vx_ofW (cc := bc) (maxL := nL) (ret := ret) (by rw [hy]; decide) rfl ?_
  intro p e s m args below meth c s₁ B hml htab hv
  obtain ⟨rfl, hP, hK, hD, hWX, hA, hN, hJ⟩ := hv
  have hts0 := atoms_spec B.pre
  have hown := findClass_of_methodNamed B.named
  rw [hy] at hown
  rw [lg_entry_eq]
  exact body p e s m _ below meth c ⟨B.exec, B.bytes, hml, hown, fun w hw => hts0 w (List.mem_cons_of_mem _ hw), hK, hWX, hA, hN, hJ, hl0⟩ B.notSynchronized B.returns ⟨hP, hD, va_S.rf⟩ _ (lv_entry as has)
theorem lk_ofH {y : MethodName} {bc : ByteArray} {nL f mc ms : Nat} {ret : Option FieldType} {hh : List (Nat × Nat × Nat × Nat)} {as : List Value} {V : va_W} {G : Option Value → va_W → Prop} (hl0 : l.stackTraces = false) (hy : y.cls = RL)
    (body : ∀ (p : Program) (e : Env) (s : State) (m : MethodId) (args : Array Value) (below : List Frame) (meth : Method) (c : Code), FL D A ad adV cA p l s m args c bc nL → meth.locks = false → meth.sig.returnType = ret → c.exceptionTable.toList = tableOf hh → WV D A s V s.heap [] →
      ∀ ls : Array Slot, lv_has ls nL (lv_args 0 as) → W p l e (rmK f mc ms) s m args below meth c s.heap [] 0 0 (vx_MQ below (LQ D A G) (fun _ _ _ => False) args s mc ms A) (F0 m 0 ls [])) (has : (lg_sl as).length ≤ nL) : LK l D A ad adV cA (.codeWith y bc nL ret hh) y f mc ms as V G := by
  refine vx_ofWH (cc := bc) (maxL := nL) (ret := ret) (hh := hh) (by rw [hy]; decide) rfl ?_
  intro p e s m args below meth c s₁ B hml hv
  obtain ⟨rfl, hP, hK, hD, hWX, hA, hN, hJ⟩ := hv
  have hts0 := atoms_spec B.pre
  have hown := findClass_of_methodNamed B.named
  rw [hy] at hown
  have htab := vx_table (x := y) B (hts0 _ List.mem_cons_self)
  rw [lg_entry_eq]
  exact body p e s m _ below meth c ⟨B.exec, B.bytes, hml, hown, fun w hw => hts0 w (List.mem_cons_of_mem _ hw), hK, hWX, hA, hN, hJ, hl0⟩ B.notSynchronized B.returns htab ⟨hP, hD, va_S.rf⟩ _ (lv_entry as has)
/-- ends -/
theorem lk_iret {G : Option Value → va_W → Prop} {bc : ByteArray} {nL mc ms pc : Nat} {ls : Array Slot} {V : va_W} {ty : FieldType} {x : Int32} (F : FL D A ad adV cA p l s m args c bc nL) (hlk : meth.locks = false) (hr : meth.sig.returnType = some ty) (hw : WV D A s V H locs) (hn : narrow ty (.int x) = .int x) (hG : G (some (.int x)) V) (hc : cells ≤ mc) (hs : slots ≤ ms) (hd : decode bc pc = .ok (.ireturn, 1)) : W p l e R s m args below meth c H locs cells slots (vx_MQ below (LQ D A G) (fun _ _ _ => False) args s mc ms A) (F0 m pc ls [.int x]) :=
  W.widen hc hs (vx_ret (W.zret F.1 F.2.1 hr hn (fun t ht hW => ⟨_, V, rfl, hG, by rw [ht]; exact hw.1, hw.2.1, hw.2.2.F ht⟩) hw.2.2.2.2 hd hlk))
/-- a call of the class's, from a frame of the law -/
theorem fl_call {d j x pc nL : Nat} {as : List VZ} {τ : SZ} {r : RSZ} {X : va_W} {bc : ByteArray} {ls : Array Slot} {rest st0 : List Value} (F : FL D A ad adV cA p l s m args c bc nL) (hw : WV D A s (wO ad cA (sz τ) ++ X) H locs) (hl : ls.size = nL) (hr : RZ d j (.inl 0 :: as) τ r) (hj : j < NM) (hm : mC j = 7) (hlen : as.length = mN j)
    (hlink : Jvm.Cond.methodLink RL x (mY j) ∈ lw_tbl) (h1 : Jvm.Cond.instanceMethod (mY j) ∈ lw_tbl) (h2 : Jvm.Cond.selects (mY j).cls (mY j) (mY j) ∈ lw_tbl)
    (hR : d + 8 + 1 ≤ R.frames ∧ 8 + (20 + 11) + (100 * d + 200) ≤ R.locals ∧ cells + mX j ≤ R.cells ∧ slots + 6 * mX j ≤ R.slots) (h8 : (rest.map fun v => v.category).sum ≤ 8) (hd : decode bc pc = .ok (.invokevirtual x, 3)) (hst : st0 = ((as.map vz).map (vv ad)).reverse ++ .ref (ad 0) :: rest)
    (kx : ∀ (E : String) (τ1 : SZ), r = .inr (E, τ1) → ∀ (ce : Cell) (q9 : Addr) (H1 : Heap) (locs1 : List Loc), WV D A s (wO ad cA (sz τ1) ++ X) H1 locs1 → H1[q9]? = some ce → ce.vm = .none → s.vm.findClass E = some ce.cls → vx_W p l e R s m args below meth c H1 locs1 (cells + mX j) (slots + 6 * mX j) Q (F0 m pc ls rest) q9)
    (kk : ∀ (v : Option VZ) (τ1 : SZ), r = .inl (v, τ1) → ∀ (H1 : Heap) (locs1 : List Loc), WV D A s (wO ad cA (sz τ1) ++ X) H1 locs1 → W p l e R s m args below meth c H1 locs1 (cells + mX j) (slots + 6 * mX j) Q (F0 m (pc + 3) ls (((v.map vz).map (vv ad)).toList ++ rest))) : W p l e R s m args below meth c H locs cells slots Q (F0 m pc ls st0) := by
  obtain ⟨hx, hb, hml, hown, hts, hK, hWX, hA, hN, hJ, hl0⟩ := F
  obtain ⟨hP, hD, hS⟩ := hw
  have hrr := RZ_ok _ _ _ _ _ hr
  rw [List.map_cons] at hrr
  refine lcall (d := d) (j := j) (a := 0) (as := as.map vz) (X := X) (own := RL) (x := x) (rest := rest) hl0 hrr hj (by rw [hm]; rfl) (by rw [List.length_map]; exact hlen) hx hts hb hown hP hD hK hWX hA hS (hl.trans hml.symm) hlink h1 h2 hR h8 hd hst (fun E τ1 e1 ce q9 H1 locs1 hP1 hS1 a1 a2 a3 => ?_) (fun v τ1 e1 H1 locs1 hP1 hS1 => ?_)
  · match r, e1 with
    | .inl (v', σ), e1 => cases e1
    | .inr (E', σ), e1 =>
      cases e1
      exact kx _ σ rfl ce q9 H1 locs1 ⟨hP1, wOX_D hD, hS1⟩ a1 a2 a3
  · match r, e1 with
    | .inr (E', σ), e1 => cases e1
    | .inl (v', σ), e1 =>
      cases e1
      exact kk v' σ rfl H1 locs1 ⟨hP1, wOX_D hD, hS1⟩
end LKF
