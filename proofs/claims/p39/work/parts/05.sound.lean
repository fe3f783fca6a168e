/-! what a run answers, the method answers: one instruction -/
section SND
variable {p : Program} {l : Launch} {e : Env} {R : Room} {s : State} {m : MethodId} {args : Array Value} {below : List Frame} {meth : Method} {c : Code} {H : Heap} {locs : List Loc} {cells slots : Nat} {Q : State → Prop}
variable {D : va_G} {A : Nat → Prop} {ad adV : Nat → Nat} {cA : Nat → ClassId}
def lvL (ad : Nat → Nat) (ls : Array Slot) (nL : Nat) (L : List (Option VV)) : Prop := ls.size = nL ∧ lv_wf ls ∧ L.length = nL ∧ ∀ (k : Nat) (v : VV), L[k]? = some (some v) → ls[k]? = some (.val (vv ad v))
def lvl (ad : Nat → Nat) (L : List (Option VV)) : List (Nat × Value) := (List.range L.length).filterMap (fun k => match L[k]? with
  | some (some v) => some (k, vv ad v)
  | _ => none)
theorem lvl_mem {L : List (Option VV)} {k : Nat} {v : VV} (h : L[k]? = some (some v)) : (k, vv ad v) ∈ lvl ad L :=
  List.mem_filterMap.mpr ⟨k, List.mem_range.mpr (List.getElem?_eq_some_iff.mp h).1, by rw [h]⟩
theorem lvl_of {L : List (Option VV)} {q : Nat × Value} (h : q ∈ lvl ad L) : ∃ v, L[q.1]? = some (some v) ∧ q.2 = vv ad v := by
  obtain ⟨k, -, hk⟩ := List.mem_filterMap.mp h
  split at hk
  next v hv => cases hk; exact ⟨v, hv, rfl⟩
  next => cases hk
theorem lvL_has {ls : Array Slot} {nL : Nat} {L : List (Option VV)} (h : lvL ad ls nL L) : lv_has ls nL (lvl ad L) := by
  refine ⟨h.1, h.2.1, fun q hq => ?_⟩
  obtain ⟨v, h1, h2⟩ := lvl_of hq
  rw [h2]
  exact h.2.2.2 _ _ h1
theorem lvL_set {ls ls' : Array Slot} {nL i : Nat} {L L' : List (Option VV)} {v : VV} (h : lvL ad ls nL L) (hL : stL L i v = some L') (h' : lv_has ls' nL ((i, vv ad v) :: (lvl ad L).filter (fun q => !(q.1 == i) && !(q.1 + 1 == i && q.2.category == 2)))) : lvL ad ls' nL L' := by
  unfold stL at hL
  cases e : Nat.blt i L.length with
  | false => rw [e] at hL; cases hL
  | true =>
    rw [e] at hL
    cases hL
    refine ⟨h'.1, h'.2.1, by rw [List.length_set]; exact h.2.2.1, fun k w hk => ?_⟩
    by_cases q : k = i
    · subst q
      rw [List.getElem?_set_self (by simpa using e)] at hk
      cases hk
      exact h'.2.2 (k, vv ad v) List.mem_cons_self
    · rw [List.getElem?_set_ne (Ne.symm q)] at hk
      refine h'.2.2 (k, vv ad w) (List.mem_cons_of_mem _ (List.mem_filter.mpr ⟨lvl_mem hk, ?_⟩))
      simp [q, vv_cat]
theorem stL_lt {L L' : List (Option VV)} {i : Nat} {v : VV} (hL : stL L i v = some L') : i < L.length := by
  unfold stL at hL
  cases e : Nat.blt i L.length with
  | false => rw [e] at hL; cases hL
  | true => simpa using e
/-- what stands beside the cells, and stays -/
def WX (A : Nat → Prop) (ad adV : Nat → Nat) (U : State) (H : Heap) : Prop :=
  (vx_Zq Bundle.tN "UNASSIGNED_STACK" Bundle.steD A U H ∧ vx_Zq Bundle.tN "SUPPRESSED_SENTINEL" Bundle.listD A U H) ∧
  (∀ w ∈ lw_tbl, wrm w = true → va_Nw w U) ∧
  (vk_S 19 lnS byS (fun i => ad (100 + i)) adV A U H ∧ ∀ c ix q, c < 9 → lT c ix = some q → vk_R (cq c).1 ix (STT.getD q "") (ad (100 + q)) U) ∧
  (va_Z "java/lang/String" "COMPACT_STRINGS" "Z" (.int 1) A U H ∧ va_Zq "jdk/internal/util/Preconditions" "SIOOBE_FORMATTER" "Ljava/util/function/BiFunction;" A U H)
theorem WX.kept {U : State} {H1 : Heap} (h : WX A ad adV U H) (hq : ∀ a : Nat, a < H.size → ¬ A a → H1[a]? = H[a]?) : WX A ad adV U H1 :=
  ⟨⟨h.1.1.kept hq, h.1.2.kept hq⟩, h.2.1, ⟨h.2.2.1.1.kept hq, h.2.2.1.2⟩, ⟨h.2.2.2.1.kept hq, h.2.2.2.2.kept hq⟩⟩
theorem WX.warm {U : State} (hW : s.WarmedH U.vm) (h : WX A ad adV s H) : WX A ad adV U H := by
  refine ⟨⟨vx_Zq.moved hW.alike h.1.1, vx_Zq.moved hW.alike h.1.2⟩, fun w hw hr => ?_, ⟨vk_S.moved hW.alike h.2.2.1.1, fun c ix q hc hq => (h.2.2.1.2 c ix q hc hq).warm hW⟩, ⟨va_Z.moved hW.alike h.2.2.2.1, va_Zq.moved hW.alike h.2.2.2.2⟩⟩
  have g := h.2.1 w hw hr
  match w, hr, g with
  | .fieldLinkNest .., _, g => exact va_Nw.warmF hW g
  | .methodLinkNest .., _, g => exact va_Nw.warmM hW g
  | .declares .., _, g => exact va_Nw.warmD hW g
  | .castable .., _, g => exact va_Nw.warmC hW g
/-- the cells, and what stands beside them -/
def WD (D : va_G) (A : Nat → Prop) (ad adV : Nat → Nat) (cA : Nat → ClassId) (σ : Sg) (U : State) : Prop :=
  va_P D cls9 (wO ad cA σ) U.heap ∧ va_K D cls9 [(cA 0, .int), (cA 1, .char)] U ∧ va_D A (wO ad cA σ) ∧ WX A ad adV U U.heap
def QC (D : va_G) (A : Nat → Prop) (ad : Nat → Nat) (cA : Nat → ClassId) (r : RS) : Array Value → State → Outcome → State → Prop := fun _ st o t => match r with
  | .inl (v, σ) => o = .returned (v.map (vv ad)) ∧ va_P D cls9 (wO ad cA σ) t.heap ∧ va_F A st t
  | .inr _ => False
def XQ (D : va_G) (A : Nat → Prop) (ad : Nat → Nat) (cA : Nat → ClassId) (r : RS) : String → State → State → Prop := fun E st t => match r with
  | .inr (E', σ) => E = E' ∧ va_P D cls9 (wO ad cA σ) t.heap ∧ va_F A st t
  | .inl _ => False
def rmOf (d i : Nat) : Room := { frames := d + 8, cells := mX i, slots := 6 * mX i, locals := 100 * d + 200 }
def CT (l : Launch) (D : va_G) (A : Nat → Prop) (ad adV : Nat → Nat) (cA : Nat → ClassId) (d i : Nat) (as : List VV) (σ : Sg) (r : RS) : Prop :=
  vx_Met l (mY i) (Jvm.Cond.code (mY i) (mB i) (mL i) (mR i) :: TS) (rmOf d i) (va_Pc (as.map (vv ad)) (WD D A ad adV cA σ)) (QC D A ad cA r) (XQ D A ad cA r) (mX i) (6 * mX i) A
/-- the frame of a method -/
def FR (D : va_G) (A : Nat → Prop) (ad adV : Nat → Nat) (cA : Nat → ClassId) (p : Program) (s : State) (m : MethodId) (args : Array Value) (meth : Method) (c : Code) (i : Nat) : Prop :=
  (p.tables.exec = Jvm.exec ∧ c.code = mB i ∧ c.maxLocals = mL i ∧ s.vm.findClass (cq (mC i)).1 = some m.cls ∧ ∀ w ∈ TS, w.before args s = true) ∧
  (meth.locks = false ∧ (∀ x ∈ c.exceptionTable.toList, False) ∧ meth.sig.returnType = mR i) ∧
  va_K D cls9 [(cA 0, .int), (cA 1, .char)] s ∧ WX A ad adV s s.heap
/-! what the pieces of a step say -/
section PCS
variable {is : List CI} {L : List (Option VV)} {st : List VV} {σ : Sg} {P : Option Prop} {d : FS}
theorem ldI_of {k : Nat} {v : VV} (h : ldI L k = some v) : ∃ x, v = .inr x ∧ L[k]? = some (some (.inr x)) := by
  unfold ldI at h
  split at h
  next x hx => cases h; exact ⟨x, rfl, hx⟩
  next => cases h
theorem ldA_of {k : Nat} {v : VV} (h : ldA L k = some v) : ∃ x, v = .inl x ∧ L[k]? = some (some (.inl x)) := by
  unfold ldA at h
  split at h
  next x hx => cases h; exact ⟨x, rfl, hx⟩
  next => cases h
theorem psh_of {o : Option VV} (h : psh is L st σ o = some (P, d)) : ∃ v, o = some v ∧ d = (is, L, v :: st, σ) := by
  unfold psh at h
  split at h
  · cases h; exact ⟨_, rfl, rfl⟩
  · cases h
theorem lcl_of {o : Option (List (Option VV))} (h : lcl is st σ o = some (P, d)) : ∃ L', o = some L' ∧ d = (is, L', st, σ) := by
  unfold lcl at h
  split at h
  · cases h; exact ⟨_, rfl, rfl⟩
  · cases h
theorem bin_of {f : Int32 → Int32 → Int32} {q : Int32 → Option Prop} (h : bin is L σ f q st = some (P, d)) : ∃ y x st', st = .inr y :: .inr x :: st' ∧ P = q y ∧ d = (is, L, .inr (f x y) :: st', σ) := by
  unfold bin at h
  split at h
  · cases h; exact ⟨_, _, _, rfl, rfl, rfl⟩
  · cases h
theorem stI_of {k : Nat} (h : stI is L σ k st = some (P, d)) : ∃ x st' L', st = .inr x :: st' ∧ stL L k (.inr x) = some L' ∧ d = (is, L', st', σ) := by
  unfold stI at h
  split at h
  · obtain ⟨L', h1, h2⟩ := lcl_of h; exact ⟨_, _, L', rfl, h1, h2⟩
  · cases h
theorem stA_of {k : Nat} (h : stA is L σ k st = some (P, d)) : ∃ x st' L', st = .inl x :: st' ∧ stL L k (.inl x) = some L' ∧ d = (is, L', st', σ) := by
  unfold stA at h
  split at h
  · obtain ⟨L', h1, h2⟩ := lcl_of h; exact ⟨_, _, L', rfl, h1, h2⟩
  · cases h
theorem inc_of {k : Nat} {n : Int} (h : inc is L st σ k n = some (P, d)) : ∃ x L', L[k]? = some (some (.inr x)) ∧ stL L k (.inr (x + Int32.ofInt n)) = some L' ∧ d = (is, L', st, σ) := by
  unfold inc at h
  split at h
  next x hx => obtain ⟨L', h1, h2⟩ := lcl_of h; exact ⟨x, L', hx, h1, h2⟩
  next => cases h
theorem ald_of {t0 : Nat} (h : aldS t0 is L σ st = some (P, d)) : ∃ x a st' n, st = .inr x :: .inl a :: st' ∧ SH[a]? = some (.inr (t0, n)) ∧ P = some (vp_in x n) ∧ d = (is, L, .inr (σ a x.toNatClampNeg) :: st', σ) := by
  unfold aldS at h
  split at h
  next x a st' =>
    split at h
    next t n hs =>
      cases e : Nat.beq t t0 with
      | true => rw [e] at h; cases Nat.eq_of_beq_eq_true e; cases h; exact ⟨x, a, st', n, rfl, hs, rfl, rfl⟩
      | false => rw [e] at h; cases h
    next => cases h
  next => cases h
theorem ast_of {t0 : Nat} (h : astS t0 is L σ st = some (P, d)) : ∃ v x a st' n, st = .inr v :: .inr x :: .inl a :: st' ∧ SH[a]? = some (.inr (t0, n)) ∧ P = some (vp_in x n ∧ (t0 = 1 → vp_nar .char v = v)) ∧ d = (is, L, st', sr σ a (upd (σ a) x.toNatClampNeg v)) := by
  unfold astS at h
  split at h
  next v x a st' =>
    split at h
    next t n hs =>
      cases e : Nat.beq t t0 with
      | true => rw [e] at h; cases Nat.eq_of_beq_eq_true e; cases h; exact ⟨v, x, a, st', n, rfl, hs, rfl, rfl⟩
      | false => rw [e] at h; cases h
    next => cases h
  next => cases h
theorem len_of (h : lenS is L σ st = some (P, d)) : ∃ a st' t n, st = .inl a :: st' ∧ SH[a]? = some (.inr (t, n)) ∧ d = (is, L, .inr (Int32.ofNat n) :: st', σ) := by
  unfold lenS at h
  split at h
  next a st' =>
    split at h
    next t n hs => cases h; exact ⟨a, st', t, n, rfl, hs, rfl⟩
    next => cases h
  next => cases h
theorem gfd_of {f : Option (Nat × Nat × Bool × Nat)} (h : gfdS f is L σ st = some (P, d)) : ∃ a st' ci k b pl fs, st = .inl a :: st' ∧ f = some (ci, k, b, pl) ∧ SH[a]? = some (.inl (ci, fs)) ∧ k < fs.length ∧ d = (is, L, fv fs (σ a) k :: st', σ) := by
  unfold gfdS at h
  split at h
  next a st' =>
    split at h
    next ci k b cj fs hs =>
      cases e : (Nat.beq ci cj && Nat.blt k fs.length) with
      | true =>
        rw [e] at h
        rw [Bool.and_eq_true] at e
        cases Nat.eq_of_beq_eq_true e.1
        cases h
        exact ⟨a, st', ci, k, b.1, b.2, fs, rfl, rfl, hs, by simpa using e.2, rfl⟩
      | false => rw [e] at h; cases h
    next => cases h
  next => cases h
theorem pfd_of {f : Option (Nat × Nat × Bool × Nat)} (h : pfdS f is L σ st = some (P, d)) : ∃ x a st' ci k b pl fs, st = .inr x :: .inl a :: st' ∧ f = some (ci, k, b, pl) ∧ SH[a]? = some (.inl (ci, fs)) ∧ fs[k]? = some none ∧
    (((PTL.getD ci []).getD k 2 = 0) ∨ ((PTL.getD ci []).getD k 2 = 1 ∧ P = some (x = 0 ∨ x = 1))) ∧ d = (is, L, st', sr σ a (upd (σ a) k x)) := by
  unfold pfdS at h
  split at h
  next x a st' =>
    split at h
    next ci k b cj fs hs =>
      split at h
      next h1 h2 =>
        cases e : Nat.beq ci cj with
        | true => rw [e] at h; cases Nat.eq_of_beq_eq_true e; cases h; exact ⟨x, a, st', ci, k, b.1, b.2, fs, rfl, rfl, hs, h1, Or.inl h2, rfl⟩
        | false => rw [e] at h; cases h
      next h1 h2 =>
        cases e : Nat.beq ci cj with
        | true => rw [e] at h; cases Nat.eq_of_beq_eq_true e; cases h; exact ⟨x, a, st', ci, k, b.1, b.2, fs, rfl, rfl, hs, h1, Or.inr ⟨h2, rfl⟩, rfl⟩
        | false => rw [e] at h; cases h
      next => cases h
    next => cases h
  next => cases h
theorem cpy_of (h : cpyS is L σ st = some (P, d)) : ∃ n dp b sp a st' n0 n1, st = .inr n :: .inr dp :: .inl b :: .inr sp :: .inl a :: st' ∧ SH[a]? = some (.inr (0, n0)) ∧ SH[b]? = some (.inr (0, n1)) ∧ st'.length ≤ 8 ∧ P = some (cpyP n0 n1 sp dp n) ∧ d = (is, L, st', sr σ b (va_cpy (σ a) (σ b) sp.toNatClampNeg dp.toNatClampNeg n.toNatClampNeg)) := by
  unfold cpyS at h
  split at h
  next n dp b sp a st' =>
    split at h
    next n0 n1 h0 h1 =>
      cases e : Nat.ble st'.length 8 with
      | true => rw [e] at h; cases h; exact ⟨n, dp, b, sp, a, st', n0, n1, rfl, h0, h1, Nat.le_of_ble_eq_true e, rfl, rfl⟩
      | false => rw [e] at h; cases h
    next => cases h
  next => cases h
theorem mxm_of {f : Int32 → Int32 → Int32} (h : mxmS f is L σ st = some (P, d)) : ∃ y x st', st = .inr y :: .inr x :: st' ∧ st'.length ≤ 8 ∧ d = (is, L, .inr (f x y) :: st', σ) := by
  unfold mxmS at h
  split at h
  next y x st' =>
    cases e : Nat.ble st'.length 8 with
    | true => rw [e] at h; cases h; exact ⟨y, x, st', rfl, Nat.le_of_ble_eq_true e, rfl⟩
    | false => rw [e] at h; cases h
  next => cases h
theorem sle_of (h : sleS is L σ st = some (P, d)) : ∃ q st', st = .inl (100 + q) :: st' ∧ q < 19 ∧ st'.length ≤ 8 ∧ d = (is, L, .inr (Int32.ofNat (byS.getD q []).length) :: st', σ) := by
  unfold sleS at h
  split at h
  next a st' =>
    cases e : (Nat.ble 100 a && Nat.blt a 119 && Nat.ble st'.length 8) with
    | true =>
      rw [e] at h
      cases h
      simp only [Bool.and_eq_true, Nat.ble_eq, Nat.blt_eq] at e
      refine ⟨a - 100, st', ?_, by omega, e.2, rfl⟩
      rw [show 100 + (a - 100) = a by omega]
    | false => rw [e] at h; cases h
  next => cases h
theorem sch_of (h : schS is L σ st = some (P, d)) : ∃ x q st', st = .inr x :: .inl (100 + q) :: st' ∧ q < 19 ∧ st'.length ≤ 8 ∧ P = some (vp_in x (byS.getD q []).length) ∧ d = (is, L, .inr ((byS.getD q []).getD x.toNatClampNeg 0) :: st', σ) := by
  unfold schS at h
  split at h
  next x a st' =>
    cases e : (Nat.ble 100 a && Nat.blt a 119 && Nat.ble st'.length 8) with
    | true =>
      rw [e] at h
      cases h
      simp only [Bool.and_eq_true, Nat.ble_eq, Nat.blt_eq] at e
      refine ⟨x, a - 100, st', ?_, by omega, e.2, rfl, rfl⟩
      rw [show 100 + (a - 100) = a by omega]
    | false => rw [e] at h; cases h
  next => cases h
theorem jmp_of {i : Nat} {z : Int} (h : jmp i z L st σ = some (P, d)) : ∃ t : Nat, z = (t : Int) ∧ d = (seek t (mK i), L, st, σ) := by
  unfold jmp at h
  split at h
  next t => cases h; exact ⟨t, rfl, rfl⟩
  next => cases h
theorem sw_of {i : Nat} {f : Int32 → Option Int} (h : swS i L σ f st = some (P, d)) : ∃ x st' z, st = .inr x :: st' ∧ f x = some z ∧ jmp i z L st' σ = some (P, d) := by
  unfold swS at h
  split at h
  next x st' =>
    split at h
    next z hz => exact ⟨x, st', z, rfl, hz, h⟩
    next => cases h
  next => cases h
end PCS
end SND
