/-! the law's wrappers, by program: wip/whole/dbW.py -/
section WRP
variable {l : Launch} {D : va_G} {A : Nat → Prop} {ad adV : Nat → Nat} {cA : Nat → ClassId}
/-- what a class method answers: an int, or one of the exceptions -/
def RE (Es : List String) (r : RS) : Prop := (∃ v τ, r = .inl (some (.inr v), τ)) ∨ ∃ (i : Nat) (E : String) (τ : Sg), r = .inr (E, τ) ∧ Es[i]? = some E
theorem RE.thrown {Es : List String} {r : RS} {E : String} {τ : Sg} (h : RE Es r) (e : r = .inr (E, τ)) : ∃ i : Nat, Es[i]? = some E := by
  subst e
  rcases h with ⟨v, τ', h⟩ | ⟨i, E', τ', h, h1⟩
  · cases h
  · cases h; exact ⟨i, h1⟩
theorem RE.ret {Es : List String} {r : RS} {v : Option VV} {τ : Sg} (h : RE Es r) (e : r = .inl (v, τ)) : ∃ w, v = some (.inr w) := by
  subst e
  rcases h with ⟨v, τ', h⟩ | ⟨i, E', τ', h, h1⟩
  · cases h; exact ⟨_, rfl⟩
  · cases h
def gL (v : Int32) : Int64 := v.toInt64
def gB (v : Int32) : Int64 := if v = 0 then 0 else 1
/-- what a wrapper leaves -/
def WG (ad : Nat → Nat) (cA : Nat → ClassId) (X : va_W) (qo : Nat) (g : Int32 → Int64) (Es : List String) (r : RS) (k : Int32) (W' : va_W) : Prop :=
  (∃ (v : Int32) (τ : Sg) (fo' : Nat → Int64), r = .inl (some (.inr v), τ) ∧ k = 0 ∧ fo' 0 = g v ∧ W' = wO ad cA τ ++ (qo, .inl (cA 2, 1, .inr (.inl fo'))) :: X) ∨
  (∃ (i : Nat) (E : String) (τ : Sg) (fo' : Nat → Int64), r = .inr (E, τ) ∧ Es[i]? = some E ∧ k = Int32.ofNat (i + 1) ∧ W' = wO ad cA τ ++ (qo, .inl (cA 2, 1, .inr (.inl fo'))) :: X)
theorem vp01 : vp_in 0 1 := vp_in_iff.mpr (by decide)
def lqW : List Jvm.Cond := [.methodLink RL 7 (mY m7_ferry),
  .instanceMethod (mY m7_ferry),
  .selects (mY m7_ferry).cls (mY m7_ferry) (mY m7_ferry),
  .classLink RL 13 "java/lang/IllegalArgumentException",
  .castable "java/lang/IllegalArgumentException" "java/lang/IllegalArgumentException",
  .classLink RL 15 "java/lang/UnsupportedOperationException",
  .castable "java/lang/UnsupportedOperationException" "java/lang/UnsupportedOperationException",
  .methodLink RL 17 (mY m7_tug),
  .instanceMethod (mY m7_tug),
  .selects (mY m7_tug).cls (mY m7_tug) (mY m7_tug),
  .classLink RL 21 "java/lang/IndexOutOfBoundsException",
  .castable "java/lang/IndexOutOfBoundsException" "java/lang/IndexOutOfBoundsException",
  .methodLink RL 23 (mY m7_lock),
  .instanceMethod (mY m7_lock),
  .selects (mY m7_lock).cls (mY m7_lock) (mY m7_lock),
  .methodLink RL 26 (mY m7_fog),
  .instanceMethod (mY m7_fog),
  .selects (mY m7_fog).cls (mY m7_fog) (mY m7_fog),
  .methodLink RL 29 (mY m7_move),
  .instanceMethod (mY m7_move),
  .selects (mY m7_move).cls (mY m7_move) (mY m7_move),
  .methodLink RL 33 (mY m7_pass),
  .instanceMethod (mY m7_pass),
  .selects (mY m7_pass).cls (mY m7_pass) (mY m7_pass),
  .methodLink RL 37 (mY m7_ferryOf),
  .instanceMethod (mY m7_ferryOf),
  .selects (mY m7_ferryOf).cls (mY m7_ferryOf) (mY m7_ferryOf),
  .methodLink RL 40 (mY m7_at),
  .instanceMethod (mY m7_at),
  .selects (mY m7_at).cls (mY m7_at) (mY m7_at),
  .methodLink RL 43 (mY m7_lockAt),
  .instanceMethod (mY m7_lockAt),
  .selects (mY m7_lockAt).cls (mY m7_lockAt) (mY m7_lockAt),
  .methodLink RL 46 (mY m7_isFog),
  .instanceMethod (mY m7_isFog),
  .selects (mY m7_isFog).cls (mY m7_isFog) (mY m7_isFog),
  .methodLink RL 50 (mY m7_would),
  .instanceMethod (mY m7_would),
  .selects (mY m7_would).cls (mY m7_would) (mY m7_would),
  .methodLink RL 53 (mY m7_why),
  .instanceMethod (mY m7_why),
  .selects (mY m7_why).cls (mY m7_why) (mY m7_why),
  .classLink RL 57 "java/util/NoSuchElementException",
  .castable "java/util/NoSuchElementException" "java/util/NoSuchElementException",
  .methodLink RL 59 (mY m7_to),
  .instanceMethod (mY m7_to),
  .selects (mY m7_to).cls (mY m7_to) (mY m7_to),
  .methodLink RL 62 (mY m7_moves),
  .instanceMethod (mY m7_moves),
  .selects (mY m7_moves).cls (mY m7_moves) (mY m7_moves),
  .methodLink RL 66 (mY m7_captures),
  .instanceMethod (mY m7_captures),
  .selects (mY m7_captures).cls (mY m7_captures) (mY m7_captures),
  .methodLink RL 69 (mY m7_isThreatened),
  .instanceMethod (mY m7_isThreatened),
  .selects (mY m7_isThreatened).cls (mY m7_isThreatened) (mY m7_isThreatened),
  .methodLink RL 73 (mY m7_gain),
  .instanceMethod (mY m7_gain),
  .selects (mY m7_gain).cls (mY m7_gain) (mY m7_gain),
  .methodLink RL 76 (mY m7_best),
  .instanceMethod (mY m7_best),
  .selects (mY m7_best).cls (mY m7_best) (mY m7_best),
  .methodLink RL 80 (mY m7_toLock),
  .instanceMethod (mY m7_toLock),
  .selects (mY m7_toLock).cls (mY m7_toLock) (mY m7_toLock),
  .methodLink RL 83 (mY m7_boldest),
  .instanceMethod (mY m7_boldest),
  .selects (mY m7_boldest).cls (mY m7_boldest) (mY m7_boldest),
  .methodLink RL 86 (mY m7_farthest),
  .instanceMethod (mY m7_farthest),
  .selects (mY m7_farthest).cls (mY m7_farthest) (mY m7_farthest),
  .methodLink RL 89 (mY m7_riverLine),
  .instanceMethod (mY m7_riverLine),
  .selects (mY m7_riverLine).cls (mY m7_riverLine) (mY m7_riverLine),
  .methodLink RL 92 (mY m7_ferryLine),
  .instanceMethod (mY m7_ferryLine),
  .selects (mY m7_ferryLine).cls (mY m7_ferryLine) (mY m7_ferryLine),
  .methodLink RL 95 (mY m7_character),
  .instanceMethod (mY m7_character),
  .selects (mY m7_character).cls (mY m7_character) (mY m7_character),
  .methodLink RL 99 (mY m7_append),
  .instanceMethod (mY m7_append),
  .selects (mY m7_append).cls (mY m7_append) (mY m7_append),
  .classLink RL 103 "java/lang/IllegalStateException",
  .castable "java/lang/IllegalStateException" "java/lang/IllegalStateException",
  .methodLink RL 105 (mY m7_run),
  .instanceMethod (mY m7_run),
  .selects (mY m7_run).cls (mY m7_run) (mY m7_run),
  .methodLink RL 108 (mY m7_refusal),
  .instanceMethod (mY m7_refusal),
  .selects (mY m7_refusal).cls (mY m7_refusal) (mY m7_refusal),
  .methodLink RL 111 (mY m7_account),
  .instanceMethod (mY m7_account),
  .selects (mY m7_account).cls (mY m7_account) (mY m7_account),
  .methodLink RL 124 (mY m7_undo),
  .instanceMethod (mY m7_undo),
  .selects (mY m7_undo).cls (mY m7_undo) (mY m7_undo),
  .methodLink RL 127 (mY m7_restore),
  .instanceMethod (mY m7_restore),
  .selects (mY m7_restore).cls (mY m7_restore) (mY m7_restore)]
theorem lq_in : ∀ w ∈ lqW, w ∈ lw_tbl := by decide +kernel
theorem lq (k : Nat) {w : Jvm.Cond} (h : lqW[k]? = some w) : w ∈ lw_tbl := lq_in w (List.mem_of_getElem? h)
theorem w_ferry {σ : Sg} {r : RS} {X : va_W} {qo : Nat} {fo : Nat → Int64} {a1 a2 a3 : Int32} (hl0 : l.stackTraces = false) (hr : RR 12 m7_ferry [.inl 0, .inr a1, .inr a2, .inr a3] σ r) (hE : RE ["java/lang/IllegalArgumentException", "java/lang/UnsupportedOperationException"] r) : LM l D A ad adV cA ⟨RL, "ferry", "(LFerryDraughts;III[J)I"⟩ method_3_code 6 [(0, 12, 15, 13), (0, 12, 19, 15)] [.ref (ad 0), .int a1, .int a2, .int a3, .ref qo] (wO ad cA σ ++ (qo, .inl (cA 2, 1, .inr (.inl fo))) :: X) (WG ad cA X qo gL ["java/lang/IllegalArgumentException", "java/lang/UnsupportedOperationException"] r) := by
  refine lm_of (by decide) ?_ (Nat.le_of_ble_eq_true rfl)
  rintro p e R s m args below meth c rfl hx hb hml hown hts hlk hrt htab ⟨hP, hK, hD, hWX, hA, hN⟩ ls hl
  have hl : lv_has ls 6 [(0, .ref (ad 0)), (1, .int a1), (2, .int a2), (3, .int a3), (4, .ref qo)] := hl
  have hS : va_S A s.heap s.heap [] := va_S.rf
  refine lv_aload hx hb (i := 4) (x := qo) (by decide +kernel) (lv_at hl 4 rfl) ?_
  refine lv_iconst hx hb (n := 0) (v := 0) (by decide +kernel) rfl ?_
  refine lv_aload_n hx hb (k := 0) (i := 0) (x := ad 0) (by decide +kernel) rfl (lv_at hl 0 rfl) ?_
  refine lv_iload_n hx hb (k := 1) (i := 1) (x := a1) (by decide +kernel) rfl (lv_at hl 1 rfl) ?_
  refine lv_iload_n hx hb (k := 2) (i := 2) (x := a2) (by decide +kernel) rfl (lv_at hl 2 rfl) ?_
  refine lv_iload_n hx hb (k := 3) (i := 3) (x := a3) (by decide +kernel) rfl (lv_at hl 3 rfl) ?_
  refine lcall (d := 12) (j := m7_ferry) (a := 0) (as := [.inr a1, .inr a2, .inr a3]) (X := (qo, .inl (cA 2, 1, .inr (.inl fo))) :: X) (own := RL) (x := 7) (rest := [.int 0, .ref qo]) hl0 hr (by decide) rfl rfl hx hts hb hown hP hD hK hWX hA hS (hl.1.trans hml.symm) (lq 0 rfl) (lq 1 rfl) (lq 2 rfl) ⟨by decide, by decide, by decide +kernel, by decide +kernel⟩ (by show (2 : Nat) ≤ 8; decide) (by decide +kernel) rfl (fun E τ e1 ce q9 H locs hP hS h1 h2 h3 => ?_) (fun v τ e1 H locs hP hS => ?_)
  · obtain ⟨i, hi⟩ := hE.thrown e1
    have hD := wOX_D (τ := τ) hD
    match i, hi with
    | 0, hi =>
      cases hi
      refine vx_catch (name := "java/lang/IllegalArgumentException") hown [] ⟨0, 12, 15, 13⟩ [⟨0, 12, 19, 15⟩] (htab.trans rfl) (fun z hz => by cases hz) rfl (by decide) (ts_of hts (lq 3 rfl) rfl) (va_Nw.use rfl (hWX.2.1 _ (lq 4 rfl) rfl)) h1 h2 h3 ?_
      refine lv_astore hx hb (i := 5) (by decide +kernel) hl (by decide) rfl (fun ls hl => ?_)
      refine lv_iconst hx hb (n := 1) (v := 1) (by decide +kernel) rfl ?_
      refine W.widen (k := 2) (n := 12) (by decide +kernel) (by decide +kernel) ?_
      exact vx_ret (W.zret hx hb hrt rfl (fun t ht hW => ⟨_, _, rfl, Or.inr ⟨0, _, τ, fo, e1, rfl, rfl, rfl⟩, by rw [ht]; exact hP, hD, hS.F ht⟩) hS.2.2 (by decide +kernel) hlk)
    | 1, hi =>
      cases hi
      refine vx_catch (name := "java/lang/UnsupportedOperationException") hown [⟨0, 12, 15, 13⟩] ⟨0, 12, 19, 15⟩ [] (htab.trans rfl) (fun z hz => by cases List.mem_singleton.mp hz; exact Or.inr ⟨by decide, "java/lang/IllegalArgumentException", ts_of hts (lq 3 rfl) rfl, hN _ (by decide) _ (by decide) (by decide)⟩) rfl (by decide) (ts_of hts (lq 5 rfl) rfl) (va_Nw.use rfl (hWX.2.1 _ (lq 6 rfl) rfl)) h1 h2 h3 ?_
      refine lv_astore hx hb (i := 5) (by decide +kernel) hl (by decide) rfl (fun ls hl => ?_)
      refine lv_iconst hx hb (n := 2) (v := 2) (by decide +kernel) rfl ?_
      refine W.widen (k := 2) (n := 12) (by decide +kernel) (by decide +kernel) ?_
      exact vx_ret (W.zret hx hb hrt rfl (fun t ht hW => ⟨_, _, rfl, Or.inr ⟨1, _, τ, fo, e1, rfl, rfl, rfl⟩, by rw [ht]; exact hP, hD, hS.F ht⟩) hS.2.2 (by decide +kernel) hlk)
    | i + 2, hi => cases hi
  · obtain ⟨v, rfl⟩ := hE.ret e1
    have hD := wOX_D (τ := τ) hD
    refine W.eq (g2 := F0 m 10 ls [.int v, .int 0, .ref qo]) rfl ?_
    refine lv_i2l hx hb (by decide +kernel) rfl ?_
    refine va_last hx hb hK hP hD hS (31 + 0) 2 (wOX_get (j := 0) rfl) rfl vp01 (by decide +kernel) (fun H locs hP hD hS => ?_)
    rw [wOX_set (j := 0)] at hP hD
    refine lv_goto hx hb (off := 11) (tgt := 23) (by decide +kernel) (by decide) ?_
    refine lv_iconst hx hb (n := 0) (v := 0) (by decide +kernel) rfl ?_
    refine W.widen (k := 2) (n := 12) (by decide +kernel) (by decide +kernel) ?_
    exact vx_ret (W.zret hx hb hrt rfl (fun t ht hW => ⟨_, _, rfl, Or.inl ⟨v, τ, _, e1, rfl, rfl, rfl⟩, by rw [ht]; exact hP, hD, hS.F ht⟩) hS.2.2 (by decide +kernel) hlk)
theorem w_tug {σ : Sg} {r : RS} {X : va_W} {qo : Nat} {fo : Nat → Int64} {a1 a2 : Int32} (hl0 : l.stackTraces = false) (hr : RR 12 m7_tug [.inl 0, .inr a1, .inr a2] σ r) (hE : RE ["java/lang/IndexOutOfBoundsException", "java/lang/UnsupportedOperationException"] r) : LM l D A ad adV cA ⟨RL, "tug", "(LFerryDraughts;II[J)I"⟩ method_4_code 5 [(0, 10, 13, 21), (0, 10, 17, 15)] [.ref (ad 0), .int a1, .int a2, .ref qo] (wO ad cA σ ++ (qo, .inl (cA 2, 1, .inr (.inl fo))) :: X) (WG ad cA X qo gL ["java/lang/IndexOutOfBoundsException", "java/lang/UnsupportedOperationException"] r) := by
  refine lm_of (by decide) ?_ (Nat.le_of_ble_eq_true rfl)
  rintro p e R s m args below meth c rfl hx hb hml hown hts hlk hrt htab ⟨hP, hK, hD, hWX, hA, hN⟩ ls hl
  have hl : lv_has ls 5 [(0, .ref (ad 0)), (1, .int a1), (2, .int a2), (3, .ref qo)] := hl
  have hS : va_S A s.heap s.heap [] := va_S.rf
  refine lv_aload_n hx hb (k := 3) (i := 3) (x := qo) (by decide +kernel) rfl (lv_at hl 3 rfl) ?_
  refine lv_iconst hx hb (n := 0) (v := 0) (by decide +kernel) rfl ?_
  refine lv_aload_n hx hb (k := 0) (i := 0) (x := ad 0) (by decide +kernel) rfl (lv_at hl 0 rfl) ?_
  refine lv_iload_n hx hb (k := 1) (i := 1) (x := a1) (by decide +kernel) rfl (lv_at hl 1 rfl) ?_
  refine lv_iload_n hx hb (k := 2) (i := 2) (x := a2) (by decide +kernel) rfl (lv_at hl 2 rfl) ?_
  refine lcall (d := 12) (j := m7_tug) (a := 0) (as := [.inr a1, .inr a2]) (X := (qo, .inl (cA 2, 1, .inr (.inl fo))) :: X) (own := RL) (x := 17) (rest := [.int 0, .ref qo]) hl0 hr (by decide) rfl rfl hx hts hb hown hP hD hK hWX hA hS (hl.1.trans hml.symm) (lq 7 rfl) (lq 8 rfl) (lq 9 rfl) ⟨by decide, by decide, by decide +kernel, by decide +kernel⟩ (by show (2 : Nat) ≤ 8; decide) (by decide +kernel) rfl (fun E τ e1 ce q9 H locs hP hS h1 h2 h3 => ?_) (fun v τ e1 H locs hP hS => ?_)
  · obtain ⟨i, hi⟩ := hE.thrown e1
    have hD := wOX_D (τ := τ) hD
    match i, hi with
    | 0, hi =>
      cases hi
      refine vx_catch (name := "java/lang/IndexOutOfBoundsException") hown [] ⟨0, 10, 13, 21⟩ [⟨0, 10, 17, 15⟩] (htab.trans rfl) (fun z hz => by cases hz) rfl (by decide) (ts_of hts (lq 10 rfl) rfl) (va_Nw.use rfl (hWX.2.1 _ (lq 11 rfl) rfl)) h1 h2 h3 ?_
      refine lv_astore hx hb (i := 4) (by decide +kernel) hl (by decide) rfl (fun ls hl => ?_)
      refine lv_iconst hx hb (n := 1) (v := 1) (by decide +kernel) rfl ?_
      refine W.widen (k := 2) (n := 12) (by decide +kernel) (by decide +kernel) ?_
      exact vx_ret (W.zret hx hb hrt rfl (fun t ht hW => ⟨_, _, rfl, Or.inr ⟨0, _, τ, fo, e1, rfl, rfl, rfl⟩, by rw [ht]; exact hP, hD, hS.F ht⟩) hS.2.2 (by decide +kernel) hlk)
    | 1, hi =>
      cases hi
      refine vx_catch (name := "java/lang/UnsupportedOperationException") hown [⟨0, 10, 13, 21⟩] ⟨0, 10, 17, 15⟩ [] (htab.trans rfl) (fun z hz => by cases List.mem_singleton.mp hz; exact Or.inr ⟨by decide, "java/lang/IndexOutOfBoundsException", ts_of hts (lq 10 rfl) rfl, hN _ (by decide) _ (by decide) (by decide)⟩) rfl (by decide) (ts_of hts (lq 5 rfl) rfl) (va_Nw.use rfl (hWX.2.1 _ (lq 6 rfl) rfl)) h1 h2 h3 ?_
      refine lv_astore hx hb (i := 4) (by decide +kernel) hl (by decide) rfl (fun ls hl => ?_)
      refine lv_iconst hx hb (n := 2) (v := 2) (by decide +kernel) rfl ?_
      refine W.widen (k := 2) (n := 12) (by decide +kernel) (by decide +kernel) ?_
      exact vx_ret (W.zret hx hb hrt rfl (fun t ht hW => ⟨_, _, rfl, Or.inr ⟨1, _, τ, fo, e1, rfl, rfl, rfl⟩, by rw [ht]; exact hP, hD, hS.F ht⟩) hS.2.2 (by decide +kernel) hlk)
    | i + 2, hi => cases hi
  · obtain ⟨v, rfl⟩ := hE.ret e1
    have hD := wOX_D (τ := τ) hD
    refine W.eq (g2 := F0 m 8 ls [.int v, .int 0, .ref qo]) rfl ?_
    refine lv_i2l hx hb (by decide +kernel) rfl ?_
    refine va_last hx hb hK hP hD hS (31 + 0) 2 (wOX_get (j := 0) rfl) rfl vp01 (by decide +kernel) (fun H locs hP hD hS => ?_)
    rw [wOX_set (j := 0)] at hP hD
    refine lv_goto hx hb (off := 11) (tgt := 21) (by decide +kernel) (by decide) ?_
    refine lv_iconst hx hb (n := 0) (v := 0) (by decide +kernel) rfl ?_
    refine W.widen (k := 2) (n := 12) (by decide +kernel) (by decide +kernel) ?_
    exact vx_ret (W.zret hx hb hrt rfl (fun t ht hW => ⟨_, _, rfl, Or.inl ⟨v, τ, _, e1, rfl, rfl, rfl⟩, by rw [ht]; exact hP, hD, hS.F ht⟩) hS.2.2 (by decide +kernel) hlk)
theorem w_lock {σ : Sg} {r : RS} {X : va_W} {qo : Nat} {fo : Nat → Int64} {a1 a2 a3 : Int32} (hl0 : l.stackTraces = false) (hr : RR 12 m7_lock [.inl 0, .inr a1, .inr a2, .inr a3] σ r) (hE : RE ["java/lang/IndexOutOfBoundsException", "java/lang/IllegalArgumentException", "java/lang/UnsupportedOperationException"] r) : LM l D A ad adV cA ⟨RL, "lock", "(LFerryDraughts;III[J)I"⟩ method_5_code 6 [(0, 12, 15, 21), (0, 12, 19, 13), (0, 12, 23, 15)] [.ref (ad 0), .int a1, .int a2, .int a3, .ref qo] (wO ad cA σ ++ (qo, .inl (cA 2, 1, .inr (.inl fo))) :: X) (WG ad cA X qo gL ["java/lang/IndexOutOfBoundsException", "java/lang/IllegalArgumentException", "java/lang/UnsupportedOperationException"] r) := by
  refine lm_of (by decide) ?_ (Nat.le_of_ble_eq_true rfl)
  rintro p e R s m args below meth c rfl hx hb hml hown hts hlk hrt htab ⟨hP, hK, hD, hWX, hA, hN⟩ ls hl
  have hl : lv_has ls 6 [(0, .ref (ad 0)), (1, .int a1), (2, .int a2), (3, .int a3), (4, .ref qo)] := hl
  have hS : va_S A s.heap s.heap [] := va_S.rf
  refine lv_aload hx hb (i := 4) (x := qo) (by decide +kernel) (lv_at hl 4 rfl) ?_
  refine lv_iconst hx hb (n := 0) (v := 0) (by decide +kernel) rfl ?_
  refine lv_aload_n hx hb (k := 0) (i := 0) (x := ad 0) (by decide +kernel) rfl (lv_at hl 0 rfl) ?_
  refine lv_iload_n hx hb (k := 1) (i := 1) (x := a1) (by decide +kernel) rfl (lv_at hl 1 rfl) ?_
  refine lv_iload_n hx hb (k := 2) (i := 2) (x := a2) (by decide +kernel) rfl (lv_at hl 2 rfl) ?_
  refine lv_iload_n hx hb (k := 3) (i := 3) (x := a3) (by decide +kernel) rfl (lv_at hl 3 rfl) ?_
  refine lcall (d := 12) (j := m7_lock) (a := 0) (as := [.inr a1, .inr a2, .inr a3]) (X := (qo, .inl (cA 2, 1, .inr (.inl fo))) :: X) (own := RL) (x := 23) (rest := [.int 0, .ref qo]) hl0 hr (by decide) rfl rfl hx hts hb hown hP hD hK hWX hA hS (hl.1.trans hml.symm) (lq 12 rfl) (lq 13 rfl) (lq 14 rfl) ⟨by decide, by decide, by decide +kernel, by decide +kernel⟩ (by show (2 : Nat) ≤ 8; decide) (by decide +kernel) rfl (fun E τ e1 ce q9 H locs hP hS h1 h2 h3 => ?_) (fun v τ e1 H locs hP hS => ?_)
  · obtain ⟨i, hi⟩ := hE.thrown e1
    have hD := wOX_D (τ := τ) hD
    match i, hi with
    | 0, hi =>
      cases hi
      refine vx_catch (name := "java/lang/IndexOutOfBoundsException") hown [] ⟨0, 12, 15, 21⟩ [⟨0, 12, 19, 13⟩, ⟨0, 12, 23, 15⟩] (htab.trans rfl) (fun z hz => by cases hz) rfl (by decide) (ts_of hts (lq 10 rfl) rfl) (va_Nw.use rfl (hWX.2.1 _ (lq 11 rfl) rfl)) h1 h2 h3 ?_
      refine lv_astore hx hb (i := 5) (by decide +kernel) hl (by decide) rfl (fun ls hl => ?_)
      refine lv_iconst hx hb (n := 1) (v := 1) (by decide +kernel) rfl ?_
      refine W.widen (k := 2) (n := 12) (by decide +kernel) (by decide +kernel) ?_
      exact vx_ret (W.zret hx hb hrt rfl (fun t ht hW => ⟨_, _, rfl, Or.inr ⟨0, _, τ, fo, e1, rfl, rfl, rfl⟩, by rw [ht]; exact hP, hD, hS.F ht⟩) hS.2.2 (by decide +kernel) hlk)
    | 1, hi =>
      cases hi
      refine vx_catch (name := "java/lang/IllegalArgumentException") hown [⟨0, 12, 15, 21⟩] ⟨0, 12, 19, 13⟩ [⟨0, 12, 23, 15⟩] (htab.trans rfl) (fun z hz => by cases List.mem_singleton.mp hz; exact Or.inr ⟨by decide, "java/lang/IndexOutOfBoundsException", ts_of hts (lq 10 rfl) rfl, hN _ (by decide) _ (by decide) (by decide)⟩) rfl (by decide) (ts_of hts (lq 3 rfl) rfl) (va_Nw.use rfl (hWX.2.1 _ (lq 4 rfl) rfl)) h1 h2 h3 ?_
      refine lv_astore hx hb (i := 5) (by decide +kernel) hl (by decide) rfl (fun ls hl => ?_)
      refine lv_iconst hx hb (n := 2) (v := 2) (by decide +kernel) rfl ?_
      refine W.widen (k := 2) (n := 12) (by decide +kernel) (by decide +kernel) ?_
      exact vx_ret (W.zret hx hb hrt rfl (fun t ht hW => ⟨_, _, rfl, Or.inr ⟨1, _, τ, fo, e1, rfl, rfl, rfl⟩, by rw [ht]; exact hP, hD, hS.F ht⟩) hS.2.2 (by decide +kernel) hlk)
    | 2, hi =>
      cases hi
      refine vx_catch (name := "java/lang/UnsupportedOperationException") hown [⟨0, 12, 15, 21⟩, ⟨0, 12, 19, 13⟩] ⟨0, 12, 23, 15⟩ [] (htab.trans rfl) (fun z hz => by
        rcases List.mem_cons.mp hz with rfl | hz
        · exact Or.inr ⟨by decide, "java/lang/IndexOutOfBoundsException", ts_of hts (lq 10 rfl) rfl, hN _ (by decide) _ (by decide) (by decide)⟩
        · cases List.mem_singleton.mp hz
          exact Or.inr ⟨by decide, "java/lang/IllegalArgumentException", ts_of hts (lq 3 rfl) rfl, hN _ (by decide) _ (by decide) (by decide)⟩) rfl (by decide) (ts_of hts (lq 5 rfl) rfl) (va_Nw.use rfl (hWX.2.1 _ (lq 6 rfl) rfl)) h1 h2 h3 ?_
      refine lv_astore hx hb (i := 5) (by decide +kernel) hl (by decide) rfl (fun ls hl => ?_)
      refine lv_iconst hx hb (n := 3) (v := 3) (by decide +kernel) rfl ?_
      refine W.widen (k := 2) (n := 12) (by decide +kernel) (by decide +kernel) ?_
      exact vx_ret (W.zret hx hb hrt rfl (fun t ht hW => ⟨_, _, rfl, Or.inr ⟨2, _, τ, fo, e1, rfl, rfl, rfl⟩, by rw [ht]; exact hP, hD, hS.F ht⟩) hS.2.2 (by decide +kernel) hlk)
    | i + 3, hi => cases hi
  · obtain ⟨v, rfl⟩ := hE.ret e1
    have hD := wOX_D (τ := τ) hD
    refine W.eq (g2 := F0 m 10 ls [.int v, .int 0, .ref qo]) rfl ?_
    refine lv_i2l hx hb (by decide +kernel) rfl ?_
    refine va_last hx hb hK hP hD hS (31 + 0) 2 (wOX_get (j := 0) rfl) rfl vp01 (by decide +kernel) (fun H locs hP hD hS => ?_)
    rw [wOX_set (j := 0)] at hP hD
    refine lv_goto hx hb (off := 15) (tgt := 27) (by decide +kernel) (by decide) ?_
    refine lv_iconst hx hb (n := 0) (v := 0) (by decide +kernel) rfl ?_
    refine W.widen (k := 2) (n := 12) (by decide +kernel) (by decide +kernel) ?_
    exact vx_ret (W.zret hx hb hrt rfl (fun t ht hW => ⟨_, _, rfl, Or.inl ⟨v, τ, _, e1, rfl, rfl, rfl⟩, by rw [ht]; exact hP, hD, hS.F ht⟩) hS.2.2 (by decide +kernel) hlk)
theorem w_fog {σ : Sg} {r : RS} {X : va_W} {qo : Nat} {fo : Nat → Int64} {a1 a2 a3 : Int32} (hl0 : l.stackTraces = false) (hr : RR 12 m7_fog [.inl 0, .inr a1, .inr a2, .inr a3] σ r) (hE : RE ["java/lang/IndexOutOfBoundsException", "java/lang/IllegalArgumentException", "java/lang/UnsupportedOperationException"] r) : LM l D A ad adV cA ⟨RL, "fog", "(LFerryDraughts;III[J)I"⟩ method_6_code 6 [(0, 12, 15, 21), (0, 12, 19, 13), (0, 12, 23, 15)] [.ref (ad 0), .int a1, .int a2, .int a3, .ref qo] (wO ad cA σ ++ (qo, .inl (cA 2, 1, .inr (.inl fo))) :: X) (WG ad cA X qo gL ["java/lang/IndexOutOfBoundsException", "java/lang/IllegalArgumentException", "java/lang/UnsupportedOperationException"] r) := by
  refine lm_of (by decide) ?_ (Nat.le_of_ble_eq_true rfl)
  rintro p e R s m args below meth c rfl hx hb hml hown hts hlk hrt htab ⟨hP, hK, hD, hWX, hA, hN⟩ ls hl
  have hl : lv_has ls 6 [(0, .ref (ad 0)), (1, .int a1), (2, .int a2), (3, .int a3), (4, .ref qo)] := hl
  have hS : va_S A s.heap s.heap [] := va_S.rf
  refine lv_aload hx hb (i := 4) (x := qo) (by decide +kernel) (lv_at hl 4 rfl) ?_
  refine lv_iconst hx hb (n := 0) (v := 0) (by decide +kernel) rfl ?_
  refine lv_aload_n hx hb (k := 0) (i := 0) (x := ad 0) (by decide +kernel) rfl (lv_at hl 0 rfl) ?_
  refine lv_iload_n hx hb (k := 1) (i := 1) (x := a1) (by decide +kernel) rfl (lv_at hl 1 rfl) ?_
  refine lv_iload_n hx hb (k := 2) (i := 2) (x := a2) (by decide +kernel) rfl (lv_at hl 2 rfl) ?_
  refine lv_iload_n hx hb (k := 3) (i := 3) (x := a3) (by decide +kernel) rfl (lv_at hl 3 rfl) ?_
  refine lcall (d := 12) (j := m7_fog) (a := 0) (as := [.inr a1, .inr a2, .inr a3]) (X := (qo, .inl (cA 2, 1, .inr (.inl fo))) :: X) (own := RL) (x := 26) (rest := [.int 0, .ref qo]) hl0 hr (by decide) rfl rfl hx hts hb hown hP hD hK hWX hA hS (hl.1.trans hml.symm) (lq 15 rfl) (lq 16 rfl) (lq 17 rfl) ⟨by decide, by decide, by decide +kernel, by decide +kernel⟩ (by show (2 : Nat) ≤ 8; decide) (by decide +kernel) rfl (fun E τ e1 ce q9 H locs hP hS h1 h2 h3 => ?_) (fun v τ e1 H locs hP hS => ?_)
  · obtain ⟨i, hi⟩ := hE.thrown e1
    have hD := wOX_D (τ := τ) hD
    match i, hi with
    | 0, hi =>
      cases hi
      refine vx_catch (name := "java/lang/IndexOutOfBoundsException") hown [] ⟨0, 12, 15, 21⟩ [⟨0, 12, 19, 13⟩, ⟨0, 12, 23, 15⟩] (htab.trans rfl) (fun z hz => by cases hz) rfl (by decide) (ts_of hts (lq 10 rfl) rfl) (va_Nw.use rfl (hWX.2.1 _ (lq 11 rfl) rfl)) h1 h2 h3 ?_
      refine lv_astore hx hb (i := 5) (by decide +kernel) hl (by decide) rfl (fun ls hl => ?_)
      refine lv_iconst hx hb (n := 1) (v := 1) (by decide +kernel) rfl ?_
      refine W.widen (k := 2) (n := 12) (by decide +kernel) (by decide +kernel) ?_
      exact vx_ret (W.zret hx hb hrt rfl (fun t ht hW => ⟨_, _, rfl, Or.inr ⟨0, _, τ, fo, e1, rfl, rfl, rfl⟩, by rw [ht]; exact hP, hD, hS.F ht⟩) hS.2.2 (by decide +kernel) hlk)
    | 1, hi =>
      cases hi
      refine vx_catch (name := "java/lang/IllegalArgumentException") hown [⟨0, 12, 15, 21⟩] ⟨0, 12, 19, 13⟩ [⟨0, 12, 23, 15⟩] (htab.trans rfl) (fun z hz => by cases List.mem_singleton.mp hz; exact Or.inr ⟨by decide, "java/lang/IndexOutOfBoundsException", ts_of hts (lq 10 rfl) rfl, hN _ (by decide) _ (by decide) (by decide)⟩) rfl (by decide) (ts_of hts (lq 3 rfl) rfl) (va_Nw.use rfl (hWX.2.1 _ (lq 4 rfl) rfl)) h1 h2 h3 ?_
      refine lv_astore hx hb (i := 5) (by decide +kernel) hl (by decide) rfl (fun ls hl => ?_)
      refine lv_iconst hx hb (n := 2) (v := 2) (by decide +kernel) rfl ?_
      refine W.widen (k := 2) (n := 12) (by decide +kernel) (by decide +kernel) ?_
      exact vx_ret (W.zret hx hb hrt rfl (fun t ht hW => ⟨_, _, rfl, Or.inr ⟨1, _, τ, fo, e1, rfl, rfl, rfl⟩, by rw [ht]; exact hP, hD, hS.F ht⟩) hS.2.2 (by decide +kernel) hlk)
    | 2, hi =>
      cases hi
      refine vx_catch (name := "java/lang/UnsupportedOperationException") hown [⟨0, 12, 15, 21⟩, ⟨0, 12, 19, 13⟩] ⟨0, 12, 23, 15⟩ [] (htab.trans rfl) (fun z hz => by
        rcases List.mem_cons.mp hz with rfl | hz
        · exact Or.inr ⟨by decide, "java/lang/IndexOutOfBoundsException", ts_of hts (lq 10 rfl) rfl, hN _ (by decide) _ (by decide) (by decide)⟩
        · cases List.mem_singleton.mp hz
          exact Or.inr ⟨by decide, "java/lang/IllegalArgumentException", ts_of hts (lq 3 rfl) rfl, hN _ (by decide) _ (by decide) (by decide)⟩) rfl (by decide) (ts_of hts (lq 5 rfl) rfl) (va_Nw.use rfl (hWX.2.1 _ (lq 6 rfl) rfl)) h1 h2 h3 ?_
      refine lv_astore hx hb (i := 5) (by decide +kernel) hl (by decide) rfl (fun ls hl => ?_)
      refine lv_iconst hx hb (n := 3) (v := 3) (by decide +kernel) rfl ?_
      refine W.widen (k := 2) (n := 12) (by decide +kernel) (by decide +kernel) ?_
      exact vx_ret (W.zret hx hb hrt rfl (fun t ht hW => ⟨_, _, rfl, Or.inr ⟨2, _, τ, fo, e1, rfl, rfl, rfl⟩, by rw [ht]; exact hP, hD, hS.F ht⟩) hS.2.2 (by decide +kernel) hlk)
    | i + 3, hi => cases hi
  · obtain ⟨v, rfl⟩ := hE.ret e1
    have hD := wOX_D (τ := τ) hD
    refine W.eq (g2 := F0 m 10 ls [.int v, .int 0, .ref qo]) rfl ?_
    refine lv_i2l hx hb (by decide +kernel) rfl ?_
    refine va_last hx hb hK hP hD hS (31 + 0) 2 (wOX_get (j := 0) rfl) rfl vp01 (by decide +kernel) (fun H locs hP hD hS => ?_)
    rw [wOX_set (j := 0)] at hP hD
    refine lv_goto hx hb (off := 15) (tgt := 27) (by decide +kernel) (by decide) ?_
    refine lv_iconst hx hb (n := 0) (v := 0) (by decide +kernel) rfl ?_
    refine W.widen (k := 2) (n := 12) (by decide +kernel) (by decide +kernel) ?_
    exact vx_ret (W.zret hx hb hrt rfl (fun t ht hW => ⟨_, _, rfl, Or.inl ⟨v, τ, _, e1, rfl, rfl, rfl⟩, by rw [ht]; exact hP, hD, hS.F ht⟩) hS.2.2 (by decide +kernel) hlk)
theorem w_move {σ : Sg} {r : RS} {X : va_W} {qo : Nat} {fo : Nat → Int64} {a1 a2 a3 : Int32} (hl0 : l.stackTraces = false) (hr : RR 12 m7_move [.inl 0, .inr a1, .inr a2, .inr a3] σ r) (hE : RE ["java/lang/IndexOutOfBoundsException", "java/lang/UnsupportedOperationException"] r) : LM l D A ad adV cA ⟨RL, "move", "(LFerryDraughts;IIZ[J)I"⟩ method_7_code 6 [(0, 12, 15, 21), (0, 12, 19, 15)] [.ref (ad 0), .int a1, .int a2, .int a3, .ref qo] (wO ad cA σ ++ (qo, .inl (cA 2, 1, .inr (.inl fo))) :: X) (WG ad cA X qo gL ["java/lang/IndexOutOfBoundsException", "java/lang/UnsupportedOperationException"] r) := by
  refine lm_of (by decide) ?_ (Nat.le_of_ble_eq_true rfl)
  rintro p e R s m args below meth c rfl hx hb hml hown hts hlk hrt htab ⟨hP, hK, hD, hWX, hA, hN⟩ ls hl
  have hl : lv_has ls 6 [(0, .ref (ad 0)), (1, .int a1), (2, .int a2), (3, .int a3), (4, .ref qo)] := hl
  have hS : va_S A s.heap s.heap [] := va_S.rf
  refine lv_aload hx hb (i := 4) (x := qo) (by decide +kernel) (lv_at hl 4 rfl) ?_
  refine lv_iconst hx hb (n := 0) (v := 0) (by decide +kernel) rfl ?_
  refine lv_aload_n hx hb (k := 0) (i := 0) (x := ad 0) (by decide +kernel) rfl (lv_at hl 0 rfl) ?_
  refine lv_iload_n hx hb (k := 1) (i := 1) (x := a1) (by decide +kernel) rfl (lv_at hl 1 rfl) ?_
  refine lv_iload_n hx hb (k := 2) (i := 2) (x := a2) (by decide +kernel) rfl (lv_at hl 2 rfl) ?_
  refine lv_iload_n hx hb (k := 3) (i := 3) (x := a3) (by decide +kernel) rfl (lv_at hl 3 rfl) ?_
  refine lcall (d := 12) (j := m7_move) (a := 0) (as := [.inr a1, .inr a2, .inr a3]) (X := (qo, .inl (cA 2, 1, .inr (.inl fo))) :: X) (own := RL) (x := 29) (rest := [.int 0, .ref qo]) hl0 hr (by decide) rfl rfl hx hts hb hown hP hD hK hWX hA hS (hl.1.trans hml.symm) (lq 18 rfl) (lq 19 rfl) (lq 20 rfl) ⟨by decide, by decide, by decide +kernel, by decide +kernel⟩ (by show (2 : Nat) ≤ 8; decide) (by decide +kernel) rfl (fun E τ e1 ce q9 H locs hP hS h1 h2 h3 => ?_) (fun v τ e1 H locs hP hS => ?_)
  · obtain ⟨i, hi⟩ := hE.thrown e1
    have hD := wOX_D (τ := τ) hD
    match i, hi with
    | 0, hi =>
      cases hi
      refine vx_catch (name := "java/lang/IndexOutOfBoundsException") hown [] ⟨0, 12, 15, 21⟩ [⟨0, 12, 19, 15⟩] (htab.trans rfl) (fun z hz => by cases hz) rfl (by decide) (ts_of hts (lq 10 rfl) rfl) (va_Nw.use rfl (hWX.2.1 _ (lq 11 rfl) rfl)) h1 h2 h3 ?_
      refine lv_astore hx hb (i := 5) (by decide +kernel) hl (by decide) rfl (fun ls hl => ?_)
      refine lv_iconst hx hb (n := 1) (v := 1) (by decide +kernel) rfl ?_
      refine W.widen (k := 2) (n := 12) (by decide +kernel) (by decide +kernel) ?_
      exact vx_ret (W.zret hx hb hrt rfl (fun t ht hW => ⟨_, _, rfl, Or.inr ⟨0, _, τ, fo, e1, rfl, rfl, rfl⟩, by rw [ht]; exact hP, hD, hS.F ht⟩) hS.2.2 (by decide +kernel) hlk)
    | 1, hi =>
      cases hi
      refine vx_catch (name := "java/lang/UnsupportedOperationException") hown [⟨0, 12, 15, 21⟩] ⟨0, 12, 19, 15⟩ [] (htab.trans rfl) (fun z hz => by cases List.mem_singleton.mp hz; exact Or.inr ⟨by decide, "java/lang/IndexOutOfBoundsException", ts_of hts (lq 10 rfl) rfl, hN _ (by decide) _ (by decide) (by decide)⟩) rfl (by decide) (ts_of hts (lq 5 rfl) rfl) (va_Nw.use rfl (hWX.2.1 _ (lq 6 rfl) rfl)) h1 h2 h3 ?_
      refine lv_astore hx hb (i := 5) (by decide +kernel) hl (by decide) rfl (fun ls hl => ?_)
      refine lv_iconst hx hb (n := 2) (v := 2) (by decide +kernel) rfl ?_
      refine W.widen (k := 2) (n := 12) (by decide +kernel) (by decide +kernel) ?_
      exact vx_ret (W.zret hx hb hrt rfl (fun t ht hW => ⟨_, _, rfl, Or.inr ⟨1, _, τ, fo, e1, rfl, rfl, rfl⟩, by rw [ht]; exact hP, hD, hS.F ht⟩) hS.2.2 (by decide +kernel) hlk)
    | i + 2, hi => cases hi
  · obtain ⟨v, rfl⟩ := hE.ret e1
    have hD := wOX_D (τ := τ) hD
    refine W.eq (g2 := F0 m 10 ls [.int v, .int 0, .ref qo]) rfl ?_
    refine lv_i2l hx hb (by decide +kernel) rfl ?_
    refine va_last hx hb hK hP hD hS (31 + 0) 2 (wOX_get (j := 0) rfl) rfl vp01 (by decide +kernel) (fun H locs hP hD hS => ?_)
    rw [wOX_set (j := 0)] at hP hD
    refine lv_goto hx hb (off := 11) (tgt := 23) (by decide +kernel) (by decide) ?_
    refine lv_iconst hx hb (n := 0) (v := 0) (by decide +kernel) rfl ?_
    refine W.widen (k := 2) (n := 12) (by decide +kernel) (by decide +kernel) ?_
    exact vx_ret (W.zret hx hb hrt rfl (fun t ht hW => ⟨_, _, rfl, Or.inl ⟨v, τ, _, e1, rfl, rfl, rfl⟩, by rw [ht]; exact hP, hD, hS.F ht⟩) hS.2.2 (by decide +kernel) hlk)
theorem w_pass {σ : Sg} {r : RS} {X : va_W} {qo : Nat} {fo : Nat → Int64} (hl0 : l.stackTraces = false) (hr : RR 12 m7_pass [.inl 0] σ r) (hE : RE ["java/lang/UnsupportedOperationException"] r) : LM l D A ad adV cA ⟨RL, "pass", "(LFerryDraughts;[J)I"⟩ method_8_code 3 [(0, 8, 11, 15)] [.ref (ad 0), .ref qo] (wO ad cA σ ++ (qo, .inl (cA 2, 1, .inr (.inl fo))) :: X) (WG ad cA X qo gL ["java/lang/UnsupportedOperationException"] r) := by
  refine lm_of (by decide) ?_ (Nat.le_of_ble_eq_true rfl)
  rintro p e R s m args below meth c rfl hx hb hml hown hts hlk hrt htab ⟨hP, hK, hD, hWX, hA, hN⟩ ls hl
  have hl : lv_has ls 3 [(0, .ref (ad 0)), (1, .ref qo)] := hl
  have hS : va_S A s.heap s.heap [] := va_S.rf
  refine lv_aload_n hx hb (k := 1) (i := 1) (x := qo) (by decide +kernel) rfl (lv_at hl 1 rfl) ?_
  refine lv_iconst hx hb (n := 0) (v := 0) (by decide +kernel) rfl ?_
  refine lv_aload_n hx hb (k := 0) (i := 0) (x := ad 0) (by decide +kernel) rfl (lv_at hl 0 rfl) ?_
  refine lcall (d := 12) (j := m7_pass) (a := 0) (as := []) (X := (qo, .inl (cA 2, 1, .inr (.inl fo))) :: X) (own := RL) (x := 33) (rest := [.int 0, .ref qo]) hl0 hr (by decide) rfl rfl hx hts hb hown hP hD hK hWX hA hS (hl.1.trans hml.symm) (lq 21 rfl) (lq 22 rfl) (lq 23 rfl) ⟨by decide, by decide, by decide +kernel, by decide +kernel⟩ (by show (2 : Nat) ≤ 8; decide) (by decide +kernel) rfl (fun E τ e1 ce q9 H locs hP hS h1 h2 h3 => ?_) (fun v τ e1 H locs hP hS => ?_)
  · obtain ⟨i, hi⟩ := hE.thrown e1
    have hD := wOX_D (τ := τ) hD
    match i, hi with
    | 0, hi =>
      cases hi
      refine vx_catch (name := "java/lang/UnsupportedOperationException") hown [] ⟨0, 8, 11, 15⟩ [] (htab.trans rfl) (fun z hz => by cases hz) rfl (by decide) (ts_of hts (lq 5 rfl) rfl) (va_Nw.use rfl (hWX.2.1 _ (lq 6 rfl) rfl)) h1 h2 h3 ?_
      refine lv_astore_n hx hb (k := 2) (i := 2) (by decide +kernel) rfl hl (by decide) rfl (fun ls hl => ?_)
      refine lv_iconst hx hb (n := 1) (v := 1) (by decide +kernel) rfl ?_
      refine W.widen (k := 2) (n := 12) (by decide +kernel) (by decide +kernel) ?_
      exact vx_ret (W.zret hx hb hrt rfl (fun t ht hW => ⟨_, _, rfl, Or.inr ⟨0, _, τ, fo, e1, rfl, rfl, rfl⟩, by rw [ht]; exact hP, hD, hS.F ht⟩) hS.2.2 (by decide +kernel) hlk)
    | i + 1, hi => cases hi
  · obtain ⟨v, rfl⟩ := hE.ret e1
    have hD := wOX_D (τ := τ) hD
    refine W.eq (g2 := F0 m 6 ls [.int v, .int 0, .ref qo]) rfl ?_
    refine lv_i2l hx hb (by decide +kernel) rfl ?_
    refine va_last hx hb hK hP hD hS (31 + 0) 2 (wOX_get (j := 0) rfl) rfl vp01 (by decide +kernel) (fun H locs hP hD hS => ?_)
    rw [wOX_set (j := 0)] at hP hD
    refine lv_goto hx hb (off := 6) (tgt := 14) (by decide +kernel) (by decide) ?_
    refine lv_iconst hx hb (n := 0) (v := 0) (by decide +kernel) rfl ?_
    refine W.widen (k := 2) (n := 12) (by decide +kernel) (by decide +kernel) ?_
    exact vx_ret (W.zret hx hb hrt rfl (fun t ht hW => ⟨_, _, rfl, Or.inl ⟨v, τ, _, e1, rfl, rfl, rfl⟩, by rw [ht]; exact hP, hD, hS.F ht⟩) hS.2.2 (by decide +kernel) hlk)
theorem w_ferryOf {σ : Sg} {r : RS} {X : va_W} {qo : Nat} {fo : Nat → Int64} {a1 a2 : Int32} (hl0 : l.stackTraces = false) (hr : RR 12 m7_ferryOf [.inl 0, .inr a1, .inr a2] σ r) (hE : RE ["java/lang/IndexOutOfBoundsException", "java/lang/IllegalArgumentException"] r) : LM l D A ad adV cA ⟨RL, "ferryOf", "(LFerryDraughts;II[J)I"⟩ method_9_code 5 [(0, 10, 13, 21), (0, 10, 17, 13)] [.ref (ad 0), .int a1, .int a2, .ref qo] (wO ad cA σ ++ (qo, .inl (cA 2, 1, .inr (.inl fo))) :: X) (WG ad cA X qo gL ["java/lang/IndexOutOfBoundsException", "java/lang/IllegalArgumentException"] r) := by
  refine lm_of (by decide) ?_ (Nat.le_of_ble_eq_true rfl)
  rintro p e R s m args below meth c rfl hx hb hml hown hts hlk hrt htab ⟨hP, hK, hD, hWX, hA, hN⟩ ls hl
  have hl : lv_has ls 5 [(0, .ref (ad 0)), (1, .int a1), (2, .int a2), (3, .ref qo)] := hl
  have hS : va_S A s.heap s.heap [] := va_S.rf
  refine lv_aload_n hx hb (k := 3) (i := 3) (x := qo) (by decide +kernel) rfl (lv_at hl 3 rfl) ?_
  refine lv_iconst hx hb (n := 0) (v := 0) (by decide +kernel) rfl ?_
  refine lv_aload_n hx hb (k := 0) (i := 0) (x := ad 0) (by decide +kernel) rfl (lv_at hl 0 rfl) ?_
  refine lv_iload_n hx hb (k := 1) (i := 1) (x := a1) (by decide +kernel) rfl (lv_at hl 1 rfl) ?_
  refine lv_iload_n hx hb (k := 2) (i := 2) (x := a2) (by decide +kernel) rfl (lv_at hl 2 rfl) ?_
  refine lcall (d := 12) (j := m7_ferryOf) (a := 0) (as := [.inr a1, .inr a2]) (X := (qo, .inl (cA 2, 1, .inr (.inl fo))) :: X) (own := RL) (x := 37) (rest := [.int 0, .ref qo]) hl0 hr (by decide) rfl rfl hx hts hb hown hP hD hK hWX hA hS (hl.1.trans hml.symm) (lq 24 rfl) (lq 25 rfl) (lq 26 rfl) ⟨by decide, by decide, by decide +kernel, by decide +kernel⟩ (by show (2 : Nat) ≤ 8; decide) (by decide +kernel) rfl (fun E τ e1 ce q9 H locs hP hS h1 h2 h3 => ?_) (fun v τ e1 H locs hP hS => ?_)
  · obtain ⟨i, hi⟩ := hE.thrown e1
    have hD := wOX_D (τ := τ) hD
    match i, hi with
    | 0, hi =>
      cases hi
      refine vx_catch (name := "java/lang/IndexOutOfBoundsException") hown [] ⟨0, 10, 13, 21⟩ [⟨0, 10, 17, 13⟩] (htab.trans rfl) (fun z hz => by cases hz) rfl (by decide) (ts_of hts (lq 10 rfl) rfl) (va_Nw.use rfl (hWX.2.1 _ (lq 11 rfl) rfl)) h1 h2 h3 ?_
      refine lv_astore hx hb (i := 4) (by decide +kernel) hl (by decide) rfl (fun ls hl => ?_)
      refine lv_iconst hx hb (n := 1) (v := 1) (by decide +kernel) rfl ?_
      refine W.widen (k := 2) (n := 12) (by decide +kernel) (by decide +kernel) ?_
      exact vx_ret (W.zret hx hb hrt rfl (fun t ht hW => ⟨_, _, rfl, Or.inr ⟨0, _, τ, fo, e1, rfl, rfl, rfl⟩, by rw [ht]; exact hP, hD, hS.F ht⟩) hS.2.2 (by decide +kernel) hlk)
    | 1, hi =>
      cases hi
      refine vx_catch (name := "java/lang/IllegalArgumentException") hown [⟨0, 10, 13, 21⟩] ⟨0, 10, 17, 13⟩ [] (htab.trans rfl) (fun z hz => by cases List.mem_singleton.mp hz; exact Or.inr ⟨by decide, "java/lang/IndexOutOfBoundsException", ts_of hts (lq 10 rfl) rfl, hN _ (by decide) _ (by decide) (by decide)⟩) rfl (by decide) (ts_of hts (lq 3 rfl) rfl) (va_Nw.use rfl (hWX.2.1 _ (lq 4 rfl) rfl)) h1 h2 h3 ?_
      refine lv_astore hx hb (i := 4) (by decide +kernel) hl (by decide) rfl (fun ls hl => ?_)
      refine lv_iconst hx hb (n := 2) (v := 2) (by decide +kernel) rfl ?_
      refine W.widen (k := 2) (n := 12) (by decide +kernel) (by decide +kernel) ?_
      exact vx_ret (W.zret hx hb hrt rfl (fun t ht hW => ⟨_, _, rfl, Or.inr ⟨1, _, τ, fo, e1, rfl, rfl, rfl⟩, by rw [ht]; exact hP, hD, hS.F ht⟩) hS.2.2 (by decide +kernel) hlk)
    | i + 2, hi => cases hi
  · obtain ⟨v, rfl⟩ := hE.ret e1
    have hD := wOX_D (τ := τ) hD
    refine W.eq (g2 := F0 m 8 ls [.int v, .int 0, .ref qo]) rfl ?_
    refine lv_i2l hx hb (by decide +kernel) rfl ?_
    refine va_last hx hb hK hP hD hS (31 + 0) 2 (wOX_get (j := 0) rfl) rfl vp01 (by decide +kernel) (fun H locs hP hD hS => ?_)
    rw [wOX_set (j := 0)] at hP hD
    refine lv_goto hx hb (off := 11) (tgt := 21) (by decide +kernel) (by decide) ?_
    refine lv_iconst hx hb (n := 0) (v := 0) (by decide +kernel) rfl ?_
    refine W.widen (k := 2) (n := 12) (by decide +kernel) (by decide +kernel) ?_
    exact vx_ret (W.zret hx hb hrt rfl (fun t ht hW => ⟨_, _, rfl, Or.inl ⟨v, τ, _, e1, rfl, rfl, rfl⟩, by rw [ht]; exact hP, hD, hS.F ht⟩) hS.2.2 (by decide +kernel) hlk)
theorem w_at {σ : Sg} {r : RS} {X : va_W} {qo : Nat} {fo : Nat → Int64} {a1 a2 : Int32} (hl0 : l.stackTraces = false) (hr : RR 12 m7_at [.inl 0, .inr a1, .inr a2] σ r) (hE : RE ["java/lang/IndexOutOfBoundsException"] r) : LM l D A ad adV cA ⟨RL, "at", "(LFerryDraughts;II[J)I"⟩ method_10_code 5 [(0, 10, 13, 21)] [.ref (ad 0), .int a1, .int a2, .ref qo] (wO ad cA σ ++ (qo, .inl (cA 2, 1, .inr (.inl fo))) :: X) (WG ad cA X qo gL ["java/lang/IndexOutOfBoundsException"] r) := by
  refine lm_of (by decide) ?_ (Nat.le_of_ble_eq_true rfl)
  rintro p e R s m args below meth c rfl hx hb hml hown hts hlk hrt htab ⟨hP, hK, hD, hWX, hA, hN⟩ ls hl
  have hl : lv_has ls 5 [(0, .ref (ad 0)), (1, .int a1), (2, .int a2), (3, .ref qo)] := hl
  have hS : va_S A s.heap s.heap [] := va_S.rf
  refine lv_aload_n hx hb (k := 3) (i := 3) (x := qo) (by decide +kernel) rfl (lv_at hl 3 rfl) ?_
  refine lv_iconst hx hb (n := 0) (v := 0) (by decide +kernel) rfl ?_
  refine lv_aload_n hx hb (k := 0) (i := 0) (x := ad 0) (by decide +kernel) rfl (lv_at hl 0 rfl) ?_
  refine lv_iload_n hx hb (k := 1) (i := 1) (x := a1) (by decide +kernel) rfl (lv_at hl 1 rfl) ?_
  refine lv_iload_n hx hb (k := 2) (i := 2) (x := a2) (by decide +kernel) rfl (lv_at hl 2 rfl) ?_
  refine lcall (d := 12) (j := m7_at) (a := 0) (as := [.inr a1, .inr a2]) (X := (qo, .inl (cA 2, 1, .inr (.inl fo))) :: X) (own := RL) (x := 40) (rest := [.int 0, .ref qo]) hl0 hr (by decide) rfl rfl hx hts hb hown hP hD hK hWX hA hS (hl.1.trans hml.symm) (lq 27 rfl) (lq 28 rfl) (lq 29 rfl) ⟨by decide, by decide, by decide +kernel, by decide +kernel⟩ (by show (2 : Nat) ≤ 8; decide) (by decide +kernel) rfl (fun E τ e1 ce q9 H locs hP hS h1 h2 h3 => ?_) (fun v τ e1 H locs hP hS => ?_)
  · obtain ⟨i, hi⟩ := hE.thrown e1
    have hD := wOX_D (τ := τ) hD
    match i, hi with
    | 0, hi =>
      cases hi
      refine vx_catch (name := "java/lang/IndexOutOfBoundsException") hown [] ⟨0, 10, 13, 21⟩ [] (htab.trans rfl) (fun z hz => by cases hz) rfl (by decide) (ts_of hts (lq 10 rfl) rfl) (va_Nw.use rfl (hWX.2.1 _ (lq 11 rfl) rfl)) h1 h2 h3 ?_
      refine lv_astore hx hb (i := 4) (by decide +kernel) hl (by decide) rfl (fun ls hl => ?_)
      refine lv_iconst hx hb (n := 1) (v := 1) (by decide +kernel) rfl ?_
      refine W.widen (k := 2) (n := 12) (by decide +kernel) (by decide +kernel) ?_
      exact vx_ret (W.zret hx hb hrt rfl (fun t ht hW => ⟨_, _, rfl, Or.inr ⟨0, _, τ, fo, e1, rfl, rfl, rfl⟩, by rw [ht]; exact hP, hD, hS.F ht⟩) hS.2.2 (by decide +kernel) hlk)
    | i + 1, hi => cases hi
  · obtain ⟨v, rfl⟩ := hE.ret e1
    have hD := wOX_D (τ := τ) hD
    refine W.eq (g2 := F0 m 8 ls [.int v, .int 0, .ref qo]) rfl ?_
    refine lv_i2l hx hb (by decide +kernel) rfl ?_
    refine va_last hx hb hK hP hD hS (31 + 0) 2 (wOX_get (j := 0) rfl) rfl vp01 (by decide +kernel) (fun H locs hP hD hS => ?_)
    rw [wOX_set (j := 0)] at hP hD
    refine lv_goto hx hb (off := 7) (tgt := 17) (by decide +kernel) (by decide) ?_
    refine lv_iconst hx hb (n := 0) (v := 0) (by decide +kernel) rfl ?_
    refine W.widen (k := 2) (n := 12) (by decide +kernel) (by decide +kernel) ?_
    exact vx_ret (W.zret hx hb hrt rfl (fun t ht hW => ⟨_, _, rfl, Or.inl ⟨v, τ, _, e1, rfl, rfl, rfl⟩, by rw [ht]; exact hP, hD, hS.F ht⟩) hS.2.2 (by decide +kernel) hlk)
theorem w_lockAt {σ : Sg} {r : RS} {X : va_W} {qo : Nat} {fo : Nat → Int64} {a1 a2 : Int32} (hl0 : l.stackTraces = false) (hr : RR 12 m7_lockAt [.inl 0, .inr a1, .inr a2] σ r) (hE : RE ["java/lang/IndexOutOfBoundsException"] r) : LM l D A ad adV cA ⟨RL, "lockAt", "(LFerryDraughts;II[J)I"⟩ method_11_code 5 [(0, 10, 13, 21)] [.ref (ad 0), .int a1, .int a2, .ref qo] (wO ad cA σ ++ (qo, .inl (cA 2, 1, .inr (.inl fo))) :: X) (WG ad cA X qo gL ["java/lang/IndexOutOfBoundsException"] r) := by
  refine lm_of (by decide) ?_ (Nat.le_of_ble_eq_true rfl)
  rintro p e R s m args below meth c rfl hx hb hml hown hts hlk hrt htab ⟨hP, hK, hD, hWX, hA, hN⟩ ls hl
  have hl : lv_has ls 5 [(0, .ref (ad 0)), (1, .int a1), (2, .int a2), (3, .ref qo)] := hl
  have hS : va_S A s.heap s.heap [] := va_S.rf
  refine lv_aload_n hx hb (k := 3) (i := 3) (x := qo) (by decide +kernel) rfl (lv_at hl 3 rfl) ?_
  refine lv_iconst hx hb (n := 0) (v := 0) (by decide +kernel) rfl ?_
  refine lv_aload_n hx hb (k := 0) (i := 0) (x := ad 0) (by decide +kernel) rfl (lv_at hl 0 rfl) ?_
  refine lv_iload_n hx hb (k := 1) (i := 1) (x := a1) (by decide +kernel) rfl (lv_at hl 1 rfl) ?_
  refine lv_iload_n hx hb (k := 2) (i := 2) (x := a2) (by decide +kernel) rfl (lv_at hl 2 rfl) ?_
  refine lcall (d := 12) (j := m7_lockAt) (a := 0) (as := [.inr a1, .inr a2]) (X := (qo, .inl (cA 2, 1, .inr (.inl fo))) :: X) (own := RL) (x := 43) (rest := [.int 0, .ref qo]) hl0 hr (by decide) rfl rfl hx hts hb hown hP hD hK hWX hA hS (hl.1.trans hml.symm) (lq 30 rfl) (lq 31 rfl) (lq 32 rfl) ⟨by decide, by decide, by decide +kernel, by decide +kernel⟩ (by show (2 : Nat) ≤ 8; decide) (by decide +kernel) rfl (fun E τ e1 ce q9 H locs hP hS h1 h2 h3 => ?_) (fun v τ e1 H locs hP hS => ?_)
  · obtain ⟨i, hi⟩ := hE.thrown e1
    have hD := wOX_D (τ := τ) hD
    match i, hi with
    | 0, hi =>
      cases hi
      refine vx_catch (name := "java/lang/IndexOutOfBoundsException") hown [] ⟨0, 10, 13, 21⟩ [] (htab.trans rfl) (fun z hz => by cases hz) rfl (by decide) (ts_of hts (lq 10 rfl) rfl) (va_Nw.use rfl (hWX.2.1 _ (lq 11 rfl) rfl)) h1 h2 h3 ?_
      refine lv_astore hx hb (i := 4) (by decide +kernel) hl (by decide) rfl (fun ls hl => ?_)
      refine lv_iconst hx hb (n := 1) (v := 1) (by decide +kernel) rfl ?_
      refine W.widen (k := 2) (n := 12) (by decide +kernel) (by decide +kernel) ?_
      exact vx_ret (W.zret hx hb hrt rfl (fun t ht hW => ⟨_, _, rfl, Or.inr ⟨0, _, τ, fo, e1, rfl, rfl, rfl⟩, by rw [ht]; exact hP, hD, hS.F ht⟩) hS.2.2 (by decide +kernel) hlk)
    | i + 1, hi => cases hi
  · obtain ⟨v, rfl⟩ := hE.ret e1
    have hD := wOX_D (τ := τ) hD
    refine W.eq (g2 := F0 m 8 ls [.int v, .int 0, .ref qo]) rfl ?_
    refine lv_i2l hx hb (by decide +kernel) rfl ?_
    refine va_last hx hb hK hP hD hS (31 + 0) 2 (wOX_get (j := 0) rfl) rfl vp01 (by decide +kernel) (fun H locs hP hD hS => ?_)
    rw [wOX_set (j := 0)] at hP hD
    refine lv_goto hx hb (off := 7) (tgt := 17) (by decide +kernel) (by decide) ?_
    refine lv_iconst hx hb (n := 0) (v := 0) (by decide +kernel) rfl ?_
    refine W.widen (k := 2) (n := 12) (by decide +kernel) (by decide +kernel) ?_
    exact vx_ret (W.zret hx hb hrt rfl (fun t ht hW => ⟨_, _, rfl, Or.inl ⟨v, τ, _, e1, rfl, rfl, rfl⟩, by rw [ht]; exact hP, hD, hS.F ht⟩) hS.2.2 (by decide +kernel) hlk)
theorem w_isFog {σ : Sg} {r : RS} {X : va_W} {qo : Nat} {fo : Nat → Int64} {a1 a2 : Int32} (hl0 : l.stackTraces = false) (hr : RR 12 m7_isFog [.inl 0, .inr a1, .inr a2] σ r) (hE : RE ["java/lang/IndexOutOfBoundsException"] r) : LM l D A ad adV cA ⟨RL, "isFog", "(LFerryDraughts;II[J)I"⟩ method_12_code 5 [(0, 17, 20, 21)] [.ref (ad 0), .int a1, .int a2, .ref qo] (wO ad cA σ ++ (qo, .inl (cA 2, 1, .inr (.inl fo))) :: X) (WG ad cA X qo gB ["java/lang/IndexOutOfBoundsException"] r) := by
  refine lm_of (by decide) ?_ (Nat.le_of_ble_eq_true rfl)
  rintro p e R s m args below meth c rfl hx hb hml hown hts hlk hrt htab ⟨hP, hK, hD, hWX, hA, hN⟩ ls hl
  have hl : lv_has ls 5 [(0, .ref (ad 0)), (1, .int a1), (2, .int a2), (3, .ref qo)] := hl
  have hS : va_S A s.heap s.heap [] := va_S.rf
  refine lv_aload_n hx hb (k := 3) (i := 3) (x := qo) (by decide +kernel) rfl (lv_at hl 3 rfl) ?_
  refine lv_iconst hx hb (n := 0) (v := 0) (by decide +kernel) rfl ?_
  refine lv_aload_n hx hb (k := 0) (i := 0) (x := ad 0) (by decide +kernel) rfl (lv_at hl 0 rfl) ?_
  refine lv_iload_n hx hb (k := 1) (i := 1) (x := a1) (by decide +kernel) rfl (lv_at hl 1 rfl) ?_
  refine lv_iload_n hx hb (k := 2) (i := 2) (x := a2) (by decide +kernel) rfl (lv_at hl 2 rfl) ?_
  refine lcall (d := 12) (j := m7_isFog) (a := 0) (as := [.inr a1, .inr a2]) (X := (qo, .inl (cA 2, 1, .inr (.inl fo))) :: X) (own := RL) (x := 46) (rest := [.int 0, .ref qo]) hl0 hr (by decide) rfl rfl hx hts hb hown hP hD hK hWX hA hS (hl.1.trans hml.symm) (lq 33 rfl) (lq 34 rfl) (lq 35 rfl) ⟨by decide, by decide, by decide +kernel, by decide +kernel⟩ (by show (2 : Nat) ≤ 8; decide) (by decide +kernel) rfl (fun E τ e1 ce q9 H locs hP hS h1 h2 h3 => ?_) (fun v τ e1 H locs hP hS => ?_)
  · obtain ⟨i, hi⟩ := hE.thrown e1
    have hD := wOX_D (τ := τ) hD
    match i, hi with
    | 0, hi =>
      cases hi
      refine vx_catch (name := "java/lang/IndexOutOfBoundsException") hown [] ⟨0, 17, 20, 21⟩ [] (htab.trans rfl) (fun z hz => by cases hz) rfl (by decide) (ts_of hts (lq 10 rfl) rfl) (va_Nw.use rfl (hWX.2.1 _ (lq 11 rfl) rfl)) h1 h2 h3 ?_
      refine lv_astore hx hb (i := 4) (by decide +kernel) hl (by decide) rfl (fun ls hl => ?_)
      refine lv_iconst hx hb (n := 1) (v := 1) (by decide +kernel) rfl ?_
      refine W.widen (k := 2) (n := 12) (by decide +kernel) (by decide +kernel) ?_
      exact vx_ret (W.zret hx hb hrt rfl (fun t ht hW => ⟨_, _, rfl, Or.inr ⟨0, _, τ, fo, e1, rfl, rfl, rfl⟩, by rw [ht]; exact hP, hD, hS.F ht⟩) hS.2.2 (by decide +kernel) hlk)
    | i + 1, hi => cases hi
  · obtain ⟨v, rfl⟩ := hE.ret e1
    have hD := wOX_D (τ := τ) hD
    refine W.eq (g2 := F0 m 8 ls [.int v, .int 0, .ref qo]) rfl ?_
    refine lv_if_eq hx hb (off := 7) (tgt := 15) (by decide +kernel) (by decide) (fun hv => ?_) (fun hv => ?_)
    · refine lv_lconst hx hb (n := 0) (v := 0) (by decide +kernel) rfl ?_
      refine va_last hx hb hK hP hD hS (31 + 0) 2 (wOX_get (j := 0) rfl) rfl vp01 (by decide +kernel) (fun H locs hP hD hS => ?_)
      rw [wOX_set (j := 0)] at hP hD
      refine lv_goto hx hb (off := 7) (tgt := 24) (by decide +kernel) (by decide) ?_
      refine lv_iconst hx hb (n := 0) (v := 0) (by decide +kernel) rfl ?_
      refine W.widen (k := 2) (n := 12) (by decide +kernel) (by decide +kernel) ?_
      exact vx_ret (W.zret hx hb hrt rfl (fun t ht hW => ⟨_, _, rfl, Or.inl ⟨v, τ, _, e1, rfl, (if_pos hv).symm, rfl⟩, by rw [ht]; exact hP, hD, hS.F ht⟩) hS.2.2 (by decide +kernel) hlk)
    · refine lv_lconst hx hb (n := 1) (v := 1) (by decide +kernel) rfl ?_
      refine lv_goto hx hb (off := 4) (tgt := 16) (by decide +kernel) (by decide) ?_
      refine va_last hx hb hK hP hD hS (31 + 0) 2 (wOX_get (j := 0) rfl) rfl vp01 (by decide +kernel) (fun H locs hP hD hS => ?_)
      rw [wOX_set (j := 0)] at hP hD
      refine lv_goto hx hb (off := 7) (tgt := 24) (by decide +kernel) (by decide) ?_
      refine lv_iconst hx hb (n := 0) (v := 0) (by decide +kernel) rfl ?_
      refine W.widen (k := 2) (n := 12) (by decide +kernel) (by decide +kernel) ?_
      exact vx_ret (W.zret hx hb hrt rfl (fun t ht hW => ⟨_, _, rfl, Or.inl ⟨v, τ, _, e1, rfl, (if_neg hv).symm, rfl⟩, by rw [ht]; exact hP, hD, hS.F ht⟩) hS.2.2 (by decide +kernel) hlk)
theorem w_would {σ : Sg} {r : RS} {X : va_W} {qo : Nat} {fo : Nat → Int64} {a1 a2 a3 : Int32} (hl0 : l.stackTraces = false) (hr : RR 12 m7_would [.inl 0, .inr a1, .inr a2, .inr a3] σ r) (hE : RE ["java/lang/IndexOutOfBoundsException"] r) : LM l D A ad adV cA ⟨RL, "would", "(LFerryDraughts;IIZ[J)I"⟩ method_13_code 6 [(0, 12, 15, 21)] [.ref (ad 0), .int a1, .int a2, .int a3, .ref qo] (wO ad cA σ ++ (qo, .inl (cA 2, 1, .inr (.inl fo))) :: X) (WG ad cA X qo gL ["java/lang/IndexOutOfBoundsException"] r) := by
  refine lm_of (by decide) ?_ (Nat.le_of_ble_eq_true rfl)
  rintro p e R s m args below meth c rfl hx hb hml hown hts hlk hrt htab ⟨hP, hK, hD, hWX, hA, hN⟩ ls hl
  have hl : lv_has ls 6 [(0, .ref (ad 0)), (1, .int a1), (2, .int a2), (3, .int a3), (4, .ref qo)] := hl
  have hS : va_S A s.heap s.heap [] := va_S.rf
  refine lv_aload hx hb (i := 4) (x := qo) (by decide +kernel) (lv_at hl 4 rfl) ?_
  refine lv_iconst hx hb (n := 0) (v := 0) (by decide +kernel) rfl ?_
  refine lv_aload_n hx hb (k := 0) (i := 0) (x := ad 0) (by decide +kernel) rfl (lv_at hl 0 rfl) ?_
  refine lv_iload_n hx hb (k := 1) (i := 1) (x := a1) (by decide +kernel) rfl (lv_at hl 1 rfl) ?_
  refine lv_iload_n hx hb (k := 2) (i := 2) (x := a2) (by decide +kernel) rfl (lv_at hl 2 rfl) ?_
  refine lv_iload_n hx hb (k := 3) (i := 3) (x := a3) (by decide +kernel) rfl (lv_at hl 3 rfl) ?_
  refine lcall (d := 12) (j := m7_would) (a := 0) (as := [.inr a1, .inr a2, .inr a3]) (X := (qo, .inl (cA 2, 1, .inr (.inl fo))) :: X) (own := RL) (x := 50) (rest := [.int 0, .ref qo]) hl0 hr (by decide) rfl rfl hx hts hb hown hP hD hK hWX hA hS (hl.1.trans hml.symm) (lq 36 rfl) (lq 37 rfl) (lq 38 rfl) ⟨by decide, by decide, by decide +kernel, by decide +kernel⟩ (by show (2 : Nat) ≤ 8; decide) (by decide +kernel) rfl (fun E τ e1 ce q9 H locs hP hS h1 h2 h3 => ?_) (fun v τ e1 H locs hP hS => ?_)
  · obtain ⟨i, hi⟩ := hE.thrown e1
    have hD := wOX_D (τ := τ) hD
    match i, hi with
    | 0, hi =>
      cases hi
      refine vx_catch (name := "java/lang/IndexOutOfBoundsException") hown [] ⟨0, 12, 15, 21⟩ [] (htab.trans rfl) (fun z hz => by cases hz) rfl (by decide) (ts_of hts (lq 10 rfl) rfl) (va_Nw.use rfl (hWX.2.1 _ (lq 11 rfl) rfl)) h1 h2 h3 ?_
      refine lv_astore hx hb (i := 5) (by decide +kernel) hl (by decide) rfl (fun ls hl => ?_)
      refine lv_iconst hx hb (n := 1) (v := 1) (by decide +kernel) rfl ?_
      refine W.widen (k := 2) (n := 12) (by decide +kernel) (by decide +kernel) ?_
      exact vx_ret (W.zret hx hb hrt rfl (fun t ht hW => ⟨_, _, rfl, Or.inr ⟨0, _, τ, fo, e1, rfl, rfl, rfl⟩, by rw [ht]; exact hP, hD, hS.F ht⟩) hS.2.2 (by decide +kernel) hlk)
    | i + 1, hi => cases hi
  · obtain ⟨v, rfl⟩ := hE.ret e1
    have hD := wOX_D (τ := τ) hD
    refine W.eq (g2 := F0 m 10 ls [.int v, .int 0, .ref qo]) rfl ?_
    refine lv_i2l hx hb (by decide +kernel) rfl ?_
    refine va_last hx hb hK hP hD hS (31 + 0) 2 (wOX_get (j := 0) rfl) rfl vp01 (by decide +kernel) (fun H locs hP hD hS => ?_)
    rw [wOX_set (j := 0)] at hP hD
    refine lv_goto hx hb (off := 7) (tgt := 19) (by decide +kernel) (by decide) ?_
    refine lv_iconst hx hb (n := 0) (v := 0) (by decide +kernel) rfl ?_
    refine W.widen (k := 2) (n := 12) (by decide +kernel) (by decide +kernel) ?_
    exact vx_ret (W.zret hx hb hrt rfl (fun t ht hW => ⟨_, _, rfl, Or.inl ⟨v, τ, _, e1, rfl, rfl, rfl⟩, by rw [ht]; exact hP, hD, hS.F ht⟩) hS.2.2 (by decide +kernel) hlk)
theorem w_why {σ : Sg} {r : RS} {X : va_W} {qo : Nat} {fo : Nat → Int64} {a1 a2 a3 a4 : Int32} (hl0 : l.stackTraces = false) (hr : RR 12 m7_why [.inl 0, .inr a1, .inr a2, .inr a3, .inr a4] σ r) (hE : RE ["java/lang/IndexOutOfBoundsException", "java/util/NoSuchElementException"] r) : LM l D A ad adV cA ⟨RL, "why", "(LFerryDraughts;IIZZ[J)I"⟩ method_14_code 7 [(0, 14, 17, 21), (0, 14, 21, 57)] [.ref (ad 0), .int a1, .int a2, .int a3, .int a4, .ref qo] (wO ad cA σ ++ (qo, .inl (cA 2, 1, .inr (.inl fo))) :: X) (WG ad cA X qo gL ["java/lang/IndexOutOfBoundsException", "java/util/NoSuchElementException"] r) := by
  refine lm_of (by decide) ?_ (Nat.le_of_ble_eq_true rfl)
  rintro p e R s m args below meth c rfl hx hb hml hown hts hlk hrt htab ⟨hP, hK, hD, hWX, hA, hN⟩ ls hl
  have hl : lv_has ls 7 [(0, .ref (ad 0)), (1, .int a1), (2, .int a2), (3, .int a3), (4, .int a4), (5, .ref qo)] := hl
  have hS : va_S A s.heap s.heap [] := va_S.rf
  refine lv_aload hx hb (i := 5) (x := qo) (by decide +kernel) (lv_at hl 5 rfl) ?_
  refine lv_iconst hx hb (n := 0) (v := 0) (by decide +kernel) rfl ?_
  refine lv_aload_n hx hb (k := 0) (i := 0) (x := ad 0) (by decide +kernel) rfl (lv_at hl 0 rfl) ?_
  refine lv_iload_n hx hb (k := 1) (i := 1) (x := a1) (by decide +kernel) rfl (lv_at hl 1 rfl) ?_
  refine lv_iload_n hx hb (k := 2) (i := 2) (x := a2) (by decide +kernel) rfl (lv_at hl 2 rfl) ?_
  refine lv_iload_n hx hb (k := 3) (i := 3) (x := a3) (by decide +kernel) rfl (lv_at hl 3 rfl) ?_
  refine lv_iload hx hb (i := 4) (x := a4) (by decide +kernel) (lv_at hl 4 rfl) ?_
  refine lcall (d := 12) (j := m7_why) (a := 0) (as := [.inr a1, .inr a2, .inr a3, .inr a4]) (X := (qo, .inl (cA 2, 1, .inr (.inl fo))) :: X) (own := RL) (x := 53) (rest := [.int 0, .ref qo]) hl0 hr (by decide) rfl rfl hx hts hb hown hP hD hK hWX hA hS (hl.1.trans hml.symm) (lq 39 rfl) (lq 40 rfl) (lq 41 rfl) ⟨by decide, by decide, by decide +kernel, by decide +kernel⟩ (by show (2 : Nat) ≤ 8; decide) (by decide +kernel) rfl (fun E τ e1 ce q9 H locs hP hS h1 h2 h3 => ?_) (fun v τ e1 H locs hP hS => ?_)
  · obtain ⟨i, hi⟩ := hE.thrown e1
    have hD := wOX_D (τ := τ) hD
    match i, hi with
    | 0, hi =>
      cases hi
      refine vx_catch (name := "java/lang/IndexOutOfBoundsException") hown [] ⟨0, 14, 17, 21⟩ [⟨0, 14, 21, 57⟩] (htab.trans rfl) (fun z hz => by cases hz) rfl (by decide) (ts_of hts (lq 10 rfl) rfl) (va_Nw.use rfl (hWX.2.1 _ (lq 11 rfl) rfl)) h1 h2 h3 ?_
      refine lv_astore hx hb (i := 6) (by decide +kernel) hl (by decide) rfl (fun ls hl => ?_)
      refine lv_iconst hx hb (n := 1) (v := 1) (by decide +kernel) rfl ?_
      refine W.widen (k := 2) (n := 12) (by decide +kernel) (by decide +kernel) ?_
      exact vx_ret (W.zret hx hb hrt rfl (fun t ht hW => ⟨_, _, rfl, Or.inr ⟨0, _, τ, fo, e1, rfl, rfl, rfl⟩, by rw [ht]; exact hP, hD, hS.F ht⟩) hS.2.2 (by decide +kernel) hlk)
    | 1, hi =>
      cases hi
      refine vx_catch (name := "java/util/NoSuchElementException") hown [⟨0, 14, 17, 21⟩] ⟨0, 14, 21, 57⟩ [] (htab.trans rfl) (fun z hz => by cases List.mem_singleton.mp hz; exact Or.inr ⟨by decide, "java/lang/IndexOutOfBoundsException", ts_of hts (lq 10 rfl) rfl, hN _ (by decide) _ (by decide) (by decide)⟩) rfl (by decide) (ts_of hts (lq 42 rfl) rfl) (va_Nw.use rfl (hWX.2.1 _ (lq 43 rfl) rfl)) h1 h2 h3 ?_
      refine lv_astore hx hb (i := 6) (by decide +kernel) hl (by decide) rfl (fun ls hl => ?_)
      refine lv_iconst hx hb (n := 2) (v := 2) (by decide +kernel) rfl ?_
      refine W.widen (k := 2) (n := 12) (by decide +kernel) (by decide +kernel) ?_
      exact vx_ret (W.zret hx hb hrt rfl (fun t ht hW => ⟨_, _, rfl, Or.inr ⟨1, _, τ, fo, e1, rfl, rfl, rfl⟩, by rw [ht]; exact hP, hD, hS.F ht⟩) hS.2.2 (by decide +kernel) hlk)
    | i + 2, hi => cases hi
  · obtain ⟨v, rfl⟩ := hE.ret e1
    have hD := wOX_D (τ := τ) hD
    refine W.eq (g2 := F0 m 12 ls [.int v, .int 0, .ref qo]) rfl ?_
    refine lv_i2l hx hb (by decide +kernel) rfl ?_
    refine va_last hx hb hK hP hD hS (31 + 0) 2 (wOX_get (j := 0) rfl) rfl vp01 (by decide +kernel) (fun H locs hP hD hS => ?_)
    rw [wOX_set (j := 0)] at hP hD
    refine lv_goto hx hb (off := 11) (tgt := 25) (by decide +kernel) (by decide) ?_
    refine lv_iconst hx hb (n := 0) (v := 0) (by decide +kernel) rfl ?_
    refine W.widen (k := 2) (n := 12) (by decide +kernel) (by decide +kernel) ?_
    exact vx_ret (W.zret hx hb hrt rfl (fun t ht hW => ⟨_, _, rfl, Or.inl ⟨v, τ, _, e1, rfl, rfl, rfl⟩, by rw [ht]; exact hP, hD, hS.F ht⟩) hS.2.2 (by decide +kernel) hlk)
theorem w_to {σ : Sg} {r : RS} {X : va_W} {qo : Nat} {fo : Nat → Int64} {a1 a2 a3 : Int32} (hl0 : l.stackTraces = false) (hr : RR 12 m7_to [.inl 0, .inr a1, .inr a2, .inr a3] σ r) (hE : RE ["java/lang/IndexOutOfBoundsException", "java/util/NoSuchElementException"] r) : LM l D A ad adV cA ⟨RL, "to", "(LFerryDraughts;IIZ[J)I"⟩ method_15_code 6 [(0, 12, 15, 21), (0, 12, 19, 57)] [.ref (ad 0), .int a1, .int a2, .int a3, .ref qo] (wO ad cA σ ++ (qo, .inl (cA 2, 1, .inr (.inl fo))) :: X) (WG ad cA X qo gL ["java/lang/IndexOutOfBoundsException", "java/util/NoSuchElementException"] r) := by
  refine lm_of (by decide) ?_ (Nat.le_of_ble_eq_true rfl)
  rintro p e R s m args below meth c rfl hx hb hml hown hts hlk hrt htab ⟨hP, hK, hD, hWX, hA, hN⟩ ls hl
  have hl : lv_has ls 6 [(0, .ref (ad 0)), (1, .int a1), (2, .int a2), (3, .int a3), (4, .ref qo)] := hl
  have hS : va_S A s.heap s.heap [] := va_S.rf
  refine lv_aload hx hb (i := 4) (x := qo) (by decide +kernel) (lv_at hl 4 rfl) ?_
  refine lv_iconst hx hb (n := 0) (v := 0) (by decide +kernel) rfl ?_
  refine lv_aload_n hx hb (k := 0) (i := 0) (x := ad 0) (by decide +kernel) rfl (lv_at hl 0 rfl) ?_
  refine lv_iload_n hx hb (k := 1) (i := 1) (x := a1) (by decide +kernel) rfl (lv_at hl 1 rfl) ?_
  refine lv_iload_n hx hb (k := 2) (i := 2) (x := a2) (by decide +kernel) rfl (lv_at hl 2 rfl) ?_
  refine lv_iload_n hx hb (k := 3) (i := 3) (x := a3) (by decide +kernel) rfl (lv_at hl 3 rfl) ?_
  refine lcall (d := 12) (j := m7_to) (a := 0) (as := [.inr a1, .inr a2, .inr a3]) (X := (qo, .inl (cA 2, 1, .inr (.inl fo))) :: X) (own := RL) (x := 59) (rest := [.int 0, .ref qo]) hl0 hr (by decide) rfl rfl hx hts hb hown hP hD hK hWX hA hS (hl.1.trans hml.symm) (lq 44 rfl) (lq 45 rfl) (lq 46 rfl) ⟨by decide, by decide, by decide +kernel, by decide +kernel⟩ (by show (2 : Nat) ≤ 8; decide) (by decide +kernel) rfl (fun E τ e1 ce q9 H locs hP hS h1 h2 h3 => ?_) (fun v τ e1 H locs hP hS => ?_)
  · obtain ⟨i, hi⟩ := hE.thrown e1
    have hD := wOX_D (τ := τ) hD
    match i, hi with
    | 0, hi =>
      cases hi
      refine vx_catch (name := "java/lang/IndexOutOfBoundsException") hown [] ⟨0, 12, 15, 21⟩ [⟨0, 12, 19, 57⟩] (htab.trans rfl) (fun z hz => by cases hz) rfl (by decide) (ts_of hts (lq 10 rfl) rfl) (va_Nw.use rfl (hWX.2.1 _ (lq 11 rfl) rfl)) h1 h2 h3 ?_
      refine lv_astore hx hb (i := 5) (by decide +kernel) hl (by decide) rfl (fun ls hl => ?_)
      refine lv_iconst hx hb (n := 1) (v := 1) (by decide +kernel) rfl ?_
      refine W.widen (k := 2) (n := 12) (by decide +kernel) (by decide +kernel) ?_
      exact vx_ret (W.zret hx hb hrt rfl (fun t ht hW => ⟨_, _, rfl, Or.inr ⟨0, _, τ, fo, e1, rfl, rfl, rfl⟩, by rw [ht]; exact hP, hD, hS.F ht⟩) hS.2.2 (by decide +kernel) hlk)
    | 1, hi =>
      cases hi
      refine vx_catch (name := "java/util/NoSuchElementException") hown [⟨0, 12, 15, 21⟩] ⟨0, 12, 19, 57⟩ [] (htab.trans rfl) (fun z hz => by cases List.mem_singleton.mp hz; exact Or.inr ⟨by decide, "java/lang/IndexOutOfBoundsException", ts_of hts (lq 10 rfl) rfl, hN _ (by decide) _ (by decide) (by decide)⟩) rfl (by decide) (ts_of hts (lq 42 rfl) rfl) (va_Nw.use rfl (hWX.2.1 _ (lq 43 rfl) rfl)) h1 h2 h3 ?_
      refine lv_astore hx hb (i := 5) (by decide +kernel) hl (by decide) rfl (fun ls hl => ?_)
      refine lv_iconst hx hb (n := 2) (v := 2) (by decide +kernel) rfl ?_
      refine W.widen (k := 2) (n := 12) (by decide +kernel) (by decide +kernel) ?_
      exact vx_ret (W.zret hx hb hrt rfl (fun t ht hW => ⟨_, _, rfl, Or.inr ⟨1, _, τ, fo, e1, rfl, rfl, rfl⟩, by rw [ht]; exact hP, hD, hS.F ht⟩) hS.2.2 (by decide +kernel) hlk)
    | i + 2, hi => cases hi
  · obtain ⟨v, rfl⟩ := hE.ret e1
    have hD := wOX_D (τ := τ) hD
    refine W.eq (g2 := F0 m 10 ls [.int v, .int 0, .ref qo]) rfl ?_
    refine lv_i2l hx hb (by decide +kernel) rfl ?_
    refine va_last hx hb hK hP hD hS (31 + 0) 2 (wOX_get (j := 0) rfl) rfl vp01 (by decide +kernel) (fun H locs hP hD hS => ?_)
    rw [wOX_set (j := 0)] at hP hD
    refine lv_goto hx hb (off := 11) (tgt := 23) (by decide +kernel) (by decide) ?_
    refine lv_iconst hx hb (n := 0) (v := 0) (by decide +kernel) rfl ?_
    refine W.widen (k := 2) (n := 12) (by decide +kernel) (by decide +kernel) ?_
    exact vx_ret (W.zret hx hb hrt rfl (fun t ht hW => ⟨_, _, rfl, Or.inl ⟨v, τ, _, e1, rfl, rfl, rfl⟩, by rw [ht]; exact hP, hD, hS.F ht⟩) hS.2.2 (by decide +kernel) hlk)
theorem w_moves {σ : Sg} {r : RS} {X : va_W} {qo : Nat} {fo : Nat → Int64} {a1 a2 : Int32} (hl0 : l.stackTraces = false) (hr : RR 12 m7_moves [.inl 0, .inr a1, .inr a2] σ r) (hE : RE ["java/lang/IllegalArgumentException"] r) : LM l D A ad adV cA ⟨RL, "moves", "(LFerryDraughts;IZ[J)I"⟩ method_16_code 5 [(0, 10, 13, 13)] [.ref (ad 0), .int a1, .int a2, .ref qo] (wO ad cA σ ++ (qo, .inl (cA 2, 1, .inr (.inl fo))) :: X) (WG ad cA X qo gL ["java/lang/IllegalArgumentException"] r) := by
  refine lm_of (by decide) ?_ (Nat.le_of_ble_eq_true rfl)
  rintro p e R s m args below meth c rfl hx hb hml hown hts hlk hrt htab ⟨hP, hK, hD, hWX, hA, hN⟩ ls hl
  have hl : lv_has ls 5 [(0, .ref (ad 0)), (1, .int a1), (2, .int a2), (3, .ref qo)] := hl
  have hS : va_S A s.heap s.heap [] := va_S.rf
  refine lv_aload_n hx hb (k := 3) (i := 3) (x := qo) (by decide +kernel) rfl (lv_at hl 3 rfl) ?_
  refine lv_iconst hx hb (n := 0) (v := 0) (by decide +kernel) rfl ?_
  refine lv_aload_n hx hb (k := 0) (i := 0) (x := ad 0) (by decide +kernel) rfl (lv_at hl 0 rfl) ?_
  refine lv_iload_n hx hb (k := 1) (i := 1) (x := a1) (by decide +kernel) rfl (lv_at hl 1 rfl) ?_
  refine lv_iload_n hx hb (k := 2) (i := 2) (x := a2) (by decide +kernel) rfl (lv_at hl 2 rfl) ?_
  refine lcall (d := 12) (j := m7_moves) (a := 0) (as := [.inr a1, .inr a2]) (X := (qo, .inl (cA 2, 1, .inr (.inl fo))) :: X) (own := RL) (x := 62) (rest := [.int 0, .ref qo]) hl0 hr (by decide) rfl rfl hx hts hb hown hP hD hK hWX hA hS (hl.1.trans hml.symm) (lq 47 rfl) (lq 48 rfl) (lq 49 rfl) ⟨by decide, by decide, by decide +kernel, by decide +kernel⟩ (by show (2 : Nat) ≤ 8; decide) (by decide +kernel) rfl (fun E τ e1 ce q9 H locs hP hS h1 h2 h3 => ?_) (fun v τ e1 H locs hP hS => ?_)
  · obtain ⟨i, hi⟩ := hE.thrown e1
    have hD := wOX_D (τ := τ) hD
    match i, hi with
    | 0, hi =>
      cases hi
      refine vx_catch (name := "java/lang/IllegalArgumentException") hown [] ⟨0, 10, 13, 13⟩ [] (htab.trans rfl) (fun z hz => by cases hz) rfl (by decide) (ts_of hts (lq 3 rfl) rfl) (va_Nw.use rfl (hWX.2.1 _ (lq 4 rfl) rfl)) h1 h2 h3 ?_
      refine lv_astore hx hb (i := 4) (by decide +kernel) hl (by decide) rfl (fun ls hl => ?_)
      refine lv_iconst hx hb (n := 1) (v := 1) (by decide +kernel) rfl ?_
      refine W.widen (k := 2) (n := 12) (by decide +kernel) (by decide +kernel) ?_
      exact vx_ret (W.zret hx hb hrt rfl (fun t ht hW => ⟨_, _, rfl, Or.inr ⟨0, _, τ, fo, e1, rfl, rfl, rfl⟩, by rw [ht]; exact hP, hD, hS.F ht⟩) hS.2.2 (by decide +kernel) hlk)
    | i + 1, hi => cases hi
  · obtain ⟨v, rfl⟩ := hE.ret e1
    have hD := wOX_D (τ := τ) hD
    refine W.eq (g2 := F0 m 8 ls [.int v, .int 0, .ref qo]) rfl ?_
    refine lv_i2l hx hb (by decide +kernel) rfl ?_
    refine va_last hx hb hK hP hD hS (31 + 0) 2 (wOX_get (j := 0) rfl) rfl vp01 (by decide +kernel) (fun H locs hP hD hS => ?_)
    rw [wOX_set (j := 0)] at hP hD
    refine lv_goto hx hb (off := 7) (tgt := 17) (by decide +kernel) (by decide) ?_
    refine lv_iconst hx hb (n := 0) (v := 0) (by decide +kernel) rfl ?_
    refine W.widen (k := 2) (n := 12) (by decide +kernel) (by decide +kernel) ?_
    exact vx_ret (W.zret hx hb hrt rfl (fun t ht hW => ⟨_, _, rfl, Or.inl ⟨v, τ, _, e1, rfl, rfl, rfl⟩, by rw [ht]; exact hP, hD, hS.F ht⟩) hS.2.2 (by decide +kernel) hlk)
theorem w_captures {σ : Sg} {r : RS} {X : va_W} {qo : Nat} {fo : Nat → Int64} {a1 a2 : Int32} (hl0 : l.stackTraces = false) (hr : RR 12 m7_captures [.inl 0, .inr a1, .inr a2] σ r) (hE : RE ["java/lang/IllegalArgumentException"] r) : LM l D A ad adV cA ⟨RL, "captures", "(LFerryDraughts;IZ[J)I"⟩ method_17_code 5 [(0, 10, 13, 13)] [.ref (ad 0), .int a1, .int a2, .ref qo] (wO ad cA σ ++ (qo, .inl (cA 2, 1, .inr (.inl fo))) :: X) (WG ad cA X qo gL ["java/lang/IllegalArgumentException"] r) := by
  refine lm_of (by decide) ?_ (Nat.le_of_ble_eq_true rfl)
  rintro p e R s m args below meth c rfl hx hb hml hown hts hlk hrt htab ⟨hP, hK, hD, hWX, hA, hN⟩ ls hl
  have hl : lv_has ls 5 [(0, .ref (ad 0)), (1, .int a1), (2, .int a2), (3, .ref qo)] := hl
  have hS : va_S A s.heap s.heap [] := va_S.rf
  refine lv_aload_n hx hb (k := 3) (i := 3) (x := qo) (by decide +kernel) rfl (lv_at hl 3 rfl) ?_
  refine lv_iconst hx hb (n := 0) (v := 0) (by decide +kernel) rfl ?_
  refine lv_aload_n hx hb (k := 0) (i := 0) (x := ad 0) (by decide +kernel) rfl (lv_at hl 0 rfl) ?_
  refine lv_iload_n hx hb (k := 1) (i := 1) (x := a1) (by decide +kernel) rfl (lv_at hl 1 rfl) ?_
  refine lv_iload_n hx hb (k := 2) (i := 2) (x := a2) (by decide +kernel) rfl (lv_at hl 2 rfl) ?_
  refine lcall (d := 12) (j := m7_captures) (a := 0) (as := [.inr a1, .inr a2]) (X := (qo, .inl (cA 2, 1, .inr (.inl fo))) :: X) (own := RL) (x := 66) (rest := [.int 0, .ref qo]) hl0 hr (by decide) rfl rfl hx hts hb hown hP hD hK hWX hA hS (hl.1.trans hml.symm) (lq 50 rfl) (lq 51 rfl) (lq 52 rfl) ⟨by decide, by decide, by decide +kernel, by decide +kernel⟩ (by show (2 : Nat) ≤ 8; decide) (by decide +kernel) rfl (fun E τ e1 ce q9 H locs hP hS h1 h2 h3 => ?_) (fun v τ e1 H locs hP hS => ?_)
  · obtain ⟨i, hi⟩ := hE.thrown e1
    have hD := wOX_D (τ := τ) hD
    match i, hi with
    | 0, hi =>
      cases hi
      refine vx_catch (name := "java/lang/IllegalArgumentException") hown [] ⟨0, 10, 13, 13⟩ [] (htab.trans rfl) (fun z hz => by cases hz) rfl (by decide) (ts_of hts (lq 3 rfl) rfl) (va_Nw.use rfl (hWX.2.1 _ (lq 4 rfl) rfl)) h1 h2 h3 ?_
      refine lv_astore hx hb (i := 4) (by decide +kernel) hl (by decide) rfl (fun ls hl => ?_)
      refine lv_iconst hx hb (n := 1) (v := 1) (by decide +kernel) rfl ?_
      refine W.widen (k := 2) (n := 12) (by decide +kernel) (by decide +kernel) ?_
      exact vx_ret (W.zret hx hb hrt rfl (fun t ht hW => ⟨_, _, rfl, Or.inr ⟨0, _, τ, fo, e1, rfl, rfl, rfl⟩, by rw [ht]; exact hP, hD, hS.F ht⟩) hS.2.2 (by decide +kernel) hlk)
    | i + 1, hi => cases hi
  · obtain ⟨v, rfl⟩ := hE.ret e1
    have hD := wOX_D (τ := τ) hD
    refine W.eq (g2 := F0 m 8 ls [.int v, .int 0, .ref qo]) rfl ?_
    refine lv_i2l hx hb (by decide +kernel) rfl ?_
    refine va_last hx hb hK hP hD hS (31 + 0) 2 (wOX_get (j := 0) rfl) rfl vp01 (by decide +kernel) (fun H locs hP hD hS => ?_)
    rw [wOX_set (j := 0)] at hP hD
    refine lv_goto hx hb (off := 7) (tgt := 17) (by decide +kernel) (by decide) ?_
    refine lv_iconst hx hb (n := 0) (v := 0) (by decide +kernel) rfl ?_
    refine W.widen (k := 2) (n := 12) (by decide +kernel) (by decide +kernel) ?_
    exact vx_ret (W.zret hx hb hrt rfl (fun t ht hW => ⟨_, _, rfl, Or.inl ⟨v, τ, _, e1, rfl, rfl, rfl⟩, by rw [ht]; exact hP, hD, hS.F ht⟩) hS.2.2 (by decide +kernel) hlk)
theorem w_isThreatened {σ : Sg} {r : RS} {X : va_W} {qo : Nat} {fo : Nat → Int64} {a1 : Int32} (hl0 : l.stackTraces = false) (hr : RR 12 m7_isThreatened [.inl 0, .inr a1] σ r) (hE : RE ["java/lang/IndexOutOfBoundsException"] r) : LM l D A ad adV cA ⟨RL, "isThreatened", "(LFerryDraughts;I[J)I"⟩ method_18_code 4 [(0, 16, 19, 21)] [.ref (ad 0), .int a1, .ref qo] (wO ad cA σ ++ (qo, .inl (cA 2, 1, .inr (.inl fo))) :: X) (WG ad cA X qo gB ["java/lang/IndexOutOfBoundsException"] r) := by
  refine lm_of (by decide) ?_ (Nat.le_of_ble_eq_true rfl)
  rintro p e R s m args below meth c rfl hx hb hml hown hts hlk hrt htab ⟨hP, hK, hD, hWX, hA, hN⟩ ls hl
  have hl : lv_has ls 4 [(0, .ref (ad 0)), (1, .int a1), (2, .ref qo)] := hl
  have hS : va_S A s.heap s.heap [] := va_S.rf
  refine lv_aload_n hx hb (k := 2) (i := 2) (x := qo) (by decide +kernel) rfl (lv_at hl 2 rfl) ?_
  refine lv_iconst hx hb (n := 0) (v := 0) (by decide +kernel) rfl ?_
  refine lv_aload_n hx hb (k := 0) (i := 0) (x := ad 0) (by decide +kernel) rfl (lv_at hl 0 rfl) ?_
  refine lv_iload_n hx hb (k := 1) (i := 1) (x := a1) (by decide +kernel) rfl (lv_at hl 1 rfl) ?_
  refine lcall (d := 12) (j := m7_isThreatened) (a := 0) (as := [.inr a1]) (X := (qo, .inl (cA 2, 1, .inr (.inl fo))) :: X) (own := RL) (x := 69) (rest := [.int 0, .ref qo]) hl0 hr (by decide) rfl rfl hx hts hb hown hP hD hK hWX hA hS (hl.1.trans hml.symm) (lq 53 rfl) (lq 54 rfl) (lq 55 rfl) ⟨by decide, by decide, by decide +kernel, by decide +kernel⟩ (by show (2 : Nat) ≤ 8; decide) (by decide +kernel) rfl (fun E τ e1 ce q9 H locs hP hS h1 h2 h3 => ?_) (fun v τ e1 H locs hP hS => ?_)
  · obtain ⟨i, hi⟩ := hE.thrown e1
    have hD := wOX_D (τ := τ) hD
    match i, hi with
    | 0, hi =>
      cases hi
      refine vx_catch (name := "java/lang/IndexOutOfBoundsException") hown [] ⟨0, 16, 19, 21⟩ [] (htab.trans rfl) (fun z hz => by cases hz) rfl (by decide) (ts_of hts (lq 10 rfl) rfl) (va_Nw.use rfl (hWX.2.1 _ (lq 11 rfl) rfl)) h1 h2 h3 ?_
      refine lv_astore_n hx hb (k := 3) (i := 3) (by decide +kernel) rfl hl (by decide) rfl (fun ls hl => ?_)
      refine lv_iconst hx hb (n := 1) (v := 1) (by decide +kernel) rfl ?_
      refine W.widen (k := 2) (n := 12) (by decide +kernel) (by decide +kernel) ?_
      exact vx_ret (W.zret hx hb hrt rfl (fun t ht hW => ⟨_, _, rfl, Or.inr ⟨0, _, τ, fo, e1, rfl, rfl, rfl⟩, by rw [ht]; exact hP, hD, hS.F ht⟩) hS.2.2 (by decide +kernel) hlk)
    | i + 1, hi => cases hi
  · obtain ⟨v, rfl⟩ := hE.ret e1
    have hD := wOX_D (τ := τ) hD
    refine W.eq (g2 := F0 m 7 ls [.int v, .int 0, .ref qo]) rfl ?_
    refine lv_if_eq hx hb (off := 7) (tgt := 14) (by decide +kernel) (by decide) (fun hv => ?_) (fun hv => ?_)
    · refine lv_lconst hx hb (n := 0) (v := 0) (by decide +kernel) rfl ?_
      refine va_last hx hb hK hP hD hS (31 + 0) 2 (wOX_get (j := 0) rfl) rfl vp01 (by decide +kernel) (fun H locs hP hD hS => ?_)
      rw [wOX_set (j := 0)] at hP hD
      refine lv_goto hx hb (off := 6) (tgt := 22) (by decide +kernel) (by decide) ?_
      refine lv_iconst hx hb (n := 0) (v := 0) (by decide +kernel) rfl ?_
      refine W.widen (k := 2) (n := 12) (by decide +kernel) (by decide +kernel) ?_
      exact vx_ret (W.zret hx hb hrt rfl (fun t ht hW => ⟨_, _, rfl, Or.inl ⟨v, τ, _, e1, rfl, (if_pos hv).symm, rfl⟩, by rw [ht]; exact hP, hD, hS.F ht⟩) hS.2.2 (by decide +kernel) hlk)
    · refine lv_lconst hx hb (n := 1) (v := 1) (by decide +kernel) rfl ?_
      refine lv_goto hx hb (off := 4) (tgt := 15) (by decide +kernel) (by decide) ?_
      refine va_last hx hb hK hP hD hS (31 + 0) 2 (wOX_get (j := 0) rfl) rfl vp01 (by decide +kernel) (fun H locs hP hD hS => ?_)
      rw [wOX_set (j := 0)] at hP hD
      refine lv_goto hx hb (off := 6) (tgt := 22) (by decide +kernel) (by decide) ?_
      refine lv_iconst hx hb (n := 0) (v := 0) (by decide +kernel) rfl ?_
      refine W.widen (k := 2) (n := 12) (by decide +kernel) (by decide +kernel) ?_
      exact vx_ret (W.zret hx hb hrt rfl (fun t ht hW => ⟨_, _, rfl, Or.inl ⟨v, τ, _, e1, rfl, (if_neg hv).symm, rfl⟩, by rw [ht]; exact hP, hD, hS.F ht⟩) hS.2.2 (by decide +kernel) hlk)
theorem w_gain {σ : Sg} {r : RS} {X : va_W} {qo : Nat} {fo : Nat → Int64} {a1 a2 a3 : Int32} (hl0 : l.stackTraces = false) (hr : RR 12 m7_gain [.inl 0, .inr a1, .inr a2, .inr a3] σ r) (hE : RE ["java/lang/IndexOutOfBoundsException", "java/util/NoSuchElementException"] r) : LM l D A ad adV cA ⟨RL, "gain", "(LFerryDraughts;IIZ[J)I"⟩ method_19_code 6 [(0, 12, 15, 21), (0, 12, 19, 57)] [.ref (ad 0), .int a1, .int a2, .int a3, .ref qo] (wO ad cA σ ++ (qo, .inl (cA 2, 1, .inr (.inl fo))) :: X) (WG ad cA X qo gL ["java/lang/IndexOutOfBoundsException", "java/util/NoSuchElementException"] r) := by
  refine lm_of (by decide) ?_ (Nat.le_of_ble_eq_true rfl)
  rintro p e R s m args below meth c rfl hx hb hml hown hts hlk hrt htab ⟨hP, hK, hD, hWX, hA, hN⟩ ls hl
  have hl : lv_has ls 6 [(0, .ref (ad 0)), (1, .int a1), (2, .int a2), (3, .int a3), (4, .ref qo)] := hl
  have hS : va_S A s.heap s.heap [] := va_S.rf
  refine lv_aload hx hb (i := 4) (x := qo) (by decide +kernel) (lv_at hl 4 rfl) ?_
  refine lv_iconst hx hb (n := 0) (v := 0) (by decide +kernel) rfl ?_
  refine lv_aload_n hx hb (k := 0) (i := 0) (x := ad 0) (by decide +kernel) rfl (lv_at hl 0 rfl) ?_
  refine lv_iload_n hx hb (k := 1) (i := 1) (x := a1) (by decide +kernel) rfl (lv_at hl 1 rfl) ?_
  refine lv_iload_n hx hb (k := 2) (i := 2) (x := a2) (by decide +kernel) rfl (lv_at hl 2 rfl) ?_
  refine lv_iload_n hx hb (k := 3) (i := 3) (x := a3) (by decide +kernel) rfl (lv_at hl 3 rfl) ?_
  refine lcall (d := 12) (j := m7_gain) (a := 0) (as := [.inr a1, .inr a2, .inr a3]) (X := (qo, .inl (cA 2, 1, .inr (.inl fo))) :: X) (own := RL) (x := 73) (rest := [.int 0, .ref qo]) hl0 hr (by decide) rfl rfl hx hts hb hown hP hD hK hWX hA hS (hl.1.trans hml.symm) (lq 56 rfl) (lq 57 rfl) (lq 58 rfl) ⟨by decide, by decide, by decide +kernel, by decide +kernel⟩ (by show (2 : Nat) ≤ 8; decide) (by decide +kernel) rfl (fun E τ e1 ce q9 H locs hP hS h1 h2 h3 => ?_) (fun v τ e1 H locs hP hS => ?_)
  · obtain ⟨i, hi⟩ := hE.thrown e1
    have hD := wOX_D (τ := τ) hD
    match i, hi with
    | 0, hi =>
      cases hi
      refine vx_catch (name := "java/lang/IndexOutOfBoundsException") hown [] ⟨0, 12, 15, 21⟩ [⟨0, 12, 19, 57⟩] (htab.trans rfl) (fun z hz => by cases hz) rfl (by decide) (ts_of hts (lq 10 rfl) rfl) (va_Nw.use rfl (hWX.2.1 _ (lq 11 rfl) rfl)) h1 h2 h3 ?_
      refine lv_astore hx hb (i := 5) (by decide +kernel) hl (by decide) rfl (fun ls hl => ?_)
      refine lv_iconst hx hb (n := 1) (v := 1) (by decide +kernel) rfl ?_
      refine W.widen (k := 2) (n := 12) (by decide +kernel) (by decide +kernel) ?_
      exact vx_ret (W.zret hx hb hrt rfl (fun t ht hW => ⟨_, _, rfl, Or.inr ⟨0, _, τ, fo, e1, rfl, rfl, rfl⟩, by rw [ht]; exact hP, hD, hS.F ht⟩) hS.2.2 (by decide +kernel) hlk)
    | 1, hi =>
      cases hi
      refine vx_catch (name := "java/util/NoSuchElementException") hown [⟨0, 12, 15, 21⟩] ⟨0, 12, 19, 57⟩ [] (htab.trans rfl) (fun z hz => by cases List.mem_singleton.mp hz; exact Or.inr ⟨by decide, "java/lang/IndexOutOfBoundsException", ts_of hts (lq 10 rfl) rfl, hN _ (by decide) _ (by decide) (by decide)⟩) rfl (by decide) (ts_of hts (lq 42 rfl) rfl) (va_Nw.use rfl (hWX.2.1 _ (lq 43 rfl) rfl)) h1 h2 h3 ?_
      refine lv_astore hx hb (i := 5) (by decide +kernel) hl (by decide) rfl (fun ls hl => ?_)
      refine lv_iconst hx hb (n := 2) (v := 2) (by decide +kernel) rfl ?_
      refine W.widen (k := 2) (n := 12) (by decide +kernel) (by decide +kernel) ?_
      exact vx_ret (W.zret hx hb hrt rfl (fun t ht hW => ⟨_, _, rfl, Or.inr ⟨1, _, τ, fo, e1, rfl, rfl, rfl⟩, by rw [ht]; exact hP, hD, hS.F ht⟩) hS.2.2 (by decide +kernel) hlk)
    | i + 2, hi => cases hi
  · obtain ⟨v, rfl⟩ := hE.ret e1
    have hD := wOX_D (τ := τ) hD
    refine W.eq (g2 := F0 m 10 ls [.int v, .int 0, .ref qo]) rfl ?_
    refine lv_i2l hx hb (by decide +kernel) rfl ?_
    refine va_last hx hb hK hP hD hS (31 + 0) 2 (wOX_get (j := 0) rfl) rfl vp01 (by decide +kernel) (fun H locs hP hD hS => ?_)
    rw [wOX_set (j := 0)] at hP hD
    refine lv_goto hx hb (off := 11) (tgt := 23) (by decide +kernel) (by decide) ?_
    refine lv_iconst hx hb (n := 0) (v := 0) (by decide +kernel) rfl ?_
    refine W.widen (k := 2) (n := 12) (by decide +kernel) (by decide +kernel) ?_
    exact vx_ret (W.zret hx hb hrt rfl (fun t ht hW => ⟨_, _, rfl, Or.inl ⟨v, τ, _, e1, rfl, rfl, rfl⟩, by rw [ht]; exact hP, hD, hS.F ht⟩) hS.2.2 (by decide +kernel) hlk)
theorem w_best {σ : Sg} {r : RS} {X : va_W} {qo : Nat} {fo : Nat → Int64} {a1 : Int32} (hl0 : l.stackTraces = false) (hr : RR 12 m7_best [.inl 0, .inr a1] σ r) (hE : RE ["java/lang/IllegalArgumentException", "java/util/NoSuchElementException"] r) : LM l D A ad adV cA ⟨RL, "best", "(LFerryDraughts;I[J)I"⟩ method_20_code 4 [(0, 9, 12, 13), (0, 9, 15, 57)] [.ref (ad 0), .int a1, .ref qo] (wO ad cA σ ++ (qo, .inl (cA 2, 1, .inr (.inl fo))) :: X) (WG ad cA X qo gL ["java/lang/IllegalArgumentException", "java/util/NoSuchElementException"] r) := by
  refine lm_of (by decide) ?_ (Nat.le_of_ble_eq_true rfl)
  rintro p e R s m args below meth c rfl hx hb hml hown hts hlk hrt htab ⟨hP, hK, hD, hWX, hA, hN⟩ ls hl
  have hl : lv_has ls 4 [(0, .ref (ad 0)), (1, .int a1), (2, .ref qo)] := hl
  have hS : va_S A s.heap s.heap [] := va_S.rf
  refine lv_aload_n hx hb (k := 2) (i := 2) (x := qo) (by decide +kernel) rfl (lv_at hl 2 rfl) ?_
  refine lv_iconst hx hb (n := 0) (v := 0) (by decide +kernel) rfl ?_
  refine lv_aload_n hx hb (k := 0) (i := 0) (x := ad 0) (by decide +kernel) rfl (lv_at hl 0 rfl) ?_
  refine lv_iload_n hx hb (k := 1) (i := 1) (x := a1) (by decide +kernel) rfl (lv_at hl 1 rfl) ?_
  refine lcall (d := 12) (j := m7_best) (a := 0) (as := [.inr a1]) (X := (qo, .inl (cA 2, 1, .inr (.inl fo))) :: X) (own := RL) (x := 76) (rest := [.int 0, .ref qo]) hl0 hr (by decide) rfl rfl hx hts hb hown hP hD hK hWX hA hS (hl.1.trans hml.symm) (lq 59 rfl) (lq 60 rfl) (lq 61 rfl) ⟨by decide, by decide, by decide +kernel, by decide +kernel⟩ (by show (2 : Nat) ≤ 8; decide) (by decide +kernel) rfl (fun E τ e1 ce q9 H locs hP hS h1 h2 h3 => ?_) (fun v τ e1 H locs hP hS => ?_)
  · obtain ⟨i, hi⟩ := hE.thrown e1
    have hD := wOX_D (τ := τ) hD
    match i, hi with
    | 0, hi =>
      cases hi
      refine vx_catch (name := "java/lang/IllegalArgumentException") hown [] ⟨0, 9, 12, 13⟩ [⟨0, 9, 15, 57⟩] (htab.trans rfl) (fun z hz => by cases hz) rfl (by decide) (ts_of hts (lq 3 rfl) rfl) (va_Nw.use rfl (hWX.2.1 _ (lq 4 rfl) rfl)) h1 h2 h3 ?_
      refine lv_astore_n hx hb (k := 3) (i := 3) (by decide +kernel) rfl hl (by decide) rfl (fun ls hl => ?_)
      refine lv_iconst hx hb (n := 1) (v := 1) (by decide +kernel) rfl ?_
      refine W.widen (k := 2) (n := 12) (by decide +kernel) (by decide +kernel) ?_
      exact vx_ret (W.zret hx hb hrt rfl (fun t ht hW => ⟨_, _, rfl, Or.inr ⟨0, _, τ, fo, e1, rfl, rfl, rfl⟩, by rw [ht]; exact hP, hD, hS.F ht⟩) hS.2.2 (by decide +kernel) hlk)
    | 1, hi =>
      cases hi
      refine vx_catch (name := "java/util/NoSuchElementException") hown [⟨0, 9, 12, 13⟩] ⟨0, 9, 15, 57⟩ [] (htab.trans rfl) (fun z hz => by cases List.mem_singleton.mp hz; exact Or.inr ⟨by decide, "java/lang/IllegalArgumentException", ts_of hts (lq 3 rfl) rfl, hN _ (by decide) _ (by decide) (by decide)⟩) rfl (by decide) (ts_of hts (lq 42 rfl) rfl) (va_Nw.use rfl (hWX.2.1 _ (lq 43 rfl) rfl)) h1 h2 h3 ?_
      refine lv_astore_n hx hb (k := 3) (i := 3) (by decide +kernel) rfl hl (by decide) rfl (fun ls hl => ?_)
      refine lv_iconst hx hb (n := 2) (v := 2) (by decide +kernel) rfl ?_
      refine W.widen (k := 2) (n := 12) (by decide +kernel) (by decide +kernel) ?_
      exact vx_ret (W.zret hx hb hrt rfl (fun t ht hW => ⟨_, _, rfl, Or.inr ⟨1, _, τ, fo, e1, rfl, rfl, rfl⟩, by rw [ht]; exact hP, hD, hS.F ht⟩) hS.2.2 (by decide +kernel) hlk)
    | i + 2, hi => cases hi
  · obtain ⟨v, rfl⟩ := hE.ret e1
    have hD := wOX_D (τ := τ) hD
    refine W.eq (g2 := F0 m 7 ls [.int v, .int 0, .ref qo]) rfl ?_
    refine lv_i2l hx hb (by decide +kernel) rfl ?_
    refine va_last hx hb hK hP hD hS (31 + 0) 2 (wOX_get (j := 0) rfl) rfl vp01 (by decide +kernel) (fun H locs hP hD hS => ?_)
    rw [wOX_set (j := 0)] at hP hD
    refine lv_goto hx hb (off := 9) (tgt := 18) (by decide +kernel) (by decide) ?_
    refine lv_iconst hx hb (n := 0) (v := 0) (by decide +kernel) rfl ?_
    refine W.widen (k := 2) (n := 12) (by decide +kernel) (by decide +kernel) ?_
    exact vx_ret (W.zret hx hb hrt rfl (fun t ht hW => ⟨_, _, rfl, Or.inl ⟨v, τ, _, e1, rfl, rfl, rfl⟩, by rw [ht]; exact hP, hD, hS.F ht⟩) hS.2.2 (by decide +kernel) hlk)
theorem w_toLock {σ : Sg} {r : RS} {X : va_W} {qo : Nat} {fo : Nat → Int64} {a1 a2 : Int32} (hl0 : l.stackTraces = false) (hr : RR 12 m7_toLock [.inl 0, .inr a1, .inr a2] σ r) (hE : RE ["java/lang/IndexOutOfBoundsException", "java/util/NoSuchElementException"] r) : LM l D A ad adV cA ⟨RL, "toLock", "(LFerryDraughts;II[J)I"⟩ method_21_code 5 [(0, 10, 13, 21), (0, 10, 17, 57)] [.ref (ad 0), .int a1, .int a2, .ref qo] (wO ad cA σ ++ (qo, .inl (cA 2, 1, .inr (.inl fo))) :: X) (WG ad cA X qo gL ["java/lang/IndexOutOfBoundsException", "java/util/NoSuchElementException"] r) := by
  refine lm_of (by decide) ?_ (Nat.le_of_ble_eq_true rfl)
  rintro p e R s m args below meth c rfl hx hb hml hown hts hlk hrt htab ⟨hP, hK, hD, hWX, hA, hN⟩ ls hl
  have hl : lv_has ls 5 [(0, .ref (ad 0)), (1, .int a1), (2, .int a2), (3, .ref qo)] := hl
  have hS : va_S A s.heap s.heap [] := va_S.rf
  refine lv_aload_n hx hb (k := 3) (i := 3) (x := qo) (by decide +kernel) rfl (lv_at hl 3 rfl) ?_
  refine lv_iconst hx hb (n := 0) (v := 0) (by decide +kernel) rfl ?_
  refine lv_aload_n hx hb (k := 0) (i := 0) (x := ad 0) (by decide +kernel) rfl (lv_at hl 0 rfl) ?_
  refine lv_iload_n hx hb (k := 1) (i := 1) (x := a1) (by decide +kernel) rfl (lv_at hl 1 rfl) ?_
  refine lv_iload_n hx hb (k := 2) (i := 2) (x := a2) (by decide +kernel) rfl (lv_at hl 2 rfl) ?_
  refine lcall (d := 12) (j := m7_toLock) (a := 0) (as := [.inr a1, .inr a2]) (X := (qo, .inl (cA 2, 1, .inr (.inl fo))) :: X) (own := RL) (x := 80) (rest := [.int 0, .ref qo]) hl0 hr (by decide) rfl rfl hx hts hb hown hP hD hK hWX hA hS (hl.1.trans hml.symm) (lq 62 rfl) (lq 63 rfl) (lq 64 rfl) ⟨by decide, by decide, by decide +kernel, by decide +kernel⟩ (by show (2 : Nat) ≤ 8; decide) (by decide +kernel) rfl (fun E τ e1 ce q9 H locs hP hS h1 h2 h3 => ?_) (fun v τ e1 H locs hP hS => ?_)
  · obtain ⟨i, hi⟩ := hE.thrown e1
    have hD := wOX_D (τ := τ) hD
    match i, hi with
    | 0, hi =>
      cases hi
      refine vx_catch (name := "java/lang/IndexOutOfBoundsException") hown [] ⟨0, 10, 13, 21⟩ [⟨0, 10, 17, 57⟩] (htab.trans rfl) (fun z hz => by cases hz) rfl (by decide) (ts_of hts (lq 10 rfl) rfl) (va_Nw.use rfl (hWX.2.1 _ (lq 11 rfl) rfl)) h1 h2 h3 ?_
      refine lv_astore hx hb (i := 4) (by decide +kernel) hl (by decide) rfl (fun ls hl => ?_)
      refine lv_iconst hx hb (n := 1) (v := 1) (by decide +kernel) rfl ?_
      refine W.widen (k := 2) (n := 12) (by decide +kernel) (by decide +kernel) ?_
      exact vx_ret (W.zret hx hb hrt rfl (fun t ht hW => ⟨_, _, rfl, Or.inr ⟨0, _, τ, fo, e1, rfl, rfl, rfl⟩, by rw [ht]; exact hP, hD, hS.F ht⟩) hS.2.2 (by decide +kernel) hlk)
    | 1, hi =>
      cases hi
      refine vx_catch (name := "java/util/NoSuchElementException") hown [⟨0, 10, 13, 21⟩] ⟨0, 10, 17, 57⟩ [] (htab.trans rfl) (fun z hz => by cases List.mem_singleton.mp hz; exact Or.inr ⟨by decide, "java/lang/IndexOutOfBoundsException", ts_of hts (lq 10 rfl) rfl, hN _ (by decide) _ (by decide) (by decide)⟩) rfl (by decide) (ts_of hts (lq 42 rfl) rfl) (va_Nw.use rfl (hWX.2.1 _ (lq 43 rfl) rfl)) h1 h2 h3 ?_
      refine lv_astore hx hb (i := 4) (by decide +kernel) hl (by decide) rfl (fun ls hl => ?_)
      refine lv_iconst hx hb (n := 2) (v := 2) (by decide +kernel) rfl ?_
      refine W.widen (k := 2) (n := 12) (by decide +kernel) (by decide +kernel) ?_
      exact vx_ret (W.zret hx hb hrt rfl (fun t ht hW => ⟨_, _, rfl, Or.inr ⟨1, _, τ, fo, e1, rfl, rfl, rfl⟩, by rw [ht]; exact hP, hD, hS.F ht⟩) hS.2.2 (by decide +kernel) hlk)
    | i + 2, hi => cases hi
  · obtain ⟨v, rfl⟩ := hE.ret e1
    have hD := wOX_D (τ := τ) hD
    refine W.eq (g2 := F0 m 8 ls [.int v, .int 0, .ref qo]) rfl ?_
    refine lv_i2l hx hb (by decide +kernel) rfl ?_
    refine va_last hx hb hK hP hD hS (31 + 0) 2 (wOX_get (j := 0) rfl) rfl vp01 (by decide +kernel) (fun H locs hP hD hS => ?_)
    rw [wOX_set (j := 0)] at hP hD
    refine lv_goto hx hb (off := 11) (tgt := 21) (by decide +kernel) (by decide) ?_
    refine lv_iconst hx hb (n := 0) (v := 0) (by decide +kernel) rfl ?_
    refine W.widen (k := 2) (n := 12) (by decide +kernel) (by decide +kernel) ?_
    exact vx_ret (W.zret hx hb hrt rfl (fun t ht hW => ⟨_, _, rfl, Or.inl ⟨v, τ, _, e1, rfl, rfl, rfl⟩, by rw [ht]; exact hP, hD, hS.F ht⟩) hS.2.2 (by decide +kernel) hlk)
theorem w_boldest {σ : Sg} {r : RS} {X : va_W} {qo : Nat} {fo : Nat → Int64} {a1 : Int32} (hl0 : l.stackTraces = false) (hr : RR 12 m7_boldest [.inl 0, .inr a1] σ r) (hE : RE ["java/util/NoSuchElementException"] r) : LM l D A ad adV cA ⟨RL, "boldest", "(LFerryDraughts;I[J)I"⟩ method_22_code 4 [(0, 9, 12, 57)] [.ref (ad 0), .int a1, .ref qo] (wO ad cA σ ++ (qo, .inl (cA 2, 1, .inr (.inl fo))) :: X) (WG ad cA X qo gL ["java/util/NoSuchElementException"] r) := by
  refine lm_of (by decide) ?_ (Nat.le_of_ble_eq_true rfl)
  rintro p e R s m args below meth c rfl hx hb hml hown hts hlk hrt htab ⟨hP, hK, hD, hWX, hA, hN⟩ ls hl
  have hl : lv_has ls 4 [(0, .ref (ad 0)), (1, .int a1), (2, .ref qo)] := hl
  have hS : va_S A s.heap s.heap [] := va_S.rf
  refine lv_aload_n hx hb (k := 2) (i := 2) (x := qo) (by decide +kernel) rfl (lv_at hl 2 rfl) ?_
  refine lv_iconst hx hb (n := 0) (v := 0) (by decide +kernel) rfl ?_
  refine lv_aload_n hx hb (k := 0) (i := 0) (x := ad 0) (by decide +kernel) rfl (lv_at hl 0 rfl) ?_
  refine lv_iload_n hx hb (k := 1) (i := 1) (x := a1) (by decide +kernel) rfl (lv_at hl 1 rfl) ?_
  refine lcall (d := 12) (j := m7_boldest) (a := 0) (as := [.inr a1]) (X := (qo, .inl (cA 2, 1, .inr (.inl fo))) :: X) (own := RL) (x := 83) (rest := [.int 0, .ref qo]) hl0 hr (by decide) rfl rfl hx hts hb hown hP hD hK hWX hA hS (hl.1.trans hml.symm) (lq 65 rfl) (lq 66 rfl) (lq 67 rfl) ⟨by decide, by decide, by decide +kernel, by decide +kernel⟩ (by show (2 : Nat) ≤ 8; decide) (by decide +kernel) rfl (fun E τ e1 ce q9 H locs hP hS h1 h2 h3 => ?_) (fun v τ e1 H locs hP hS => ?_)
  · obtain ⟨i, hi⟩ := hE.thrown e1
    have hD := wOX_D (τ := τ) hD
    match i, hi with
    | 0, hi =>
      cases hi
      refine vx_catch (name := "java/util/NoSuchElementException") hown [] ⟨0, 9, 12, 57⟩ [] (htab.trans rfl) (fun z hz => by cases hz) rfl (by decide) (ts_of hts (lq 42 rfl) rfl) (va_Nw.use rfl (hWX.2.1 _ (lq 43 rfl) rfl)) h1 h2 h3 ?_
      refine lv_astore_n hx hb (k := 3) (i := 3) (by decide +kernel) rfl hl (by decide) rfl (fun ls hl => ?_)
      refine lv_iconst hx hb (n := 1) (v := 1) (by decide +kernel) rfl ?_
      refine W.widen (k := 2) (n := 12) (by decide +kernel) (by decide +kernel) ?_
      exact vx_ret (W.zret hx hb hrt rfl (fun t ht hW => ⟨_, _, rfl, Or.inr ⟨0, _, τ, fo, e1, rfl, rfl, rfl⟩, by rw [ht]; exact hP, hD, hS.F ht⟩) hS.2.2 (by decide +kernel) hlk)
    | i + 1, hi => cases hi
  · obtain ⟨v, rfl⟩ := hE.ret e1
    have hD := wOX_D (τ := τ) hD
    refine W.eq (g2 := F0 m 7 ls [.int v, .int 0, .ref qo]) rfl ?_
    refine lv_i2l hx hb (by decide +kernel) rfl ?_
    refine va_last hx hb hK hP hD hS (31 + 0) 2 (wOX_get (j := 0) rfl) rfl vp01 (by decide +kernel) (fun H locs hP hD hS => ?_)
    rw [wOX_set (j := 0)] at hP hD
    refine lv_goto hx hb (off := 6) (tgt := 15) (by decide +kernel) (by decide) ?_
    refine lv_iconst hx hb (n := 0) (v := 0) (by decide +kernel) rfl ?_
    refine W.widen (k := 2) (n := 12) (by decide +kernel) (by decide +kernel) ?_
    exact vx_ret (W.zret hx hb hrt rfl (fun t ht hW => ⟨_, _, rfl, Or.inl ⟨v, τ, _, e1, rfl, rfl, rfl⟩, by rw [ht]; exact hP, hD, hS.F ht⟩) hS.2.2 (by decide +kernel) hlk)
theorem w_farthest {σ : Sg} {r : RS} {X : va_W} {qo : Nat} {fo : Nat → Int64} {a1 : Int32} (hl0 : l.stackTraces = false) (hr : RR 12 m7_farthest [.inl 0, .inr a1] σ r) (hE : RE ["java/util/NoSuchElementException"] r) : LM l D A ad adV cA ⟨RL, "farthest", "(LFerryDraughts;I[J)I"⟩ method_23_code 4 [(0, 9, 12, 57)] [.ref (ad 0), .int a1, .ref qo] (wO ad cA σ ++ (qo, .inl (cA 2, 1, .inr (.inl fo))) :: X) (WG ad cA X qo gL ["java/util/NoSuchElementException"] r) := by
  refine lm_of (by decide) ?_ (Nat.le_of_ble_eq_true rfl)
  rintro p e R s m args below meth c rfl hx hb hml hown hts hlk hrt htab ⟨hP, hK, hD, hWX, hA, hN⟩ ls hl
  have hl : lv_has ls 4 [(0, .ref (ad 0)), (1, .int a1), (2, .ref qo)] := hl
  have hS : va_S A s.heap s.heap [] := va_S.rf
  refine lv_aload_n hx hb (k := 2) (i := 2) (x := qo) (by decide +kernel) rfl (lv_at hl 2 rfl) ?_
  refine lv_iconst hx hb (n := 0) (v := 0) (by decide +kernel) rfl ?_
  refine lv_aload_n hx hb (k := 0) (i := 0) (x := ad 0) (by decide +kernel) rfl (lv_at hl 0 rfl) ?_
  refine lv_iload_n hx hb (k := 1) (i := 1) (x := a1) (by decide +kernel) rfl (lv_at hl 1 rfl) ?_
  refine lcall (d := 12) (j := m7_farthest) (a := 0) (as := [.inr a1]) (X := (qo, .inl (cA 2, 1, .inr (.inl fo))) :: X) (own := RL) (x := 86) (rest := [.int 0, .ref qo]) hl0 hr (by decide) rfl rfl hx hts hb hown hP hD hK hWX hA hS (hl.1.trans hml.symm) (lq 68 rfl) (lq 69 rfl) (lq 70 rfl) ⟨by decide, by decide, by decide +kernel, by decide +kernel⟩ (by show (2 : Nat) ≤ 8; decide) (by decide +kernel) rfl (fun E τ e1 ce q9 H locs hP hS h1 h2 h3 => ?_) (fun v τ e1 H locs hP hS => ?_)
  · obtain ⟨i, hi⟩ := hE.thrown e1
    have hD := wOX_D (τ := τ) hD
    match i, hi with
    | 0, hi =>
      cases hi
      refine vx_catch (name := "java/util/NoSuchElementException") hown [] ⟨0, 9, 12, 57⟩ [] (htab.trans rfl) (fun z hz => by cases hz) rfl (by decide) (ts_of hts (lq 42 rfl) rfl) (va_Nw.use rfl (hWX.2.1 _ (lq 43 rfl) rfl)) h1 h2 h3 ?_
      refine lv_astore_n hx hb (k := 3) (i := 3) (by decide +kernel) rfl hl (by decide) rfl (fun ls hl => ?_)
      refine lv_iconst hx hb (n := 1) (v := 1) (by decide +kernel) rfl ?_
      refine W.widen (k := 2) (n := 12) (by decide +kernel) (by decide +kernel) ?_
      exact vx_ret (W.zret hx hb hrt rfl (fun t ht hW => ⟨_, _, rfl, Or.inr ⟨0, _, τ, fo, e1, rfl, rfl, rfl⟩, by rw [ht]; exact hP, hD, hS.F ht⟩) hS.2.2 (by decide +kernel) hlk)
    | i + 1, hi => cases hi
  · obtain ⟨v, rfl⟩ := hE.ret e1
    have hD := wOX_D (τ := τ) hD
    refine W.eq (g2 := F0 m 7 ls [.int v, .int 0, .ref qo]) rfl ?_
    refine lv_i2l hx hb (by decide +kernel) rfl ?_
    refine va_last hx hb hK hP hD hS (31 + 0) 2 (wOX_get (j := 0) rfl) rfl vp01 (by decide +kernel) (fun H locs hP hD hS => ?_)
    rw [wOX_set (j := 0)] at hP hD
    refine lv_goto hx hb (off := 6) (tgt := 15) (by decide +kernel) (by decide) ?_
    refine lv_iconst hx hb (n := 0) (v := 0) (by decide +kernel) rfl ?_
    refine W.widen (k := 2) (n := 12) (by decide +kernel) (by decide +kernel) ?_
    exact vx_ret (W.zret hx hb hrt rfl (fun t ht hW => ⟨_, _, rfl, Or.inl ⟨v, τ, _, e1, rfl, rfl, rfl⟩, by rw [ht]; exact hP, hD, hS.F ht⟩) hS.2.2 (by decide +kernel) hlk)
theorem w_riverLine {σ : Sg} {r : RS} {X : va_W} {qo : Nat} {fo : Nat → Int64} {a1 : Int32} (hl0 : l.stackTraces = false) (hr : RR 12 m7_riverLine [.inl 0, .inr a1] σ r) (hE : RE ["java/lang/IndexOutOfBoundsException"] r) : LM l D A ad adV cA ⟨RL, "riverLine", "(LFerryDraughts;I[J)I"⟩ method_24_code 4 [(0, 9, 12, 21)] [.ref (ad 0), .int a1, .ref qo] (wO ad cA σ ++ (qo, .inl (cA 2, 1, .inr (.inl fo))) :: X) (WG ad cA X qo gL ["java/lang/IndexOutOfBoundsException"] r) := by
  refine lm_of (by decide) ?_ (Nat.le_of_ble_eq_true rfl)
  rintro p e R s m args below meth c rfl hx hb hml hown hts hlk hrt htab ⟨hP, hK, hD, hWX, hA, hN⟩ ls hl
  have hl : lv_has ls 4 [(0, .ref (ad 0)), (1, .int a1), (2, .ref qo)] := hl
  have hS : va_S A s.heap s.heap [] := va_S.rf
  refine lv_aload_n hx hb (k := 2) (i := 2) (x := qo) (by decide +kernel) rfl (lv_at hl 2 rfl) ?_
  refine lv_iconst hx hb (n := 0) (v := 0) (by decide +kernel) rfl ?_
  refine lv_aload_n hx hb (k := 0) (i := 0) (x := ad 0) (by decide +kernel) rfl (lv_at hl 0 rfl) ?_
  refine lv_iload_n hx hb (k := 1) (i := 1) (x := a1) (by decide +kernel) rfl (lv_at hl 1 rfl) ?_
  refine lcall (d := 12) (j := m7_riverLine) (a := 0) (as := [.inr a1]) (X := (qo, .inl (cA 2, 1, .inr (.inl fo))) :: X) (own := RL) (x := 89) (rest := [.int 0, .ref qo]) hl0 hr (by decide) rfl rfl hx hts hb hown hP hD hK hWX hA hS (hl.1.trans hml.symm) (lq 71 rfl) (lq 72 rfl) (lq 73 rfl) ⟨by decide, by decide, by decide +kernel, by decide +kernel⟩ (by show (2 : Nat) ≤ 8; decide) (by decide +kernel) rfl (fun E τ e1 ce q9 H locs hP hS h1 h2 h3 => ?_) (fun v τ e1 H locs hP hS => ?_)
  · obtain ⟨i, hi⟩ := hE.thrown e1
    have hD := wOX_D (τ := τ) hD
    match i, hi with
    | 0, hi =>
      cases hi
      refine vx_catch (name := "java/lang/IndexOutOfBoundsException") hown [] ⟨0, 9, 12, 21⟩ [] (htab.trans rfl) (fun z hz => by cases hz) rfl (by decide) (ts_of hts (lq 10 rfl) rfl) (va_Nw.use rfl (hWX.2.1 _ (lq 11 rfl) rfl)) h1 h2 h3 ?_
      refine lv_astore_n hx hb (k := 3) (i := 3) (by decide +kernel) rfl hl (by decide) rfl (fun ls hl => ?_)
      refine lv_iconst hx hb (n := 1) (v := 1) (by decide +kernel) rfl ?_
      refine W.widen (k := 2) (n := 12) (by decide +kernel) (by decide +kernel) ?_
      exact vx_ret (W.zret hx hb hrt rfl (fun t ht hW => ⟨_, _, rfl, Or.inr ⟨0, _, τ, fo, e1, rfl, rfl, rfl⟩, by rw [ht]; exact hP, hD, hS.F ht⟩) hS.2.2 (by decide +kernel) hlk)
    | i + 1, hi => cases hi
  · obtain ⟨v, rfl⟩ := hE.ret e1
    have hD := wOX_D (τ := τ) hD
    refine W.eq (g2 := F0 m 7 ls [.int v, .int 0, .ref qo]) rfl ?_
    refine lv_i2l hx hb (by decide +kernel) rfl ?_
    refine va_last hx hb hK hP hD hS (31 + 0) 2 (wOX_get (j := 0) rfl) rfl vp01 (by decide +kernel) (fun H locs hP hD hS => ?_)
    rw [wOX_set (j := 0)] at hP hD
    refine lv_goto hx hb (off := 6) (tgt := 15) (by decide +kernel) (by decide) ?_
    refine lv_iconst hx hb (n := 0) (v := 0) (by decide +kernel) rfl ?_
    refine W.widen (k := 2) (n := 12) (by decide +kernel) (by decide +kernel) ?_
    exact vx_ret (W.zret hx hb hrt rfl (fun t ht hW => ⟨_, _, rfl, Or.inl ⟨v, τ, _, e1, rfl, rfl, rfl⟩, by rw [ht]; exact hP, hD, hS.F ht⟩) hS.2.2 (by decide +kernel) hlk)
theorem w_ferryLine {σ : Sg} {r : RS} {X : va_W} {qo : Nat} {fo : Nat → Int64} {a1 : Int32} (hl0 : l.stackTraces = false) (hr : RR 12 m7_ferryLine [.inl 0, .inr a1] σ r) (hE : RE ["java/lang/IndexOutOfBoundsException"] r) : LM l D A ad adV cA ⟨RL, "ferryLine", "(LFerryDraughts;I[J)I"⟩ method_25_code 4 [(0, 9, 12, 21)] [.ref (ad 0), .int a1, .ref qo] (wO ad cA σ ++ (qo, .inl (cA 2, 1, .inr (.inl fo))) :: X) (WG ad cA X qo gL ["java/lang/IndexOutOfBoundsException"] r) := by
  refine lm_of (by decide) ?_ (Nat.le_of_ble_eq_true rfl)
  rintro p e R s m args below meth c rfl hx hb hml hown hts hlk hrt htab ⟨hP, hK, hD, hWX, hA, hN⟩ ls hl
  have hl : lv_has ls 4 [(0, .ref (ad 0)), (1, .int a1), (2, .ref qo)] := hl
  have hS : va_S A s.heap s.heap [] := va_S.rf
  refine lv_aload_n hx hb (k := 2) (i := 2) (x := qo) (by decide +kernel) rfl (lv_at hl 2 rfl) ?_
  refine lv_iconst hx hb (n := 0) (v := 0) (by decide +kernel) rfl ?_
  refine lv_aload_n hx hb (k := 0) (i := 0) (x := ad 0) (by decide +kernel) rfl (lv_at hl 0 rfl) ?_
  refine lv_iload_n hx hb (k := 1) (i := 1) (x := a1) (by decide +kernel) rfl (lv_at hl 1 rfl) ?_
  refine lcall (d := 12) (j := m7_ferryLine) (a := 0) (as := [.inr a1]) (X := (qo, .inl (cA 2, 1, .inr (.inl fo))) :: X) (own := RL) (x := 92) (rest := [.int 0, .ref qo]) hl0 hr (by decide) rfl rfl hx hts hb hown hP hD hK hWX hA hS (hl.1.trans hml.symm) (lq 74 rfl) (lq 75 rfl) (lq 76 rfl) ⟨by decide, by decide, by decide +kernel, by decide +kernel⟩ (by show (2 : Nat) ≤ 8; decide) (by decide +kernel) rfl (fun E τ e1 ce q9 H locs hP hS h1 h2 h3 => ?_) (fun v τ e1 H locs hP hS => ?_)
  · obtain ⟨i, hi⟩ := hE.thrown e1
    have hD := wOX_D (τ := τ) hD
    match i, hi with
    | 0, hi =>
      cases hi
      refine vx_catch (name := "java/lang/IndexOutOfBoundsException") hown [] ⟨0, 9, 12, 21⟩ [] (htab.trans rfl) (fun z hz => by cases hz) rfl (by decide) (ts_of hts (lq 10 rfl) rfl) (va_Nw.use rfl (hWX.2.1 _ (lq 11 rfl) rfl)) h1 h2 h3 ?_
      refine lv_astore_n hx hb (k := 3) (i := 3) (by decide +kernel) rfl hl (by decide) rfl (fun ls hl => ?_)
      refine lv_iconst hx hb (n := 1) (v := 1) (by decide +kernel) rfl ?_
      refine W.widen (k := 2) (n := 12) (by decide +kernel) (by decide +kernel) ?_
      exact vx_ret (W.zret hx hb hrt rfl (fun t ht hW => ⟨_, _, rfl, Or.inr ⟨0, _, τ, fo, e1, rfl, rfl, rfl⟩, by rw [ht]; exact hP, hD, hS.F ht⟩) hS.2.2 (by decide +kernel) hlk)
    | i + 1, hi => cases hi
  · obtain ⟨v, rfl⟩ := hE.ret e1
    have hD := wOX_D (τ := τ) hD
    refine W.eq (g2 := F0 m 7 ls [.int v, .int 0, .ref qo]) rfl ?_
    refine lv_i2l hx hb (by decide +kernel) rfl ?_
    refine va_last hx hb hK hP hD hS (31 + 0) 2 (wOX_get (j := 0) rfl) rfl vp01 (by decide +kernel) (fun H locs hP hD hS => ?_)
    rw [wOX_set (j := 0)] at hP hD
    refine lv_goto hx hb (off := 6) (tgt := 15) (by decide +kernel) (by decide) ?_
    refine lv_iconst hx hb (n := 0) (v := 0) (by decide +kernel) rfl ?_
    refine W.widen (k := 2) (n := 12) (by decide +kernel) (by decide +kernel) ?_
    exact vx_ret (W.zret hx hb hrt rfl (fun t ht hW => ⟨_, _, rfl, Or.inl ⟨v, τ, _, e1, rfl, rfl, rfl⟩, by rw [ht]; exact hP, hD, hS.F ht⟩) hS.2.2 (by decide +kernel) hlk)
theorem w_character {σ : Sg} {r : RS} {X : va_W} {qo : Nat} {fo : Nat → Int64} {a1 : Int32} (hl0 : l.stackTraces = false) (hr : RR 12 m7_character [.inl 0, .inr a1] σ r) (hE : RE ["java/lang/IndexOutOfBoundsException"] r) : LM l D A ad adV cA ⟨RL, "character", "(LFerryDraughts;I[J)I"⟩ method_26_code 4 [(0, 9, 12, 21)] [.ref (ad 0), .int a1, .ref qo] (wO ad cA σ ++ (qo, .inl (cA 2, 1, .inr (.inl fo))) :: X) (WG ad cA X qo gL ["java/lang/IndexOutOfBoundsException"] r) := by
  refine lm_of (by decide) ?_ (Nat.le_of_ble_eq_true rfl)
  rintro p e R s m args below meth c rfl hx hb hml hown hts hlk hrt htab ⟨hP, hK, hD, hWX, hA, hN⟩ ls hl
  have hl : lv_has ls 4 [(0, .ref (ad 0)), (1, .int a1), (2, .ref qo)] := hl
  have hS : va_S A s.heap s.heap [] := va_S.rf
  refine lv_aload_n hx hb (k := 2) (i := 2) (x := qo) (by decide +kernel) rfl (lv_at hl 2 rfl) ?_
  refine lv_iconst hx hb (n := 0) (v := 0) (by decide +kernel) rfl ?_
  refine lv_aload_n hx hb (k := 0) (i := 0) (x := ad 0) (by decide +kernel) rfl (lv_at hl 0 rfl) ?_
  refine lv_iload_n hx hb (k := 1) (i := 1) (x := a1) (by decide +kernel) rfl (lv_at hl 1 rfl) ?_
  refine lcall (d := 12) (j := m7_character) (a := 0) (as := [.inr a1]) (X := (qo, .inl (cA 2, 1, .inr (.inl fo))) :: X) (own := RL) (x := 95) (rest := [.int 0, .ref qo]) hl0 hr (by decide) rfl rfl hx hts hb hown hP hD hK hWX hA hS (hl.1.trans hml.symm) (lq 77 rfl) (lq 78 rfl) (lq 79 rfl) ⟨by decide, by decide, by decide +kernel, by decide +kernel⟩ (by show (2 : Nat) ≤ 8; decide) (by decide +kernel) rfl (fun E τ e1 ce q9 H locs hP hS h1 h2 h3 => ?_) (fun v τ e1 H locs hP hS => ?_)
  · obtain ⟨i, hi⟩ := hE.thrown e1
    have hD := wOX_D (τ := τ) hD
    match i, hi with
    | 0, hi =>
      cases hi
      refine vx_catch (name := "java/lang/IndexOutOfBoundsException") hown [] ⟨0, 9, 12, 21⟩ [] (htab.trans rfl) (fun z hz => by cases hz) rfl (by decide) (ts_of hts (lq 10 rfl) rfl) (va_Nw.use rfl (hWX.2.1 _ (lq 11 rfl) rfl)) h1 h2 h3 ?_
      refine lv_astore_n hx hb (k := 3) (i := 3) (by decide +kernel) rfl hl (by decide) rfl (fun ls hl => ?_)
      refine lv_iconst hx hb (n := 1) (v := 1) (by decide +kernel) rfl ?_
      refine W.widen (k := 2) (n := 12) (by decide +kernel) (by decide +kernel) ?_
      exact vx_ret (W.zret hx hb hrt rfl (fun t ht hW => ⟨_, _, rfl, Or.inr ⟨0, _, τ, fo, e1, rfl, rfl, rfl⟩, by rw [ht]; exact hP, hD, hS.F ht⟩) hS.2.2 (by decide +kernel) hlk)
    | i + 1, hi => cases hi
  · obtain ⟨v, rfl⟩ := hE.ret e1
    have hD := wOX_D (τ := τ) hD
    refine W.eq (g2 := F0 m 7 ls [.int v, .int 0, .ref qo]) rfl ?_
    refine lv_i2l hx hb (by decide +kernel) rfl ?_
    refine va_last hx hb hK hP hD hS (31 + 0) 2 (wOX_get (j := 0) rfl) rfl vp01 (by decide +kernel) (fun H locs hP hD hS => ?_)
    rw [wOX_set (j := 0)] at hP hD
    refine lv_goto hx hb (off := 6) (tgt := 15) (by decide +kernel) (by decide) ?_
    refine lv_iconst hx hb (n := 0) (v := 0) (by decide +kernel) rfl ?_
    refine W.widen (k := 2) (n := 12) (by decide +kernel) (by decide +kernel) ?_
    exact vx_ret (W.zret hx hb hrt rfl (fun t ht hW => ⟨_, _, rfl, Or.inl ⟨v, τ, _, e1, rfl, rfl, rfl⟩, by rw [ht]; exact hP, hD, hS.F ht⟩) hS.2.2 (by decide +kernel) hlk)
theorem w_append {σ : Sg} {r : RS} {X : va_W} {qo : Nat} {fo : Nat → Int64} {a1 : Int32} (hl0 : l.stackTraces = false) (hr : RR 12 m7_append [.inl 0, .inr a1] σ r) (hE : RE ["java/lang/IllegalStateException"] r) : LM l D A ad adV cA ⟨RL, "append", "(LFerryDraughts;C[J)I"⟩ method_27_code 4 [(0, 9, 12, 103)] [.ref (ad 0), .int a1, .ref qo] (wO ad cA σ ++ (qo, .inl (cA 2, 1, .inr (.inl fo))) :: X) (WG ad cA X qo gL ["java/lang/IllegalStateException"] r) := by
  refine lm_of (by decide) ?_ (Nat.le_of_ble_eq_true rfl)
  rintro p e R s m args below meth c rfl hx hb hml hown hts hlk hrt htab ⟨hP, hK, hD, hWX, hA, hN⟩ ls hl
  have hl : lv_has ls 4 [(0, .ref (ad 0)), (1, .int a1), (2, .ref qo)] := hl
  have hS : va_S A s.heap s.heap [] := va_S.rf
  refine lv_aload_n hx hb (k := 2) (i := 2) (x := qo) (by decide +kernel) rfl (lv_at hl 2 rfl) ?_
  refine lv_iconst hx hb (n := 0) (v := 0) (by decide +kernel) rfl ?_
  refine lv_aload_n hx hb (k := 0) (i := 0) (x := ad 0) (by decide +kernel) rfl (lv_at hl 0 rfl) ?_
  refine lv_iload_n hx hb (k := 1) (i := 1) (x := a1) (by decide +kernel) rfl (lv_at hl 1 rfl) ?_
  refine lcall (d := 12) (j := m7_append) (a := 0) (as := [.inr a1]) (X := (qo, .inl (cA 2, 1, .inr (.inl fo))) :: X) (own := RL) (x := 99) (rest := [.int 0, .ref qo]) hl0 hr (by decide) rfl rfl hx hts hb hown hP hD hK hWX hA hS (hl.1.trans hml.symm) (lq 80 rfl) (lq 81 rfl) (lq 82 rfl) ⟨by decide, by decide, by decide +kernel, by decide +kernel⟩ (by show (2 : Nat) ≤ 8; decide) (by decide +kernel) rfl (fun E τ e1 ce q9 H locs hP hS h1 h2 h3 => ?_) (fun v τ e1 H locs hP hS => ?_)
  · obtain ⟨i, hi⟩ := hE.thrown e1
    have hD := wOX_D (τ := τ) hD
    match i, hi with
    | 0, hi =>
      cases hi
      refine vx_catch (name := "java/lang/IllegalStateException") hown [] ⟨0, 9, 12, 103⟩ [] (htab.trans rfl) (fun z hz => by cases hz) rfl (by decide) (ts_of hts (lq 83 rfl) rfl) (va_Nw.use rfl (hWX.2.1 _ (lq 84 rfl) rfl)) h1 h2 h3 ?_
      refine lv_astore_n hx hb (k := 3) (i := 3) (by decide +kernel) rfl hl (by decide) rfl (fun ls hl => ?_)
      refine lv_iconst hx hb (n := 1) (v := 1) (by decide +kernel) rfl ?_
      refine W.widen (k := 2) (n := 12) (by decide +kernel) (by decide +kernel) ?_
      exact vx_ret (W.zret hx hb hrt rfl (fun t ht hW => ⟨_, _, rfl, Or.inr ⟨0, _, τ, fo, e1, rfl, rfl, rfl⟩, by rw [ht]; exact hP, hD, hS.F ht⟩) hS.2.2 (by decide +kernel) hlk)
    | i + 1, hi => cases hi
  · obtain ⟨v, rfl⟩ := hE.ret e1
    have hD := wOX_D (τ := τ) hD
    refine W.eq (g2 := F0 m 7 ls [.int v, .int 0, .ref qo]) rfl ?_
    refine lv_i2l hx hb (by decide +kernel) rfl ?_
    refine va_last hx hb hK hP hD hS (31 + 0) 2 (wOX_get (j := 0) rfl) rfl vp01 (by decide +kernel) (fun H locs hP hD hS => ?_)
    rw [wOX_set (j := 0)] at hP hD
    refine lv_goto hx hb (off := 6) (tgt := 15) (by decide +kernel) (by decide) ?_
    refine lv_iconst hx hb (n := 0) (v := 0) (by decide +kernel) rfl ?_
    refine W.widen (k := 2) (n := 12) (by decide +kernel) (by decide +kernel) ?_
    exact vx_ret (W.zret hx hb hrt rfl (fun t ht hW => ⟨_, _, rfl, Or.inl ⟨v, τ, _, e1, rfl, rfl, rfl⟩, by rw [ht]; exact hP, hD, hS.F ht⟩) hS.2.2 (by decide +kernel) hlk)
theorem w_run {σ : Sg} {r : RS} {X : va_W} {qo : Nat} {fo : Nat → Int64} (hl0 : l.stackTraces = false) (hr : RR 12 m7_run [.inl 0] σ r) (hE : RE ["java/lang/IllegalArgumentException", "java/lang/UnsupportedOperationException"] r) : LM l D A ad adV cA ⟨RL, "run", "(LFerryDraughts;[J)I"⟩ method_28_code 3 [(0, 8, 11, 13), (0, 8, 14, 15)] [.ref (ad 0), .ref qo] (wO ad cA σ ++ (qo, .inl (cA 2, 1, .inr (.inl fo))) :: X) (WG ad cA X qo gL ["java/lang/IllegalArgumentException", "java/lang/UnsupportedOperationException"] r) := by
  refine lm_of (by decide) ?_ (Nat.le_of_ble_eq_true rfl)
  rintro p e R s m args below meth c rfl hx hb hml hown hts hlk hrt htab ⟨hP, hK, hD, hWX, hA, hN⟩ ls hl
  have hl : lv_has ls 3 [(0, .ref (ad 0)), (1, .ref qo)] := hl
  have hS : va_S A s.heap s.heap [] := va_S.rf
  refine lv_aload_n hx hb (k := 1) (i := 1) (x := qo) (by decide +kernel) rfl (lv_at hl 1 rfl) ?_
  refine lv_iconst hx hb (n := 0) (v := 0) (by decide +kernel) rfl ?_
  refine lv_aload_n hx hb (k := 0) (i := 0) (x := ad 0) (by decide +kernel) rfl (lv_at hl 0 rfl) ?_
  refine lcall (d := 12) (j := m7_run) (a := 0) (as := []) (X := (qo, .inl (cA 2, 1, .inr (.inl fo))) :: X) (own := RL) (x := 105) (rest := [.int 0, .ref qo]) hl0 hr (by decide) rfl rfl hx hts hb hown hP hD hK hWX hA hS (hl.1.trans hml.symm) (lq 85 rfl) (lq 86 rfl) (lq 87 rfl) ⟨by decide, by decide, by decide +kernel, by decide +kernel⟩ (by show (2 : Nat) ≤ 8; decide) (by decide +kernel) rfl (fun E τ e1 ce q9 H locs hP hS h1 h2 h3 => ?_) (fun v τ e1 H locs hP hS => ?_)
  · obtain ⟨i, hi⟩ := hE.thrown e1
    have hD := wOX_D (τ := τ) hD
    match i, hi with
    | 0, hi =>
      cases hi
      refine vx_catch (name := "java/lang/IllegalArgumentException") hown [] ⟨0, 8, 11, 13⟩ [⟨0, 8, 14, 15⟩] (htab.trans rfl) (fun z hz => by cases hz) rfl (by decide) (ts_of hts (lq 3 rfl) rfl) (va_Nw.use rfl (hWX.2.1 _ (lq 4 rfl) rfl)) h1 h2 h3 ?_
      refine lv_astore_n hx hb (k := 2) (i := 2) (by decide +kernel) rfl hl (by decide) rfl (fun ls hl => ?_)
      refine lv_iconst hx hb (n := 1) (v := 1) (by decide +kernel) rfl ?_
      refine W.widen (k := 2) (n := 12) (by decide +kernel) (by decide +kernel) ?_
      exact vx_ret (W.zret hx hb hrt rfl (fun t ht hW => ⟨_, _, rfl, Or.inr ⟨0, _, τ, fo, e1, rfl, rfl, rfl⟩, by rw [ht]; exact hP, hD, hS.F ht⟩) hS.2.2 (by decide +kernel) hlk)
    | 1, hi =>
      cases hi
      refine vx_catch (name := "java/lang/UnsupportedOperationException") hown [⟨0, 8, 11, 13⟩] ⟨0, 8, 14, 15⟩ [] (htab.trans rfl) (fun z hz => by cases List.mem_singleton.mp hz; exact Or.inr ⟨by decide, "java/lang/IllegalArgumentException", ts_of hts (lq 3 rfl) rfl, hN _ (by decide) _ (by decide) (by decide)⟩) rfl (by decide) (ts_of hts (lq 5 rfl) rfl) (va_Nw.use rfl (hWX.2.1 _ (lq 6 rfl) rfl)) h1 h2 h3 ?_
      refine lv_astore_n hx hb (k := 2) (i := 2) (by decide +kernel) rfl hl (by decide) rfl (fun ls hl => ?_)
      refine lv_iconst hx hb (n := 2) (v := 2) (by decide +kernel) rfl ?_
      refine W.widen (k := 2) (n := 12) (by decide +kernel) (by decide +kernel) ?_
      exact vx_ret (W.zret hx hb hrt rfl (fun t ht hW => ⟨_, _, rfl, Or.inr ⟨1, _, τ, fo, e1, rfl, rfl, rfl⟩, by rw [ht]; exact hP, hD, hS.F ht⟩) hS.2.2 (by decide +kernel) hlk)
    | i + 2, hi => cases hi
  · obtain ⟨v, rfl⟩ := hE.ret e1
    have hD := wOX_D (τ := τ) hD
    refine W.eq (g2 := F0 m 6 ls [.int v, .int 0, .ref qo]) rfl ?_
    refine lv_i2l hx hb (by decide +kernel) rfl ?_
    refine va_last hx hb hK hP hD hS (31 + 0) 2 (wOX_get (j := 0) rfl) rfl vp01 (by decide +kernel) (fun H locs hP hD hS => ?_)
    rw [wOX_set (j := 0)] at hP hD
    refine lv_goto hx hb (off := 9) (tgt := 17) (by decide +kernel) (by decide) ?_
    refine lv_iconst hx hb (n := 0) (v := 0) (by decide +kernel) rfl ?_
    refine W.widen (k := 2) (n := 12) (by decide +kernel) (by decide +kernel) ?_
    exact vx_ret (W.zret hx hb hrt rfl (fun t ht hW => ⟨_, _, rfl, Or.inl ⟨v, τ, _, e1, rfl, rfl, rfl⟩, by rw [ht]; exact hP, hD, hS.F ht⟩) hS.2.2 (by decide +kernel) hlk)
theorem w_refusal {σ : Sg} {r : RS} {X : va_W} {qo : Nat} {fo : Nat → Int64} {a1 a2 : Int32} (hl0 : l.stackTraces = false) (hr : RR 12 m7_refusal [.inl 0, .inr a1, .inr a2] σ r) (hE : RE ["java/lang/IllegalArgumentException", "java/util/NoSuchElementException"] r) : LM l D A ad adV cA ⟨RL, "refusal", "(LFerryDraughts;IZ[J)I"⟩ method_29_code 5 [(0, 10, 13, 13), (0, 10, 17, 57)] [.ref (ad 0), .int a1, .int a2, .ref qo] (wO ad cA σ ++ (qo, .inl (cA 2, 1, .inr (.inl fo))) :: X) (WG ad cA X qo gL ["java/lang/IllegalArgumentException", "java/util/NoSuchElementException"] r) := by
  refine lm_of (by decide) ?_ (Nat.le_of_ble_eq_true rfl)
  rintro p e R s m args below meth c rfl hx hb hml hown hts hlk hrt htab ⟨hP, hK, hD, hWX, hA, hN⟩ ls hl
  have hl : lv_has ls 5 [(0, .ref (ad 0)), (1, .int a1), (2, .int a2), (3, .ref qo)] := hl
  have hS : va_S A s.heap s.heap [] := va_S.rf
  refine lv_aload_n hx hb (k := 3) (i := 3) (x := qo) (by decide +kernel) rfl (lv_at hl 3 rfl) ?_
  refine lv_iconst hx hb (n := 0) (v := 0) (by decide +kernel) rfl ?_
  refine lv_aload_n hx hb (k := 0) (i := 0) (x := ad 0) (by decide +kernel) rfl (lv_at hl 0 rfl) ?_
  refine lv_iload_n hx hb (k := 1) (i := 1) (x := a1) (by decide +kernel) rfl (lv_at hl 1 rfl) ?_
  refine lv_iload_n hx hb (k := 2) (i := 2) (x := a2) (by decide +kernel) rfl (lv_at hl 2 rfl) ?_
  refine lcall (d := 12) (j := m7_refusal) (a := 0) (as := [.inr a1, .inr a2]) (X := (qo, .inl (cA 2, 1, .inr (.inl fo))) :: X) (own := RL) (x := 108) (rest := [.int 0, .ref qo]) hl0 hr (by decide) rfl rfl hx hts hb hown hP hD hK hWX hA hS (hl.1.trans hml.symm) (lq 88 rfl) (lq 89 rfl) (lq 90 rfl) ⟨by decide, by decide, by decide +kernel, by decide +kernel⟩ (by show (2 : Nat) ≤ 8; decide) (by decide +kernel) rfl (fun E τ e1 ce q9 H locs hP hS h1 h2 h3 => ?_) (fun v τ e1 H locs hP hS => ?_)
  · obtain ⟨i, hi⟩ := hE.thrown e1
    have hD := wOX_D (τ := τ) hD
    match i, hi with
    | 0, hi =>
      cases hi
      refine vx_catch (name := "java/lang/IllegalArgumentException") hown [] ⟨0, 10, 13, 13⟩ [⟨0, 10, 17, 57⟩] (htab.trans rfl) (fun z hz => by cases hz) rfl (by decide) (ts_of hts (lq 3 rfl) rfl) (va_Nw.use rfl (hWX.2.1 _ (lq 4 rfl) rfl)) h1 h2 h3 ?_
      refine lv_astore hx hb (i := 4) (by decide +kernel) hl (by decide) rfl (fun ls hl => ?_)
      refine lv_iconst hx hb (n := 1) (v := 1) (by decide +kernel) rfl ?_
      refine W.widen (k := 2) (n := 12) (by decide +kernel) (by decide +kernel) ?_
      exact vx_ret (W.zret hx hb hrt rfl (fun t ht hW => ⟨_, _, rfl, Or.inr ⟨0, _, τ, fo, e1, rfl, rfl, rfl⟩, by rw [ht]; exact hP, hD, hS.F ht⟩) hS.2.2 (by decide +kernel) hlk)
    | 1, hi =>
      cases hi
      refine vx_catch (name := "java/util/NoSuchElementException") hown [⟨0, 10, 13, 13⟩] ⟨0, 10, 17, 57⟩ [] (htab.trans rfl) (fun z hz => by cases List.mem_singleton.mp hz; exact Or.inr ⟨by decide, "java/lang/IllegalArgumentException", ts_of hts (lq 3 rfl) rfl, hN _ (by decide) _ (by decide) (by decide)⟩) rfl (by decide) (ts_of hts (lq 42 rfl) rfl) (va_Nw.use rfl (hWX.2.1 _ (lq 43 rfl) rfl)) h1 h2 h3 ?_
      refine lv_astore hx hb (i := 4) (by decide +kernel) hl (by decide) rfl (fun ls hl => ?_)
      refine lv_iconst hx hb (n := 2) (v := 2) (by decide +kernel) rfl ?_
      refine W.widen (k := 2) (n := 12) (by decide +kernel) (by decide +kernel) ?_
      exact vx_ret (W.zret hx hb hrt rfl (fun t ht hW => ⟨_, _, rfl, Or.inr ⟨1, _, τ, fo, e1, rfl, rfl, rfl⟩, by rw [ht]; exact hP, hD, hS.F ht⟩) hS.2.2 (by decide +kernel) hlk)
    | i + 2, hi => cases hi
  · obtain ⟨v, rfl⟩ := hE.ret e1
    have hD := wOX_D (τ := τ) hD
    refine W.eq (g2 := F0 m 8 ls [.int v, .int 0, .ref qo]) rfl ?_
    refine lv_i2l hx hb (by decide +kernel) rfl ?_
    refine va_last hx hb hK hP hD hS (31 + 0) 2 (wOX_get (j := 0) rfl) rfl vp01 (by decide +kernel) (fun H locs hP hD hS => ?_)
    rw [wOX_set (j := 0)] at hP hD
    refine lv_goto hx hb (off := 11) (tgt := 21) (by decide +kernel) (by decide) ?_
    refine lv_iconst hx hb (n := 0) (v := 0) (by decide +kernel) rfl ?_
    refine W.widen (k := 2) (n := 12) (by decide +kernel) (by decide +kernel) ?_
    exact vx_ret (W.zret hx hb hrt rfl (fun t ht hW => ⟨_, _, rfl, Or.inl ⟨v, τ, _, e1, rfl, rfl, rfl⟩, by rw [ht]; exact hP, hD, hS.F ht⟩) hS.2.2 (by decide +kernel) hlk)
theorem w_account {σ : Sg} {r : RS} {X : va_W} {qo : Nat} {fo : Nat → Int64} {a1 : Int32} (hl0 : l.stackTraces = false) (hr : RR 12 m7_account [.inl 0, .inr a1] σ r) (hE : RE ["java/lang/IllegalArgumentException"] r) : LM l D A ad adV cA ⟨RL, "account", "(LFerryDraughts;I[J)I"⟩ method_30_code 4 [(0, 9, 12, 13)] [.ref (ad 0), .int a1, .ref qo] (wO ad cA σ ++ (qo, .inl (cA 2, 1, .inr (.inl fo))) :: X) (WG ad cA X qo gL ["java/lang/IllegalArgumentException"] r) := by
  refine lm_of (by decide) ?_ (Nat.le_of_ble_eq_true rfl)
  rintro p e R s m args below meth c rfl hx hb hml hown hts hlk hrt htab ⟨hP, hK, hD, hWX, hA, hN⟩ ls hl
  have hl : lv_has ls 4 [(0, .ref (ad 0)), (1, .int a1), (2, .ref qo)] := hl
  have hS : va_S A s.heap s.heap [] := va_S.rf
  refine lv_aload_n hx hb (k := 2) (i := 2) (x := qo) (by decide +kernel) rfl (lv_at hl 2 rfl) ?_
  refine lv_iconst hx hb (n := 0) (v := 0) (by decide +kernel) rfl ?_
  refine lv_aload_n hx hb (k := 0) (i := 0) (x := ad 0) (by decide +kernel) rfl (lv_at hl 0 rfl) ?_
  refine lv_iload_n hx hb (k := 1) (i := 1) (x := a1) (by decide +kernel) rfl (lv_at hl 1 rfl) ?_
  refine lcall (d := 12) (j := m7_account) (a := 0) (as := [.inr a1]) (X := (qo, .inl (cA 2, 1, .inr (.inl fo))) :: X) (own := RL) (x := 111) (rest := [.int 0, .ref qo]) hl0 hr (by decide) rfl rfl hx hts hb hown hP hD hK hWX hA hS (hl.1.trans hml.symm) (lq 91 rfl) (lq 92 rfl) (lq 93 rfl) ⟨by decide, by decide, by decide +kernel, by decide +kernel⟩ (by show (2 : Nat) ≤ 8; decide) (by decide +kernel) rfl (fun E τ e1 ce q9 H locs hP hS h1 h2 h3 => ?_) (fun v τ e1 H locs hP hS => ?_)
  · obtain ⟨i, hi⟩ := hE.thrown e1
    have hD := wOX_D (τ := τ) hD
    match i, hi with
    | 0, hi =>
      cases hi
      refine vx_catch (name := "java/lang/IllegalArgumentException") hown [] ⟨0, 9, 12, 13⟩ [] (htab.trans rfl) (fun z hz => by cases hz) rfl (by decide) (ts_of hts (lq 3 rfl) rfl) (va_Nw.use rfl (hWX.2.1 _ (lq 4 rfl) rfl)) h1 h2 h3 ?_
      refine lv_astore_n hx hb (k := 3) (i := 3) (by decide +kernel) rfl hl (by decide) rfl (fun ls hl => ?_)
      refine lv_iconst hx hb (n := 1) (v := 1) (by decide +kernel) rfl ?_
      refine W.widen (k := 2) (n := 12) (by decide +kernel) (by decide +kernel) ?_
      exact vx_ret (W.zret hx hb hrt rfl (fun t ht hW => ⟨_, _, rfl, Or.inr ⟨0, _, τ, fo, e1, rfl, rfl, rfl⟩, by rw [ht]; exact hP, hD, hS.F ht⟩) hS.2.2 (by decide +kernel) hlk)
    | i + 1, hi => cases hi
  · obtain ⟨v, rfl⟩ := hE.ret e1
    have hD := wOX_D (τ := τ) hD
    refine W.eq (g2 := F0 m 7 ls [.int v, .int 0, .ref qo]) rfl ?_
    refine lv_i2l hx hb (by decide +kernel) rfl ?_
    refine va_last hx hb hK hP hD hS (31 + 0) 2 (wOX_get (j := 0) rfl) rfl vp01 (by decide +kernel) (fun H locs hP hD hS => ?_)
    rw [wOX_set (j := 0)] at hP hD
    refine lv_goto hx hb (off := 6) (tgt := 15) (by decide +kernel) (by decide) ?_
    refine lv_iconst hx hb (n := 0) (v := 0) (by decide +kernel) rfl ?_
    refine W.widen (k := 2) (n := 12) (by decide +kernel) (by decide +kernel) ?_
    exact vx_ret (W.zret hx hb hrt rfl (fun t ht hW => ⟨_, _, rfl, Or.inl ⟨v, τ, _, e1, rfl, rfl, rfl⟩, by rw [ht]; exact hP, hD, hS.F ht⟩) hS.2.2 (by decide +kernel) hlk)
theorem w_undo {σ : Sg} {r : RS} {X : va_W} {qo : Nat} {fo : Nat → Int64} (hl0 : l.stackTraces = false) (hr : RR 12 m7_undo [.inl 0] σ r) (hE : RE ["java/lang/IllegalStateException"] r) : LM l D A ad adV cA ⟨RL, "undo", "(LFerryDraughts;[J)I"⟩ method_33_code 3 [(0, 8, 11, 103)] [.ref (ad 0), .ref qo] (wO ad cA σ ++ (qo, .inl (cA 2, 1, .inr (.inl fo))) :: X) (WG ad cA X qo gL ["java/lang/IllegalStateException"] r) := by
  refine lm_of (by decide) ?_ (Nat.le_of_ble_eq_true rfl)
  rintro p e R s m args below meth c rfl hx hb hml hown hts hlk hrt htab ⟨hP, hK, hD, hWX, hA, hN⟩ ls hl
  have hl : lv_has ls 3 [(0, .ref (ad 0)), (1, .ref qo)] := hl
  have hS : va_S A s.heap s.heap [] := va_S.rf
  refine lv_aload_n hx hb (k := 1) (i := 1) (x := qo) (by decide +kernel) rfl (lv_at hl 1 rfl) ?_
  refine lv_iconst hx hb (n := 0) (v := 0) (by decide +kernel) rfl ?_
  refine lv_aload_n hx hb (k := 0) (i := 0) (x := ad 0) (by decide +kernel) rfl (lv_at hl 0 rfl) ?_
  refine lcall (d := 12) (j := m7_undo) (a := 0) (as := []) (X := (qo, .inl (cA 2, 1, .inr (.inl fo))) :: X) (own := RL) (x := 124) (rest := [.int 0, .ref qo]) hl0 hr (by decide) rfl rfl hx hts hb hown hP hD hK hWX hA hS (hl.1.trans hml.symm) (lq 94 rfl) (lq 95 rfl) (lq 96 rfl) ⟨by decide, by decide, by decide +kernel, by decide +kernel⟩ (by show (2 : Nat) ≤ 8; decide) (by decide +kernel) rfl (fun E τ e1 ce q9 H locs hP hS h1 h2 h3 => ?_) (fun v τ e1 H locs hP hS => ?_)
  · obtain ⟨i, hi⟩ := hE.thrown e1
    have hD := wOX_D (τ := τ) hD
    match i, hi with
    | 0, hi =>
      cases hi
      refine vx_catch (name := "java/lang/IllegalStateException") hown [] ⟨0, 8, 11, 103⟩ [] (htab.trans rfl) (fun z hz => by cases hz) rfl (by decide) (ts_of hts (lq 83 rfl) rfl) (va_Nw.use rfl (hWX.2.1 _ (lq 84 rfl) rfl)) h1 h2 h3 ?_
      refine lv_astore_n hx hb (k := 2) (i := 2) (by decide +kernel) rfl hl (by decide) rfl (fun ls hl => ?_)
      refine lv_iconst hx hb (n := 1) (v := 1) (by decide +kernel) rfl ?_
      refine W.widen (k := 2) (n := 12) (by decide +kernel) (by decide +kernel) ?_
      exact vx_ret (W.zret hx hb hrt rfl (fun t ht hW => ⟨_, _, rfl, Or.inr ⟨0, _, τ, fo, e1, rfl, rfl, rfl⟩, by rw [ht]; exact hP, hD, hS.F ht⟩) hS.2.2 (by decide +kernel) hlk)
    | i + 1, hi => cases hi
  · obtain ⟨v, rfl⟩ := hE.ret e1
    have hD := wOX_D (τ := τ) hD
    refine W.eq (g2 := F0 m 6 ls [.int v, .int 0, .ref qo]) rfl ?_
    refine lv_i2l hx hb (by decide +kernel) rfl ?_
    refine va_last hx hb hK hP hD hS (31 + 0) 2 (wOX_get (j := 0) rfl) rfl vp01 (by decide +kernel) (fun H locs hP hD hS => ?_)
    rw [wOX_set (j := 0)] at hP hD
    refine lv_goto hx hb (off := 6) (tgt := 14) (by decide +kernel) (by decide) ?_
    refine lv_iconst hx hb (n := 0) (v := 0) (by decide +kernel) rfl ?_
    refine W.widen (k := 2) (n := 12) (by decide +kernel) (by decide +kernel) ?_
    exact vx_ret (W.zret hx hb hrt rfl (fun t ht hW => ⟨_, _, rfl, Or.inl ⟨v, τ, _, e1, rfl, rfl, rfl⟩, by rw [ht]; exact hP, hD, hS.F ht⟩) hS.2.2 (by decide +kernel) hlk)
theorem w_restore {σ : Sg} {r : RS} {X : va_W} {qo : Nat} {fo : Nat → Int64} (hl0 : l.stackTraces = false) (hr : RR 12 m7_restore [.inl 0] σ r) (hE : RE ["java/lang/IllegalStateException"] r) : LM l D A ad adV cA ⟨RL, "restore", "(LFerryDraughts;[J)I"⟩ method_34_code 3 [(0, 8, 11, 103)] [.ref (ad 0), .ref qo] (wO ad cA σ ++ (qo, .inl (cA 2, 1, .inr (.inl fo))) :: X) (WG ad cA X qo gL ["java/lang/IllegalStateException"] r) := by
  refine lm_of (by decide) ?_ (Nat.le_of_ble_eq_true rfl)
  rintro p e R s m args below meth c rfl hx hb hml hown hts hlk hrt htab ⟨hP, hK, hD, hWX, hA, hN⟩ ls hl
  have hl : lv_has ls 3 [(0, .ref (ad 0)), (1, .ref qo)] := hl
  have hS : va_S A s.heap s.heap [] := va_S.rf
  refine lv_aload_n hx hb (k := 1) (i := 1) (x := qo) (by decide +kernel) rfl (lv_at hl 1 rfl) ?_
  refine lv_iconst hx hb (n := 0) (v := 0) (by decide +kernel) rfl ?_
  refine lv_aload_n hx hb (k := 0) (i := 0) (x := ad 0) (by decide +kernel) rfl (lv_at hl 0 rfl) ?_
  refine lcall (d := 12) (j := m7_restore) (a := 0) (as := []) (X := (qo, .inl (cA 2, 1, .inr (.inl fo))) :: X) (own := RL) (x := 127) (rest := [.int 0, .ref qo]) hl0 hr (by decide) rfl rfl hx hts hb hown hP hD hK hWX hA hS (hl.1.trans hml.symm) (lq 97 rfl) (lq 98 rfl) (lq 99 rfl) ⟨by decide, by decide, by decide +kernel, by decide +kernel⟩ (by show (2 : Nat) ≤ 8; decide) (by decide +kernel) rfl (fun E τ e1 ce q9 H locs hP hS h1 h2 h3 => ?_) (fun v τ e1 H locs hP hS => ?_)
  · obtain ⟨i, hi⟩ := hE.thrown e1
    have hD := wOX_D (τ := τ) hD
    match i, hi with
    | 0, hi =>
      cases hi
      refine vx_catch (name := "java/lang/IllegalStateException") hown [] ⟨0, 8, 11, 103⟩ [] (htab.trans rfl) (fun z hz => by cases hz) rfl (by decide) (ts_of hts (lq 83 rfl) rfl) (va_Nw.use rfl (hWX.2.1 _ (lq 84 rfl) rfl)) h1 h2 h3 ?_
      refine lv_astore_n hx hb (k := 2) (i := 2) (by decide +kernel) rfl hl (by decide) rfl (fun ls hl => ?_)
      refine lv_iconst hx hb (n := 1) (v := 1) (by decide +kernel) rfl ?_
      refine W.widen (k := 2) (n := 12) (by decide +kernel) (by decide +kernel) ?_
      exact vx_ret (W.zret hx hb hrt rfl (fun t ht hW => ⟨_, _, rfl, Or.inr ⟨0, _, τ, fo, e1, rfl, rfl, rfl⟩, by rw [ht]; exact hP, hD, hS.F ht⟩) hS.2.2 (by decide +kernel) hlk)
    | i + 1, hi => cases hi
  · obtain ⟨v, rfl⟩ := hE.ret e1
    have hD := wOX_D (τ := τ) hD
    refine W.eq (g2 := F0 m 6 ls [.int v, .int 0, .ref qo]) rfl ?_
    refine lv_i2l hx hb (by decide +kernel) rfl ?_
    refine va_last hx hb hK hP hD hS (31 + 0) 2 (wOX_get (j := 0) rfl) rfl vp01 (by decide +kernel) (fun H locs hP hD hS => ?_)
    rw [wOX_set (j := 0)] at hP hD
    refine lv_goto hx hb (off := 6) (tgt := 14) (by decide +kernel) (by decide) ?_
    refine lv_iconst hx hb (n := 0) (v := 0) (by decide +kernel) rfl ?_
    refine W.widen (k := 2) (n := 12) (by decide +kernel) (by decide +kernel) ?_
    exact vx_ret (W.zret hx hb hrt rfl (fun t ht hW => ⟨_, _, rfl, Or.inl ⟨v, τ, _, e1, rfl, rfl, rfl⟩, by rw [ht]; exact hP, hD, hS.F ht⟩) hS.2.2 (by decide +kernel) hlk)
end WRP
