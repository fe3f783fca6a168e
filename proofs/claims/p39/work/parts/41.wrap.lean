/-! the law's wrappers, by program: wip/p39/db41.py -/
section WRP
variable {l : Launch} {D : va_G} {A : Nat → Prop} {ad adV : Nat → Nat} {cA : Nat → ClassId}
/-- what a class method answers: an int, or one of the exceptions -/
def REz (Es : List String) (r : RSZ) : Prop := (∃ v τ, r = .inl (some (.inr v), τ)) ∨ ∃ (i : Nat) (E : String) (τ : SZ), r = .inr (E, τ) ∧ Es[i]? = some E
theorem REz.thrown {Es : List String} {r : RSZ} {E : String} {τ : SZ} (h : REz Es r) (e : r = .inr (E, τ)) : ∃ i : Nat, Es[i]? = some E := by
  subst e
  rcases h with ⟨v, τ', h⟩ | ⟨i, E', τ', h, h1⟩
  · cases h
  · cases h; exact ⟨i, h1⟩
theorem REz.ret {Es : List String} {r : RSZ} {v : Option VZ} {τ : SZ} (h : REz Es r) (e : r = .inl (v, τ)) : ∃ w, v = some (.inr w) := by
  subst e
  rcases h with ⟨v, τ', h⟩ | ⟨i, E', τ', h, h1⟩
  · cases h; exact ⟨_, rfl⟩
  · cases h
def REb (Es : List String) (r : RSZ) : Prop := REz Es r ∧ ∀ {v : Int} {τ : SZ}, r = .inl (some (.inr v), τ) → v = 0 ∨ v = 1
def kof : List (String × Int) → String → Int
  | [], _ => 0
  | (E, k) :: l, F => if F = E then k else kof l F
theorem kof_0 {E : String} {k : Int} {l : List (String × Int)} : kof ((E, k) :: l) E = k := if_pos rfl
theorem kof_1 {E E0 : String} {k k0 : Int} {l : List (String × Int)} (h : E ≠ E0) : kof ((E0, k0) :: (E, k) :: l) E = k := (if_neg h).trans kof_0
theorem kof_2 {E E0 E1 : String} {k k0 k1 : Int} {l : List (String × Int)} (h : E ≠ E0) (h1 : E ≠ E1) : kof ((E0, k0) :: (E1, k1) :: (E, k) :: l) E = k := (if_neg h).trans (kof_1 h1)
def zBz (v : Int) : Int := if v = 0 then 0 else 1
theorem zBz_0 {v : Int} (h : v = 0 ∨ v = 1) (hv : iI v = 0) : zBz v = 0 := by
  rcases h with rfl | rfl
  · rfl
  · exact absurd hv (by decide)
theorem zBz_1 {v : Int} (hv : ¬ iI v = 0) : zBz v = 1 := if_neg (fun h => hv (by rw [h]; decide))
def ansK (g : Int → Int) (ks : List (String × Int)) : RSZ → Int × SZ
  | .inl (some (.inr v), τ) => (g v, τ)
  | .inl (_, τ) => (0, τ)
  | .inr (E, τ) => (kof ks E, τ)
def WGz (ad : Nat → Nat) (cA : Nat → ClassId) (X : va_W) (g : Int → Int) (ks : List (String × Int)) (r : RSZ) (v : Option Value) (V' : va_W) : Prop :=
  v = some (.int (iI (ansK g ks r).1)) ∧ V' = wO ad cA (sz (ansK g ks r).2) ++ X
theorem wgz_x {X : va_W} {g : Int → Int} {ks : List (String × Int)} {r : RSZ} {E : String} {τ : SZ} {k : Int} (e : r = .inr (E, τ)) (h : kof ks E = k) : WGz ad cA X g ks r (some (.int (iI k))) (wO ad cA (sz τ) ++ X) := by
  subst e
  subst h
  exact ⟨rfl, rfl⟩
theorem wgz_r {X : va_W} {g : Int → Int} {ks : List (String × Int)} {r : RSZ} {v k : Int} {τ : SZ} (e : r = .inl (some (.inr v), τ)) (h : g v = k) : WGz ad cA X g ks r (some (.int (iI k))) (wO ad cA (sz τ) ++ X) := by
  subst e
  subst h
  exact ⟨rfl, rfl⟩
def lqW : List Jvm.Cond := [.methodLink RL 8 (mY m7_ferry),
  .instanceMethod (mY m7_ferry),
  .selects (mY m7_ferry).cls (mY m7_ferry) (mY m7_ferry),
  .classLink RL 14 "java/lang/IllegalArgumentException",
  .castable "java/lang/IllegalArgumentException" "java/lang/IllegalArgumentException",
  .classLink RL 16 "java/lang/UnsupportedOperationException",
  .castable "java/lang/UnsupportedOperationException" "java/lang/UnsupportedOperationException",
  .methodLink RL 18 (mY m7_tug),
  .instanceMethod (mY m7_tug),
  .selects (mY m7_tug).cls (mY m7_tug) (mY m7_tug),
  .classLink RL 22 "java/lang/IndexOutOfBoundsException",
  .castable "java/lang/IndexOutOfBoundsException" "java/lang/IndexOutOfBoundsException",
  .methodLink RL 24 (mY m7_lock),
  .instanceMethod (mY m7_lock),
  .selects (mY m7_lock).cls (mY m7_lock) (mY m7_lock),
  .methodLink RL 27 (mY m7_fog),
  .instanceMethod (mY m7_fog),
  .selects (mY m7_fog).cls (mY m7_fog) (mY m7_fog),
  .methodLink RL 30 (mY m7_move),
  .instanceMethod (mY m7_move),
  .selects (mY m7_move).cls (mY m7_move) (mY m7_move),
  .methodLink RL 34 (mY m7_pass),
  .instanceMethod (mY m7_pass),
  .selects (mY m7_pass).cls (mY m7_pass) (mY m7_pass),
  .methodLink RL 38 (mY m7_ferryOf),
  .instanceMethod (mY m7_ferryOf),
  .selects (mY m7_ferryOf).cls (mY m7_ferryOf) (mY m7_ferryOf),
  .methodLink RL 41 (mY m7_at),
  .instanceMethod (mY m7_at),
  .selects (mY m7_at).cls (mY m7_at) (mY m7_at),
  .methodLink RL 44 (mY m7_lockAt),
  .instanceMethod (mY m7_lockAt),
  .selects (mY m7_lockAt).cls (mY m7_lockAt) (mY m7_lockAt),
  .methodLink RL 47 (mY m7_isFog),
  .instanceMethod (mY m7_isFog),
  .selects (mY m7_isFog).cls (mY m7_isFog) (mY m7_isFog),
  .methodLink RL 51 (mY m7_would),
  .instanceMethod (mY m7_would),
  .selects (mY m7_would).cls (mY m7_would) (mY m7_would),
  .methodLink RL 54 (mY m7_why),
  .instanceMethod (mY m7_why),
  .selects (mY m7_why).cls (mY m7_why) (mY m7_why),
  .classLink RL 58 "java/util/NoSuchElementException",
  .castable "java/util/NoSuchElementException" "java/util/NoSuchElementException",
  .methodLink RL 60 (mY m7_to),
  .instanceMethod (mY m7_to),
  .selects (mY m7_to).cls (mY m7_to) (mY m7_to),
  .methodLink RL 63 (mY m7_moves),
  .instanceMethod (mY m7_moves),
  .selects (mY m7_moves).cls (mY m7_moves) (mY m7_moves),
  .methodLink RL 67 (mY m7_captures),
  .instanceMethod (mY m7_captures),
  .selects (mY m7_captures).cls (mY m7_captures) (mY m7_captures),
  .methodLink RL 70 (mY m7_isThreatened),
  .instanceMethod (mY m7_isThreatened),
  .selects (mY m7_isThreatened).cls (mY m7_isThreatened) (mY m7_isThreatened),
  .methodLink RL 74 (mY m7_gain),
  .instanceMethod (mY m7_gain),
  .selects (mY m7_gain).cls (mY m7_gain) (mY m7_gain),
  .methodLink RL 77 (mY m7_best),
  .instanceMethod (mY m7_best),
  .selects (mY m7_best).cls (mY m7_best) (mY m7_best),
  .methodLink RL 81 (mY m7_toLock),
  .instanceMethod (mY m7_toLock),
  .selects (mY m7_toLock).cls (mY m7_toLock) (mY m7_toLock),
  .methodLink RL 84 (mY m7_boldest),
  .instanceMethod (mY m7_boldest),
  .selects (mY m7_boldest).cls (mY m7_boldest) (mY m7_boldest),
  .methodLink RL 87 (mY m7_farthest),
  .instanceMethod (mY m7_farthest),
  .selects (mY m7_farthest).cls (mY m7_farthest) (mY m7_farthest),
  .methodLink RL 90 (mY m7_riverLine),
  .instanceMethod (mY m7_riverLine),
  .selects (mY m7_riverLine).cls (mY m7_riverLine) (mY m7_riverLine),
  .methodLink RL 93 (mY m7_ferryLine),
  .instanceMethod (mY m7_ferryLine),
  .selects (mY m7_ferryLine).cls (mY m7_ferryLine) (mY m7_ferryLine),
  .methodLink RL 96 (mY m7_character),
  .instanceMethod (mY m7_character),
  .selects (mY m7_character).cls (mY m7_character) (mY m7_character),
  .methodLink RL 100 (mY m7_append),
  .instanceMethod (mY m7_append),
  .selects (mY m7_append).cls (mY m7_append) (mY m7_append),
  .classLink RL 104 "java/lang/IllegalStateException",
  .castable "java/lang/IllegalStateException" "java/lang/IllegalStateException",
  .methodLink RL 106 (mY m7_run),
  .instanceMethod (mY m7_run),
  .selects (mY m7_run).cls (mY m7_run) (mY m7_run),
  .methodLink RL 109 (mY m7_refusal),
  .instanceMethod (mY m7_refusal),
  .selects (mY m7_refusal).cls (mY m7_refusal) (mY m7_refusal),
  .methodLink RL 112 (mY m7_undo),
  .instanceMethod (mY m7_undo),
  .selects (mY m7_undo).cls (mY m7_undo) (mY m7_undo)]
theorem lq_in : ∀ w ∈ lqW, w ∈ lw_tbl := by decide +kernel
theorem lq (k : Nat) {w : Jvm.Cond} (h : lqW[k]? = some w) : w ∈ lw_tbl := lq_in w (List.mem_of_getElem? h)
abbrev ks_ferry : List (String × Int) := [("java/lang/IllegalArgumentException", -12), ("java/lang/UnsupportedOperationException", -1)]
theorem w_ferry {τ : SZ} {r : RSZ} {X : va_W} {a1 a2 a3 : Int} (hl0 : l.stackTraces = false) (hr : RZ 12 m7_ferry [.inl 0, .inr a1, .inr a2, .inr a3] τ r) (hE : REz ["java/lang/IllegalArgumentException", "java/lang/UnsupportedOperationException"] r) : LK l D A ad adV cA (.codeWith yL_ferry method_3_code 5 (some .int) [(0, 7, 8, 14), (0, 7, 13, 16)]) yL_ferry 22 1 6 [.ref (ad 0), .int (iI a1), .int (iI a2), .int (iI a3)] (wO ad cA (sz τ) ++ X) (WGz ad cA X id ks_ferry r) := by
  refine lk_ofH hl0 rfl ?_ (Nat.le_of_ble_eq_true rfl)
  rintro p e s m args below meth c F hlk hrt htab hw ls hl
  have hl : lv_has ls 5 [(0, .ref (ad 0)), (1, .int (iI a1)), (2, .int (iI a2)), (3, .int (iI a3))] := hl
  have hx := F.1
  have hb := F.2.1
  refine lv_aload_n hx hb (k := 0) (i := 0) (x := ad 0) (by decide +kernel) rfl (lv_at hl 0 rfl) ?_
  refine lv_iload_n hx hb (k := 1) (i := 1) (x := iI a1) (by decide +kernel) rfl (lv_at hl 1 rfl) ?_
  refine lv_iload_n hx hb (k := 2) (i := 2) (x := iI a2) (by decide +kernel) rfl (lv_at hl 2 rfl) ?_
  refine lv_iload_n hx hb (k := 3) (i := 3) (x := iI a3) (by decide +kernel) rfl (lv_at hl 3 rfl) ?_
  refine fl_call (d := 12) (j := m7_ferry) (as := [.inr a1, .inr a2, .inr a3]) (X := X) (x := 8) (rest := []) F hw hl.1 hr (by decide) rfl rfl (lq 0 rfl) (lq 1 rfl) (lq 2 rfl) ⟨by decide, by decide, by decide +kernel, by decide +kernel⟩ (by show (0 : Nat) ≤ 8; decide) (by decide +kernel) rfl (fun E τ1 e1 ce q9 H locs hw h1 h2 h3 => ?_) (fun v τ1 e1 H locs hw => ?_)
  · obtain ⟨i, hi⟩ := hE.thrown e1
    match i, hi with
    | 0, hi =>
      cases hi
      refine vx_catch (name := "java/lang/IllegalArgumentException") F.2.2.2.1 [] ⟨0, 7, 8, 14⟩ [⟨0, 7, 13, 16⟩] (htab.trans rfl) (fun z hz => by cases hz) rfl (by decide) (ts_of F.2.2.2.2.1 (lq 3 rfl) rfl) (va_Nw.use rfl (F.2.2.2.2.2.2.1.2.1 _ (lq 4 rfl) rfl)) h1 h2 h3 ?_
      refine lv_astore hx hb (i := 4) (by decide +kernel) hl (by decide) rfl (fun ls hl => ?_)
      refine lv_bipush hx hb (n := -12) (v := iI (-12)) (by decide +kernel) (by decide) ?_
      exact lk_iret F hlk hrt hw rfl (wgz_x e1 (kof_0)) (Nat.le_of_ble_eq_true rfl) (Nat.le_of_ble_eq_true rfl) (by decide +kernel)
    | 1, hi =>
      cases hi
      refine vx_catch (name := "java/lang/UnsupportedOperationException") F.2.2.2.1 [⟨0, 7, 8, 14⟩] ⟨0, 7, 13, 16⟩ [] (htab.trans rfl) (fun z hz => by cases List.mem_singleton.mp hz; exact Or.inr ⟨by decide, "java/lang/IllegalArgumentException", ts_of F.2.2.2.2.1 (lq 3 rfl) rfl, F.2.2.2.2.2.2.2.2.1 _ (by decide) _ (by decide) (by decide)⟩) rfl (by decide) (ts_of F.2.2.2.2.1 (lq 5 rfl) rfl) (va_Nw.use rfl (F.2.2.2.2.2.2.1.2.1 _ (lq 6 rfl) rfl)) h1 h2 h3 ?_
      refine lv_astore hx hb (i := 4) (by decide +kernel) hl (by decide) rfl (fun ls hl => ?_)
      refine lv_iconst hx hb (n := -1) (v := iI (-1)) (by decide +kernel) (by decide) ?_
      exact lk_iret F hlk hrt hw rfl (wgz_x e1 (kof_1 (by decide))) (Nat.le_of_ble_eq_true rfl) (Nat.le_of_ble_eq_true rfl) (by decide +kernel)
    | i + 2, hi => cases hi
  · obtain ⟨v, rfl⟩ := hE.ret e1
    refine W.eq (g2 := F0 m 7 ls [.int (iI v)]) rfl ?_
    exact lk_iret F hlk hrt hw rfl (wgz_r e1 rfl) (Nat.le_of_ble_eq_true rfl) (Nat.le_of_ble_eq_true rfl) (by decide +kernel)
abbrev ks_tug : List (String × Int) := [("java/lang/IndexOutOfBoundsException", -11), ("java/lang/UnsupportedOperationException", -1)]
theorem w_tug {τ : SZ} {r : RSZ} {X : va_W} {a1 a2 : Int} (hl0 : l.stackTraces = false) (hr : RZ 12 m7_tug [.inl 0, .inr a1, .inr a2] τ r) (hE : REz ["java/lang/IndexOutOfBoundsException", "java/lang/UnsupportedOperationException"] r) : LK l D A ad adV cA (.codeWith yL_tug method_4_code 4 (some .int) [(0, 6, 7, 22), (0, 6, 11, 16)]) yL_tug 22 1 6 [.ref (ad 0), .int (iI a1), .int (iI a2)] (wO ad cA (sz τ) ++ X) (WGz ad cA X id ks_tug r) := by
  refine lk_ofH hl0 rfl ?_ (Nat.le_of_ble_eq_true rfl)
  rintro p e s m args below meth c F hlk hrt htab hw ls hl
  have hl : lv_has ls 4 [(0, .ref (ad 0)), (1, .int (iI a1)), (2, .int (iI a2))] := hl
  have hx := F.1
  have hb := F.2.1
  refine lv_aload_n hx hb (k := 0) (i := 0) (x := ad 0) (by decide +kernel) rfl (lv_at hl 0 rfl) ?_
  refine lv_iload_n hx hb (k := 1) (i := 1) (x := iI a1) (by decide +kernel) rfl (lv_at hl 1 rfl) ?_
  refine lv_iload_n hx hb (k := 2) (i := 2) (x := iI a2) (by decide +kernel) rfl (lv_at hl 2 rfl) ?_
  refine fl_call (d := 12) (j := m7_tug) (as := [.inr a1, .inr a2]) (X := X) (x := 18) (rest := []) F hw hl.1 hr (by decide) rfl rfl (lq 7 rfl) (lq 8 rfl) (lq 9 rfl) ⟨by decide, by decide, by decide +kernel, by decide +kernel⟩ (by show (0 : Nat) ≤ 8; decide) (by decide +kernel) rfl (fun E τ1 e1 ce q9 H locs hw h1 h2 h3 => ?_) (fun v τ1 e1 H locs hw => ?_)
  · obtain ⟨i, hi⟩ := hE.thrown e1
    match i, hi with
    | 0, hi =>
      cases hi
      refine vx_catch (name := "java/lang/IndexOutOfBoundsException") F.2.2.2.1 [] ⟨0, 6, 7, 22⟩ [⟨0, 6, 11, 16⟩] (htab.trans rfl) (fun z hz => by cases hz) rfl (by decide) (ts_of F.2.2.2.2.1 (lq 10 rfl) rfl) (va_Nw.use rfl (F.2.2.2.2.2.2.1.2.1 _ (lq 11 rfl) rfl)) h1 h2 h3 ?_
      refine lv_astore_n hx hb (k := 3) (i := 3) (by decide +kernel) rfl hl (by decide) rfl (fun ls hl => ?_)
      refine lv_bipush hx hb (n := -11) (v := iI (-11)) (by decide +kernel) (by decide) ?_
      exact lk_iret F hlk hrt hw rfl (wgz_x e1 (kof_0)) (Nat.le_of_ble_eq_true rfl) (Nat.le_of_ble_eq_true rfl) (by decide +kernel)
    | 1, hi =>
      cases hi
      refine vx_catch (name := "java/lang/UnsupportedOperationException") F.2.2.2.1 [⟨0, 6, 7, 22⟩] ⟨0, 6, 11, 16⟩ [] (htab.trans rfl) (fun z hz => by cases List.mem_singleton.mp hz; exact Or.inr ⟨by decide, "java/lang/IndexOutOfBoundsException", ts_of F.2.2.2.2.1 (lq 10 rfl) rfl, F.2.2.2.2.2.2.2.2.1 _ (by decide) _ (by decide) (by decide)⟩) rfl (by decide) (ts_of F.2.2.2.2.1 (lq 5 rfl) rfl) (va_Nw.use rfl (F.2.2.2.2.2.2.1.2.1 _ (lq 6 rfl) rfl)) h1 h2 h3 ?_
      refine lv_astore_n hx hb (k := 3) (i := 3) (by decide +kernel) rfl hl (by decide) rfl (fun ls hl => ?_)
      refine lv_iconst hx hb (n := -1) (v := iI (-1)) (by decide +kernel) (by decide) ?_
      exact lk_iret F hlk hrt hw rfl (wgz_x e1 (kof_1 (by decide))) (Nat.le_of_ble_eq_true rfl) (Nat.le_of_ble_eq_true rfl) (by decide +kernel)
    | i + 2, hi => cases hi
  · obtain ⟨v, rfl⟩ := hE.ret e1
    refine W.eq (g2 := F0 m 6 ls [.int (iI v)]) rfl ?_
    exact lk_iret F hlk hrt hw rfl (wgz_r e1 rfl) (Nat.le_of_ble_eq_true rfl) (Nat.le_of_ble_eq_true rfl) (by decide +kernel)
abbrev ks_lock : List (String × Int) := [("java/lang/IndexOutOfBoundsException", -11), ("java/lang/IllegalArgumentException", -12), ("java/lang/UnsupportedOperationException", -1)]
theorem w_lock {τ : SZ} {r : RSZ} {X : va_W} {a1 a2 a3 : Int} (hl0 : l.stackTraces = false) (hr : RZ 12 m7_lock [.inl 0, .inr a1, .inr a2, .inr a3] τ r) (hE : REz ["java/lang/IndexOutOfBoundsException", "java/lang/IllegalArgumentException", "java/lang/UnsupportedOperationException"] r) : LK l D A ad adV cA (.codeWith yL_lock method_5_code 5 (some .int) [(0, 7, 8, 22), (0, 7, 13, 14), (0, 7, 18, 16)]) yL_lock 22 1 6 [.ref (ad 0), .int (iI a1), .int (iI a2), .int (iI a3)] (wO ad cA (sz τ) ++ X) (WGz ad cA X id ks_lock r) := by
  refine lk_ofH hl0 rfl ?_ (Nat.le_of_ble_eq_true rfl)
  rintro p e s m args below meth c F hlk hrt htab hw ls hl
  have hl : lv_has ls 5 [(0, .ref (ad 0)), (1, .int (iI a1)), (2, .int (iI a2)), (3, .int (iI a3))] := hl
  have hx := F.1
  have hb := F.2.1
  refine lv_aload_n hx hb (k := 0) (i := 0) (x := ad 0) (by decide +kernel) rfl (lv_at hl 0 rfl) ?_
  refine lv_iload_n hx hb (k := 1) (i := 1) (x := iI a1) (by decide +kernel) rfl (lv_at hl 1 rfl) ?_
  refine lv_iload_n hx hb (k := 2) (i := 2) (x := iI a2) (by decide +kernel) rfl (lv_at hl 2 rfl) ?_
  refine lv_iload_n hx hb (k := 3) (i := 3) (x := iI a3) (by decide +kernel) rfl (lv_at hl 3 rfl) ?_
  refine fl_call (d := 12) (j := m7_lock) (as := [.inr a1, .inr a2, .inr a3]) (X := X) (x := 24) (rest := []) F hw hl.1 hr (by decide) rfl rfl (lq 12 rfl) (lq 13 rfl) (lq 14 rfl) ⟨by decide, by decide, by decide +kernel, by decide +kernel⟩ (by show (0 : Nat) ≤ 8; decide) (by decide +kernel) rfl (fun E τ1 e1 ce q9 H locs hw h1 h2 h3 => ?_) (fun v τ1 e1 H locs hw => ?_)
  · obtain ⟨i, hi⟩ := hE.thrown e1
    match i, hi with
    | 0, hi =>
      cases hi
      refine vx_catch (name := "java/lang/IndexOutOfBoundsException") F.2.2.2.1 [] ⟨0, 7, 8, 22⟩ [⟨0, 7, 13, 14⟩, ⟨0, 7, 18, 16⟩] (htab.trans rfl) (fun z hz => by cases hz) rfl (by decide) (ts_of F.2.2.2.2.1 (lq 10 rfl) rfl) (va_Nw.use rfl (F.2.2.2.2.2.2.1.2.1 _ (lq 11 rfl) rfl)) h1 h2 h3 ?_
      refine lv_astore hx hb (i := 4) (by decide +kernel) hl (by decide) rfl (fun ls hl => ?_)
      refine lv_bipush hx hb (n := -11) (v := iI (-11)) (by decide +kernel) (by decide) ?_
      exact lk_iret F hlk hrt hw rfl (wgz_x e1 (kof_0)) (Nat.le_of_ble_eq_true rfl) (Nat.le_of_ble_eq_true rfl) (by decide +kernel)
    | 1, hi =>
      cases hi
      refine vx_catch (name := "java/lang/IllegalArgumentException") F.2.2.2.1 [⟨0, 7, 8, 22⟩] ⟨0, 7, 13, 14⟩ [⟨0, 7, 18, 16⟩] (htab.trans rfl) (fun z hz => by cases List.mem_singleton.mp hz; exact Or.inr ⟨by decide, "java/lang/IndexOutOfBoundsException", ts_of F.2.2.2.2.1 (lq 10 rfl) rfl, F.2.2.2.2.2.2.2.2.1 _ (by decide) _ (by decide) (by decide)⟩) rfl (by decide) (ts_of F.2.2.2.2.1 (lq 3 rfl) rfl) (va_Nw.use rfl (F.2.2.2.2.2.2.1.2.1 _ (lq 4 rfl) rfl)) h1 h2 h3 ?_
      refine lv_astore hx hb (i := 4) (by decide +kernel) hl (by decide) rfl (fun ls hl => ?_)
      refine lv_bipush hx hb (n := -12) (v := iI (-12)) (by decide +kernel) (by decide) ?_
      exact lk_iret F hlk hrt hw rfl (wgz_x e1 (kof_1 (by decide))) (Nat.le_of_ble_eq_true rfl) (Nat.le_of_ble_eq_true rfl) (by decide +kernel)
    | 2, hi =>
      cases hi
      refine vx_catch (name := "java/lang/UnsupportedOperationException") F.2.2.2.1 [⟨0, 7, 8, 22⟩, ⟨0, 7, 13, 14⟩] ⟨0, 7, 18, 16⟩ [] (htab.trans rfl) (fun z hz => by
        rcases List.mem_cons.mp hz with rfl | hz
        · exact Or.inr ⟨by decide, "java/lang/IndexOutOfBoundsException", ts_of F.2.2.2.2.1 (lq 10 rfl) rfl, F.2.2.2.2.2.2.2.2.1 _ (by decide) _ (by decide) (by decide)⟩
        · cases List.mem_singleton.mp hz
          exact Or.inr ⟨by decide, "java/lang/IllegalArgumentException", ts_of F.2.2.2.2.1 (lq 3 rfl) rfl, F.2.2.2.2.2.2.2.2.1 _ (by decide) _ (by decide) (by decide)⟩) rfl (by decide) (ts_of F.2.2.2.2.1 (lq 5 rfl) rfl) (va_Nw.use rfl (F.2.2.2.2.2.2.1.2.1 _ (lq 6 rfl) rfl)) h1 h2 h3 ?_
      refine lv_astore hx hb (i := 4) (by decide +kernel) hl (by decide) rfl (fun ls hl => ?_)
      refine lv_iconst hx hb (n := -1) (v := iI (-1)) (by decide +kernel) (by decide) ?_
      exact lk_iret F hlk hrt hw rfl (wgz_x e1 (kof_2 (by decide) (by decide))) (Nat.le_of_ble_eq_true rfl) (Nat.le_of_ble_eq_true rfl) (by decide +kernel)
    | i + 3, hi => cases hi
  · obtain ⟨v, rfl⟩ := hE.ret e1
    refine W.eq (g2 := F0 m 7 ls [.int (iI v)]) rfl ?_
    exact lk_iret F hlk hrt hw rfl (wgz_r e1 rfl) (Nat.le_of_ble_eq_true rfl) (Nat.le_of_ble_eq_true rfl) (by decide +kernel)
abbrev ks_fog : List (String × Int) := [("java/lang/IndexOutOfBoundsException", -11), ("java/lang/IllegalArgumentException", -12), ("java/lang/UnsupportedOperationException", -1)]
theorem w_fog {τ : SZ} {r : RSZ} {X : va_W} {a1 a2 a3 : Int} (hl0 : l.stackTraces = false) (hr : RZ 12 m7_fog [.inl 0, .inr a1, .inr a2, .inr a3] τ r) (hE : REz ["java/lang/IndexOutOfBoundsException", "java/lang/IllegalArgumentException", "java/lang/UnsupportedOperationException"] r) : LK l D A ad adV cA (.codeWith yL_fog method_6_code 5 (some .int) [(0, 7, 8, 22), (0, 7, 13, 14), (0, 7, 18, 16)]) yL_fog 22 1 6 [.ref (ad 0), .int (iI a1), .int (iI a2), .int (iI a3)] (wO ad cA (sz τ) ++ X) (WGz ad cA X id ks_fog r) := by
  refine lk_ofH hl0 rfl ?_ (Nat.le_of_ble_eq_true rfl)
  rintro p e s m args below meth c F hlk hrt htab hw ls hl
  have hl : lv_has ls 5 [(0, .ref (ad 0)), (1, .int (iI a1)), (2, .int (iI a2)), (3, .int (iI a3))] := hl
  have hx := F.1
  have hb := F.2.1
  refine lv_aload_n hx hb (k := 0) (i := 0) (x := ad 0) (by decide +kernel) rfl (lv_at hl 0 rfl) ?_
  refine lv_iload_n hx hb (k := 1) (i := 1) (x := iI a1) (by decide +kernel) rfl (lv_at hl 1 rfl) ?_
  refine lv_iload_n hx hb (k := 2) (i := 2) (x := iI a2) (by decide +kernel) rfl (lv_at hl 2 rfl) ?_
  refine lv_iload_n hx hb (k := 3) (i := 3) (x := iI a3) (by decide +kernel) rfl (lv_at hl 3 rfl) ?_
  refine fl_call (d := 12) (j := m7_fog) (as := [.inr a1, .inr a2, .inr a3]) (X := X) (x := 27) (rest := []) F hw hl.1 hr (by decide) rfl rfl (lq 15 rfl) (lq 16 rfl) (lq 17 rfl) ⟨by decide, by decide, by decide +kernel, by decide +kernel⟩ (by show (0 : Nat) ≤ 8; decide) (by decide +kernel) rfl (fun E τ1 e1 ce q9 H locs hw h1 h2 h3 => ?_) (fun v τ1 e1 H locs hw => ?_)
  · obtain ⟨i, hi⟩ := hE.thrown e1
    match i, hi with
    | 0, hi =>
      cases hi
      refine vx_catch (name := "java/lang/IndexOutOfBoundsException") F.2.2.2.1 [] ⟨0, 7, 8, 22⟩ [⟨0, 7, 13, 14⟩, ⟨0, 7, 18, 16⟩] (htab.trans rfl) (fun z hz => by cases hz) rfl (by decide) (ts_of F.2.2.2.2.1 (lq 10 rfl) rfl) (va_Nw.use rfl (F.2.2.2.2.2.2.1.2.1 _ (lq 11 rfl) rfl)) h1 h2 h3 ?_
      refine lv_astore hx hb (i := 4) (by decide +kernel) hl (by decide) rfl (fun ls hl => ?_)
      refine lv_bipush hx hb (n := -11) (v := iI (-11)) (by decide +kernel) (by decide) ?_
      exact lk_iret F hlk hrt hw rfl (wgz_x e1 (kof_0)) (Nat.le_of_ble_eq_true rfl) (Nat.le_of_ble_eq_true rfl) (by decide +kernel)
    | 1, hi =>
      cases hi
      refine vx_catch (name := "java/lang/IllegalArgumentException") F.2.2.2.1 [⟨0, 7, 8, 22⟩] ⟨0, 7, 13, 14⟩ [⟨0, 7, 18, 16⟩] (htab.trans rfl) (fun z hz => by cases List.mem_singleton.mp hz; exact Or.inr ⟨by decide, "java/lang/IndexOutOfBoundsException", ts_of F.2.2.2.2.1 (lq 10 rfl) rfl, F.2.2.2.2.2.2.2.2.1 _ (by decide) _ (by decide) (by decide)⟩) rfl (by decide) (ts_of F.2.2.2.2.1 (lq 3 rfl) rfl) (va_Nw.use rfl (F.2.2.2.2.2.2.1.2.1 _ (lq 4 rfl) rfl)) h1 h2 h3 ?_
      refine lv_astore hx hb (i := 4) (by decide +kernel) hl (by decide) rfl (fun ls hl => ?_)
      refine lv_bipush hx hb (n := -12) (v := iI (-12)) (by decide +kernel) (by decide) ?_
      exact lk_iret F hlk hrt hw rfl (wgz_x e1 (kof_1 (by decide))) (Nat.le_of_ble_eq_true rfl) (Nat.le_of_ble_eq_true rfl) (by decide +kernel)
    | 2, hi =>
      cases hi
      refine vx_catch (name := "java/lang/UnsupportedOperationException") F.2.2.2.1 [⟨0, 7, 8, 22⟩, ⟨0, 7, 13, 14⟩] ⟨0, 7, 18, 16⟩ [] (htab.trans rfl) (fun z hz => by
        rcases List.mem_cons.mp hz with rfl | hz
        · exact Or.inr ⟨by decide, "java/lang/IndexOutOfBoundsException", ts_of F.2.2.2.2.1 (lq 10 rfl) rfl, F.2.2.2.2.2.2.2.2.1 _ (by decide) _ (by decide) (by decide)⟩
        · cases List.mem_singleton.mp hz
          exact Or.inr ⟨by decide, "java/lang/IllegalArgumentException", ts_of F.2.2.2.2.1 (lq 3 rfl) rfl, F.2.2.2.2.2.2.2.2.1 _ (by decide) _ (by decide) (by decide)⟩) rfl (by decide) (ts_of F.2.2.2.2.1 (lq 5 rfl) rfl) (va_Nw.use rfl (F.2.2.2.2.2.2.1.2.1 _ (lq 6 rfl) rfl)) h1 h2 h3 ?_
      refine lv_astore hx hb (i := 4) (by decide +kernel) hl (by decide) rfl (fun ls hl => ?_)
      refine lv_iconst hx hb (n := -1) (v := iI (-1)) (by decide +kernel) (by decide) ?_
      exact lk_iret F hlk hrt hw rfl (wgz_x e1 (kof_2 (by decide) (by decide))) (Nat.le_of_ble_eq_true rfl) (Nat.le_of_ble_eq_true rfl) (by decide +kernel)
    | i + 3, hi => cases hi
  · obtain ⟨v, rfl⟩ := hE.ret e1
    refine W.eq (g2 := F0 m 7 ls [.int (iI v)]) rfl ?_
    exact lk_iret F hlk hrt hw rfl (wgz_r e1 rfl) (Nat.le_of_ble_eq_true rfl) (Nat.le_of_ble_eq_true rfl) (by decide +kernel)
abbrev ks_move : List (String × Int) := [("java/lang/IndexOutOfBoundsException", -11), ("java/lang/UnsupportedOperationException", -1)]
theorem w_move {τ : SZ} {r : RSZ} {X : va_W} {a1 a2 a3 : Int} (hl0 : l.stackTraces = false) (hr : RZ 12 m7_move [.inl 0, .inr a1, .inr a2, .inr a3] τ r) (hE : REz ["java/lang/IndexOutOfBoundsException", "java/lang/UnsupportedOperationException"] r) : LK l D A ad adV cA (.codeWith yL_move method_7_code 5 (some .int) [(0, 7, 8, 22), (0, 7, 13, 16)]) yL_move 22 1 6 [.ref (ad 0), .int (iI a1), .int (iI a2), .int (iI a3)] (wO ad cA (sz τ) ++ X) (WGz ad cA X id ks_move r) := by
  refine lk_ofH hl0 rfl ?_ (Nat.le_of_ble_eq_true rfl)
  rintro p e s m args below meth c F hlk hrt htab hw ls hl
  have hl : lv_has ls 5 [(0, .ref (ad 0)), (1, .int (iI a1)), (2, .int (iI a2)), (3, .int (iI a3))] := hl
  have hx := F.1
  have hb := F.2.1
  refine lv_aload_n hx hb (k := 0) (i := 0) (x := ad 0) (by decide +kernel) rfl (lv_at hl 0 rfl) ?_
  refine lv_iload_n hx hb (k := 1) (i := 1) (x := iI a1) (by decide +kernel) rfl (lv_at hl 1 rfl) ?_
  refine lv_iload_n hx hb (k := 2) (i := 2) (x := iI a2) (by decide +kernel) rfl (lv_at hl 2 rfl) ?_
  refine lv_iload_n hx hb (k := 3) (i := 3) (x := iI a3) (by decide +kernel) rfl (lv_at hl 3 rfl) ?_
  refine fl_call (d := 12) (j := m7_move) (as := [.inr a1, .inr a2, .inr a3]) (X := X) (x := 30) (rest := []) F hw hl.1 hr (by decide) rfl rfl (lq 18 rfl) (lq 19 rfl) (lq 20 rfl) ⟨by decide, by decide, by decide +kernel, by decide +kernel⟩ (by show (0 : Nat) ≤ 8; decide) (by decide +kernel) rfl (fun E τ1 e1 ce q9 H locs hw h1 h2 h3 => ?_) (fun v τ1 e1 H locs hw => ?_)
  · obtain ⟨i, hi⟩ := hE.thrown e1
    match i, hi with
    | 0, hi =>
      cases hi
      refine vx_catch (name := "java/lang/IndexOutOfBoundsException") F.2.2.2.1 [] ⟨0, 7, 8, 22⟩ [⟨0, 7, 13, 16⟩] (htab.trans rfl) (fun z hz => by cases hz) rfl (by decide) (ts_of F.2.2.2.2.1 (lq 10 rfl) rfl) (va_Nw.use rfl (F.2.2.2.2.2.2.1.2.1 _ (lq 11 rfl) rfl)) h1 h2 h3 ?_
      refine lv_astore hx hb (i := 4) (by decide +kernel) hl (by decide) rfl (fun ls hl => ?_)
      refine lv_bipush hx hb (n := -11) (v := iI (-11)) (by decide +kernel) (by decide) ?_
      exact lk_iret F hlk hrt hw rfl (wgz_x e1 (kof_0)) (Nat.le_of_ble_eq_true rfl) (Nat.le_of_ble_eq_true rfl) (by decide +kernel)
    | 1, hi =>
      cases hi
      refine vx_catch (name := "java/lang/UnsupportedOperationException") F.2.2.2.1 [⟨0, 7, 8, 22⟩] ⟨0, 7, 13, 16⟩ [] (htab.trans rfl) (fun z hz => by cases List.mem_singleton.mp hz; exact Or.inr ⟨by decide, "java/lang/IndexOutOfBoundsException", ts_of F.2.2.2.2.1 (lq 10 rfl) rfl, F.2.2.2.2.2.2.2.2.1 _ (by decide) _ (by decide) (by decide)⟩) rfl (by decide) (ts_of F.2.2.2.2.1 (lq 5 rfl) rfl) (va_Nw.use rfl (F.2.2.2.2.2.2.1.2.1 _ (lq 6 rfl) rfl)) h1 h2 h3 ?_
      refine lv_astore hx hb (i := 4) (by decide +kernel) hl (by decide) rfl (fun ls hl => ?_)
      refine lv_iconst hx hb (n := -1) (v := iI (-1)) (by decide +kernel) (by decide) ?_
      exact lk_iret F hlk hrt hw rfl (wgz_x e1 (kof_1 (by decide))) (Nat.le_of_ble_eq_true rfl) (Nat.le_of_ble_eq_true rfl) (by decide +kernel)
    | i + 2, hi => cases hi
  · obtain ⟨v, rfl⟩ := hE.ret e1
    refine W.eq (g2 := F0 m 7 ls [.int (iI v)]) rfl ?_
    exact lk_iret F hlk hrt hw rfl (wgz_r e1 rfl) (Nat.le_of_ble_eq_true rfl) (Nat.le_of_ble_eq_true rfl) (by decide +kernel)
abbrev ks_pass : List (String × Int) := [("java/lang/UnsupportedOperationException", -1)]
theorem w_pass {τ : SZ} {r : RSZ} {X : va_W} (hl0 : l.stackTraces = false) (hr : RZ 12 m7_pass [.inl 0] τ r) (hE : REz ["java/lang/UnsupportedOperationException"] r) : LK l D A ad adV cA (.codeWith yL_pass method_8_code 2 (some .int) [(0, 4, 5, 16)]) yL_pass 22 1 6 [.ref (ad 0)] (wO ad cA (sz τ) ++ X) (WGz ad cA X id ks_pass r) := by
  refine lk_ofH hl0 rfl ?_ (Nat.le_of_ble_eq_true rfl)
  rintro p e s m args below meth c F hlk hrt htab hw ls hl
  have hl : lv_has ls 2 [(0, .ref (ad 0))] := hl
  have hx := F.1
  have hb := F.2.1
  refine lv_aload_n hx hb (k := 0) (i := 0) (x := ad 0) (by decide +kernel) rfl (lv_at hl 0 rfl) ?_
  refine fl_call (d := 12) (j := m7_pass) (as := []) (X := X) (x := 34) (rest := []) F hw hl.1 hr (by decide) rfl rfl (lq 21 rfl) (lq 22 rfl) (lq 23 rfl) ⟨by decide, by decide, by decide +kernel, by decide +kernel⟩ (by show (0 : Nat) ≤ 8; decide) (by decide +kernel) rfl (fun E τ1 e1 ce q9 H locs hw h1 h2 h3 => ?_) (fun v τ1 e1 H locs hw => ?_)
  · obtain ⟨i, hi⟩ := hE.thrown e1
    match i, hi with
    | 0, hi =>
      cases hi
      refine vx_catch (name := "java/lang/UnsupportedOperationException") F.2.2.2.1 [] ⟨0, 4, 5, 16⟩ [] (htab.trans rfl) (fun z hz => by cases hz) rfl (by decide) (ts_of F.2.2.2.2.1 (lq 5 rfl) rfl) (va_Nw.use rfl (F.2.2.2.2.2.2.1.2.1 _ (lq 6 rfl) rfl)) h1 h2 h3 ?_
      refine lv_astore_n hx hb (k := 1) (i := 1) (by decide +kernel) rfl hl (by decide) rfl (fun ls hl => ?_)
      refine lv_iconst hx hb (n := -1) (v := iI (-1)) (by decide +kernel) (by decide) ?_
      exact lk_iret F hlk hrt hw rfl (wgz_x e1 (kof_0)) (Nat.le_of_ble_eq_true rfl) (Nat.le_of_ble_eq_true rfl) (by decide +kernel)
    | i + 1, hi => cases hi
  · obtain ⟨v, rfl⟩ := hE.ret e1
    refine W.eq (g2 := F0 m 4 ls [.int (iI v)]) rfl ?_
    exact lk_iret F hlk hrt hw rfl (wgz_r e1 rfl) (Nat.le_of_ble_eq_true rfl) (Nat.le_of_ble_eq_true rfl) (by decide +kernel)
abbrev ks_of : List (String × Int) := [("java/lang/IndexOutOfBoundsException", -11), ("java/lang/IllegalArgumentException", -12)]
theorem w_of {τ : SZ} {r : RSZ} {X : va_W} {a1 a2 : Int} (hl0 : l.stackTraces = false) (hr : RZ 12 m7_ferryOf [.inl 0, .inr a1, .inr a2] τ r) (hE : REz ["java/lang/IndexOutOfBoundsException", "java/lang/IllegalArgumentException"] r) : LK l D A ad adV cA (.codeWith yL_of method_9_code 4 (some .int) [(0, 6, 7, 22), (0, 6, 11, 14)]) yL_of 22 2 12 [.ref (ad 0), .int (iI a1), .int (iI a2)] (wO ad cA (sz τ) ++ X) (WGz ad cA X id ks_of r) := by
  refine lk_ofH hl0 rfl ?_ (Nat.le_of_ble_eq_true rfl)
  rintro p e s m args below meth c F hlk hrt htab hw ls hl
  have hl : lv_has ls 4 [(0, .ref (ad 0)), (1, .int (iI a1)), (2, .int (iI a2))] := hl
  have hx := F.1
  have hb := F.2.1
  refine lv_aload_n hx hb (k := 0) (i := 0) (x := ad 0) (by decide +kernel) rfl (lv_at hl 0 rfl) ?_
  refine lv_iload_n hx hb (k := 1) (i := 1) (x := iI a1) (by decide +kernel) rfl (lv_at hl 1 rfl) ?_
  refine lv_iload_n hx hb (k := 2) (i := 2) (x := iI a2) (by decide +kernel) rfl (lv_at hl 2 rfl) ?_
  refine fl_call (d := 12) (j := m7_ferryOf) (as := [.inr a1, .inr a2]) (X := X) (x := 38) (rest := []) F hw hl.1 hr (by decide) rfl rfl (lq 24 rfl) (lq 25 rfl) (lq 26 rfl) ⟨by decide, by decide, by decide +kernel, by decide +kernel⟩ (by show (0 : Nat) ≤ 8; decide) (by decide +kernel) rfl (fun E τ1 e1 ce q9 H locs hw h1 h2 h3 => ?_) (fun v τ1 e1 H locs hw => ?_)
  · obtain ⟨i, hi⟩ := hE.thrown e1
    match i, hi with
    | 0, hi =>
      cases hi
      refine vx_catch (name := "java/lang/IndexOutOfBoundsException") F.2.2.2.1 [] ⟨0, 6, 7, 22⟩ [⟨0, 6, 11, 14⟩] (htab.trans rfl) (fun z hz => by cases hz) rfl (by decide) (ts_of F.2.2.2.2.1 (lq 10 rfl) rfl) (va_Nw.use rfl (F.2.2.2.2.2.2.1.2.1 _ (lq 11 rfl) rfl)) h1 h2 h3 ?_
      refine lv_astore_n hx hb (k := 3) (i := 3) (by decide +kernel) rfl hl (by decide) rfl (fun ls hl => ?_)
      refine lv_bipush hx hb (n := -11) (v := iI (-11)) (by decide +kernel) (by decide) ?_
      exact lk_iret F hlk hrt hw rfl (wgz_x e1 (kof_0)) (Nat.le_of_ble_eq_true rfl) (Nat.le_of_ble_eq_true rfl) (by decide +kernel)
    | 1, hi =>
      cases hi
      refine vx_catch (name := "java/lang/IllegalArgumentException") F.2.2.2.1 [⟨0, 6, 7, 22⟩] ⟨0, 6, 11, 14⟩ [] (htab.trans rfl) (fun z hz => by cases List.mem_singleton.mp hz; exact Or.inr ⟨by decide, "java/lang/IndexOutOfBoundsException", ts_of F.2.2.2.2.1 (lq 10 rfl) rfl, F.2.2.2.2.2.2.2.2.1 _ (by decide) _ (by decide) (by decide)⟩) rfl (by decide) (ts_of F.2.2.2.2.1 (lq 3 rfl) rfl) (va_Nw.use rfl (F.2.2.2.2.2.2.1.2.1 _ (lq 4 rfl) rfl)) h1 h2 h3 ?_
      refine lv_astore_n hx hb (k := 3) (i := 3) (by decide +kernel) rfl hl (by decide) rfl (fun ls hl => ?_)
      refine lv_bipush hx hb (n := -12) (v := iI (-12)) (by decide +kernel) (by decide) ?_
      exact lk_iret F hlk hrt hw rfl (wgz_x e1 (kof_1 (by decide))) (Nat.le_of_ble_eq_true rfl) (Nat.le_of_ble_eq_true rfl) (by decide +kernel)
    | i + 2, hi => cases hi
  · obtain ⟨v, rfl⟩ := hE.ret e1
    refine W.eq (g2 := F0 m 6 ls [.int (iI v)]) rfl ?_
    exact lk_iret F hlk hrt hw rfl (wgz_r e1 rfl) (Nat.le_of_ble_eq_true rfl) (Nat.le_of_ble_eq_true rfl) (by decide +kernel)
abbrev ks_at : List (String × Int) := [("java/lang/IndexOutOfBoundsException", -11)]
theorem w_at {τ : SZ} {r : RSZ} {X : va_W} {a1 a2 : Int} (hl0 : l.stackTraces = false) (hr : RZ 12 m7_at [.inl 0, .inr a1, .inr a2] τ r) (hE : REz ["java/lang/IndexOutOfBoundsException"] r) : LK l D A ad adV cA (.codeWith yL_at method_10_code 4 (some .int) [(0, 6, 7, 22)]) yL_at 22 1 6 [.ref (ad 0), .int (iI a1), .int (iI a2)] (wO ad cA (sz τ) ++ X) (WGz ad cA X id ks_at r) := by
  refine lk_ofH hl0 rfl ?_ (Nat.le_of_ble_eq_true rfl)
  rintro p e s m args below meth c F hlk hrt htab hw ls hl
  have hl : lv_has ls 4 [(0, .ref (ad 0)), (1, .int (iI a1)), (2, .int (iI a2))] := hl
  have hx := F.1
  have hb := F.2.1
  refine lv_aload_n hx hb (k := 0) (i := 0) (x := ad 0) (by decide +kernel) rfl (lv_at hl 0 rfl) ?_
  refine lv_iload_n hx hb (k := 1) (i := 1) (x := iI a1) (by decide +kernel) rfl (lv_at hl 1 rfl) ?_
  refine lv_iload_n hx hb (k := 2) (i := 2) (x := iI a2) (by decide +kernel) rfl (lv_at hl 2 rfl) ?_
  refine fl_call (d := 12) (j := m7_at) (as := [.inr a1, .inr a2]) (X := X) (x := 41) (rest := []) F hw hl.1 hr (by decide) rfl rfl (lq 27 rfl) (lq 28 rfl) (lq 29 rfl) ⟨by decide, by decide, by decide +kernel, by decide +kernel⟩ (by show (0 : Nat) ≤ 8; decide) (by decide +kernel) rfl (fun E τ1 e1 ce q9 H locs hw h1 h2 h3 => ?_) (fun v τ1 e1 H locs hw => ?_)
  · obtain ⟨i, hi⟩ := hE.thrown e1
    match i, hi with
    | 0, hi =>
      cases hi
      refine vx_catch (name := "java/lang/IndexOutOfBoundsException") F.2.2.2.1 [] ⟨0, 6, 7, 22⟩ [] (htab.trans rfl) (fun z hz => by cases hz) rfl (by decide) (ts_of F.2.2.2.2.1 (lq 10 rfl) rfl) (va_Nw.use rfl (F.2.2.2.2.2.2.1.2.1 _ (lq 11 rfl) rfl)) h1 h2 h3 ?_
      refine lv_astore_n hx hb (k := 3) (i := 3) (by decide +kernel) rfl hl (by decide) rfl (fun ls hl => ?_)
      refine lv_bipush hx hb (n := -11) (v := iI (-11)) (by decide +kernel) (by decide) ?_
      exact lk_iret F hlk hrt hw rfl (wgz_x e1 (kof_0)) (Nat.le_of_ble_eq_true rfl) (Nat.le_of_ble_eq_true rfl) (by decide +kernel)
    | i + 1, hi => cases hi
  · obtain ⟨v, rfl⟩ := hE.ret e1
    refine W.eq (g2 := F0 m 6 ls [.int (iI v)]) rfl ?_
    exact lk_iret F hlk hrt hw rfl (wgz_r e1 rfl) (Nat.le_of_ble_eq_true rfl) (Nat.le_of_ble_eq_true rfl) (by decide +kernel)
abbrev ks_lockAt : List (String × Int) := [("java/lang/IndexOutOfBoundsException", -11)]
theorem w_lockAt {τ : SZ} {r : RSZ} {X : va_W} {a1 a2 : Int} (hl0 : l.stackTraces = false) (hr : RZ 12 m7_lockAt [.inl 0, .inr a1, .inr a2] τ r) (hE : REz ["java/lang/IndexOutOfBoundsException"] r) : LK l D A ad adV cA (.codeWith yL_lockAt method_11_code 4 (some .int) [(0, 6, 7, 22)]) yL_lockAt 22 1 6 [.ref (ad 0), .int (iI a1), .int (iI a2)] (wO ad cA (sz τ) ++ X) (WGz ad cA X id ks_lockAt r) := by
  refine lk_ofH hl0 rfl ?_ (Nat.le_of_ble_eq_true rfl)
  rintro p e s m args below meth c F hlk hrt htab hw ls hl
  have hl : lv_has ls 4 [(0, .ref (ad 0)), (1, .int (iI a1)), (2, .int (iI a2))] := hl
  have hx := F.1
  have hb := F.2.1
  refine lv_aload_n hx hb (k := 0) (i := 0) (x := ad 0) (by decide +kernel) rfl (lv_at hl 0 rfl) ?_
  refine lv_iload_n hx hb (k := 1) (i := 1) (x := iI a1) (by decide +kernel) rfl (lv_at hl 1 rfl) ?_
  refine lv_iload_n hx hb (k := 2) (i := 2) (x := iI a2) (by decide +kernel) rfl (lv_at hl 2 rfl) ?_
  refine fl_call (d := 12) (j := m7_lockAt) (as := [.inr a1, .inr a2]) (X := X) (x := 44) (rest := []) F hw hl.1 hr (by decide) rfl rfl (lq 30 rfl) (lq 31 rfl) (lq 32 rfl) ⟨by decide, by decide, by decide +kernel, by decide +kernel⟩ (by show (0 : Nat) ≤ 8; decide) (by decide +kernel) rfl (fun E τ1 e1 ce q9 H locs hw h1 h2 h3 => ?_) (fun v τ1 e1 H locs hw => ?_)
  · obtain ⟨i, hi⟩ := hE.thrown e1
    match i, hi with
    | 0, hi =>
      cases hi
      refine vx_catch (name := "java/lang/IndexOutOfBoundsException") F.2.2.2.1 [] ⟨0, 6, 7, 22⟩ [] (htab.trans rfl) (fun z hz => by cases hz) rfl (by decide) (ts_of F.2.2.2.2.1 (lq 10 rfl) rfl) (va_Nw.use rfl (F.2.2.2.2.2.2.1.2.1 _ (lq 11 rfl) rfl)) h1 h2 h3 ?_
      refine lv_astore_n hx hb (k := 3) (i := 3) (by decide +kernel) rfl hl (by decide) rfl (fun ls hl => ?_)
      refine lv_bipush hx hb (n := -11) (v := iI (-11)) (by decide +kernel) (by decide) ?_
      exact lk_iret F hlk hrt hw rfl (wgz_x e1 (kof_0)) (Nat.le_of_ble_eq_true rfl) (Nat.le_of_ble_eq_true rfl) (by decide +kernel)
    | i + 1, hi => cases hi
  · obtain ⟨v, rfl⟩ := hE.ret e1
    refine W.eq (g2 := F0 m 6 ls [.int (iI v)]) rfl ?_
    exact lk_iret F hlk hrt hw rfl (wgz_r e1 rfl) (Nat.le_of_ble_eq_true rfl) (Nat.le_of_ble_eq_true rfl) (by decide +kernel)
abbrev ks_isFog : List (String × Int) := [("java/lang/IndexOutOfBoundsException", -11)]
theorem w_isFog {τ : SZ} {r : RSZ} {X : va_W} {a1 a2 : Int} (hl0 : l.stackTraces = false) (hr : RZ 12 m7_isFog [.inl 0, .inr a1, .inr a2] τ r) (hE : REb ["java/lang/IndexOutOfBoundsException"] r) : LK l D A ad adV cA (.codeWith yL_isFog method_12_code 4 (some .int) [(0, 14, 15, 22)]) yL_isFog 22 1 6 [.ref (ad 0), .int (iI a1), .int (iI a2)] (wO ad cA (sz τ) ++ X) (WGz ad cA X zBz ks_isFog r) := by
  refine lk_ofH hl0 rfl ?_ (Nat.le_of_ble_eq_true rfl)
  rintro p e s m args below meth c F hlk hrt htab hw ls hl
  have hl : lv_has ls 4 [(0, .ref (ad 0)), (1, .int (iI a1)), (2, .int (iI a2))] := hl
  have hx := F.1
  have hb := F.2.1
  refine lv_aload_n hx hb (k := 0) (i := 0) (x := ad 0) (by decide +kernel) rfl (lv_at hl 0 rfl) ?_
  refine lv_iload_n hx hb (k := 1) (i := 1) (x := iI a1) (by decide +kernel) rfl (lv_at hl 1 rfl) ?_
  refine lv_iload_n hx hb (k := 2) (i := 2) (x := iI a2) (by decide +kernel) rfl (lv_at hl 2 rfl) ?_
  refine fl_call (d := 12) (j := m7_isFog) (as := [.inr a1, .inr a2]) (X := X) (x := 47) (rest := []) F hw hl.1 hr (by decide) rfl rfl (lq 33 rfl) (lq 34 rfl) (lq 35 rfl) ⟨by decide, by decide, by decide +kernel, by decide +kernel⟩ (by show (0 : Nat) ≤ 8; decide) (by decide +kernel) rfl (fun E τ1 e1 ce q9 H locs hw h1 h2 h3 => ?_) (fun v τ1 e1 H locs hw => ?_)
  · obtain ⟨i, hi⟩ := hE.1.thrown e1
    match i, hi with
    | 0, hi =>
      cases hi
      refine vx_catch (name := "java/lang/IndexOutOfBoundsException") F.2.2.2.1 [] ⟨0, 14, 15, 22⟩ [] (htab.trans rfl) (fun z hz => by cases hz) rfl (by decide) (ts_of F.2.2.2.2.1 (lq 10 rfl) rfl) (va_Nw.use rfl (F.2.2.2.2.2.2.1.2.1 _ (lq 11 rfl) rfl)) h1 h2 h3 ?_
      refine lv_astore_n hx hb (k := 3) (i := 3) (by decide +kernel) rfl hl (by decide) rfl (fun ls hl => ?_)
      refine lv_bipush hx hb (n := -11) (v := iI (-11)) (by decide +kernel) (by decide) ?_
      exact lk_iret F hlk hrt hw rfl (wgz_x e1 (kof_0)) (Nat.le_of_ble_eq_true rfl) (Nat.le_of_ble_eq_true rfl) (by decide +kernel)
    | i + 1, hi => cases hi
  · obtain ⟨v, rfl⟩ := hE.1.ret e1
    refine W.eq (g2 := F0 m 6 ls [.int (iI v)]) rfl ?_
    refine lv_if_eq hx hb (off := 7) (tgt := 13) (by decide +kernel) (by decide) (fun hv => ?_) (fun hv => ?_)
    · refine lv_iconst hx hb (n := 0) (v := iI 0) (by decide +kernel) (by decide) ?_
      exact lk_iret F hlk hrt hw rfl (wgz_r e1 (zBz_0 (hE.2 e1) hv)) (Nat.le_of_ble_eq_true rfl) (Nat.le_of_ble_eq_true rfl) (by decide +kernel)
    · refine lv_iconst hx hb (n := 1) (v := iI 1) (by decide +kernel) (by decide) ?_
      refine lv_goto hx hb (off := 4) (tgt := 14) (by decide +kernel) (by decide) ?_
      exact lk_iret F hlk hrt hw rfl (wgz_r e1 (zBz_1 hv)) (Nat.le_of_ble_eq_true rfl) (Nat.le_of_ble_eq_true rfl) (by decide +kernel)
abbrev ks_would : List (String × Int) := [("java/lang/IndexOutOfBoundsException", -11)]
theorem w_would {τ : SZ} {r : RSZ} {X : va_W} {a1 a2 a3 : Int} (hl0 : l.stackTraces = false) (hr : RZ 12 m7_would [.inl 0, .inr a1, .inr a2, .inr a3] τ r) (hE : REz ["java/lang/IndexOutOfBoundsException"] r) : LK l D A ad adV cA (.codeWith yL_would method_13_code 5 (some .int) [(0, 7, 8, 22)]) yL_would 22 1 6 [.ref (ad 0), .int (iI a1), .int (iI a2), .int (iI a3)] (wO ad cA (sz τ) ++ X) (WGz ad cA X id ks_would r) := by
  refine lk_ofH hl0 rfl ?_ (Nat.le_of_ble_eq_true rfl)
  rintro p e s m args below meth c F hlk hrt htab hw ls hl
  have hl : lv_has ls 5 [(0, .ref (ad 0)), (1, .int (iI a1)), (2, .int (iI a2)), (3, .int (iI a3))] := hl
  have hx := F.1
  have hb := F.2.1
  refine lv_aload_n hx hb (k := 0) (i := 0) (x := ad 0) (by decide +kernel) rfl (lv_at hl 0 rfl) ?_
  refine lv_iload_n hx hb (k := 1) (i := 1) (x := iI a1) (by decide +kernel) rfl (lv_at hl 1 rfl) ?_
  refine lv_iload_n hx hb (k := 2) (i := 2) (x := iI a2) (by decide +kernel) rfl (lv_at hl 2 rfl) ?_
  refine lv_iload_n hx hb (k := 3) (i := 3) (x := iI a3) (by decide +kernel) rfl (lv_at hl 3 rfl) ?_
  refine fl_call (d := 12) (j := m7_would) (as := [.inr a1, .inr a2, .inr a3]) (X := X) (x := 51) (rest := []) F hw hl.1 hr (by decide) rfl rfl (lq 36 rfl) (lq 37 rfl) (lq 38 rfl) ⟨by decide, by decide, by decide +kernel, by decide +kernel⟩ (by show (0 : Nat) ≤ 8; decide) (by decide +kernel) rfl (fun E τ1 e1 ce q9 H locs hw h1 h2 h3 => ?_) (fun v τ1 e1 H locs hw => ?_)
  · obtain ⟨i, hi⟩ := hE.thrown e1
    match i, hi with
    | 0, hi =>
      cases hi
      refine vx_catch (name := "java/lang/IndexOutOfBoundsException") F.2.2.2.1 [] ⟨0, 7, 8, 22⟩ [] (htab.trans rfl) (fun z hz => by cases hz) rfl (by decide) (ts_of F.2.2.2.2.1 (lq 10 rfl) rfl) (va_Nw.use rfl (F.2.2.2.2.2.2.1.2.1 _ (lq 11 rfl) rfl)) h1 h2 h3 ?_
      refine lv_astore hx hb (i := 4) (by decide +kernel) hl (by decide) rfl (fun ls hl => ?_)
      refine lv_bipush hx hb (n := -11) (v := iI (-11)) (by decide +kernel) (by decide) ?_
      exact lk_iret F hlk hrt hw rfl (wgz_x e1 (kof_0)) (Nat.le_of_ble_eq_true rfl) (Nat.le_of_ble_eq_true rfl) (by decide +kernel)
    | i + 1, hi => cases hi
  · obtain ⟨v, rfl⟩ := hE.ret e1
    refine W.eq (g2 := F0 m 7 ls [.int (iI v)]) rfl ?_
    exact lk_iret F hlk hrt hw rfl (wgz_r e1 rfl) (Nat.le_of_ble_eq_true rfl) (Nat.le_of_ble_eq_true rfl) (by decide +kernel)
abbrev ks_why : List (String × Int) := [("java/lang/IndexOutOfBoundsException", -11), ("java/util/NoSuchElementException", -13)]
theorem w_why {τ : SZ} {r : RSZ} {X : va_W} {a1 a2 a3 a4 : Int} (hl0 : l.stackTraces = false) (hr : RZ 12 m7_why [.inl 0, .inr a1, .inr a2, .inr a3, .inr a4] τ r) (hE : REz ["java/lang/IndexOutOfBoundsException", "java/util/NoSuchElementException"] r) : LK l D A ad adV cA (.codeWith yL_why method_14_code 6 (some .int) [(0, 9, 10, 22), (0, 9, 15, 58)]) yL_why 22 2 12 [.ref (ad 0), .int (iI a1), .int (iI a2), .int (iI a3), .int (iI a4)] (wO ad cA (sz τ) ++ X) (WGz ad cA X id ks_why r) := by
  refine lk_ofH hl0 rfl ?_ (Nat.le_of_ble_eq_true rfl)
  rintro p e s m args below meth c F hlk hrt htab hw ls hl
  have hl : lv_has ls 6 [(0, .ref (ad 0)), (1, .int (iI a1)), (2, .int (iI a2)), (3, .int (iI a3)), (4, .int (iI a4))] := hl
  have hx := F.1
  have hb := F.2.1
  refine lv_aload_n hx hb (k := 0) (i := 0) (x := ad 0) (by decide +kernel) rfl (lv_at hl 0 rfl) ?_
  refine lv_iload_n hx hb (k := 1) (i := 1) (x := iI a1) (by decide +kernel) rfl (lv_at hl 1 rfl) ?_
  refine lv_iload_n hx hb (k := 2) (i := 2) (x := iI a2) (by decide +kernel) rfl (lv_at hl 2 rfl) ?_
  refine lv_iload_n hx hb (k := 3) (i := 3) (x := iI a3) (by decide +kernel) rfl (lv_at hl 3 rfl) ?_
  refine lv_iload hx hb (i := 4) (x := iI a4) (by decide +kernel) (lv_at hl 4 rfl) ?_
  refine fl_call (d := 12) (j := m7_why) (as := [.inr a1, .inr a2, .inr a3, .inr a4]) (X := X) (x := 54) (rest := []) F hw hl.1 hr (by decide) rfl rfl (lq 39 rfl) (lq 40 rfl) (lq 41 rfl) ⟨by decide, by decide, by decide +kernel, by decide +kernel⟩ (by show (0 : Nat) ≤ 8; decide) (by decide +kernel) rfl (fun E τ1 e1 ce q9 H locs hw h1 h2 h3 => ?_) (fun v τ1 e1 H locs hw => ?_)
  · obtain ⟨i, hi⟩ := hE.thrown e1
    match i, hi with
    | 0, hi =>
      cases hi
      refine vx_catch (name := "java/lang/IndexOutOfBoundsException") F.2.2.2.1 [] ⟨0, 9, 10, 22⟩ [⟨0, 9, 15, 58⟩] (htab.trans rfl) (fun z hz => by cases hz) rfl (by decide) (ts_of F.2.2.2.2.1 (lq 10 rfl) rfl) (va_Nw.use rfl (F.2.2.2.2.2.2.1.2.1 _ (lq 11 rfl) rfl)) h1 h2 h3 ?_
      refine lv_astore hx hb (i := 5) (by decide +kernel) hl (by decide) rfl (fun ls hl => ?_)
      refine lv_bipush hx hb (n := -11) (v := iI (-11)) (by decide +kernel) (by decide) ?_
      exact lk_iret F hlk hrt hw rfl (wgz_x e1 (kof_0)) (Nat.le_of_ble_eq_true rfl) (Nat.le_of_ble_eq_true rfl) (by decide +kernel)
    | 1, hi =>
      cases hi
      refine vx_catch (name := "java/util/NoSuchElementException") F.2.2.2.1 [⟨0, 9, 10, 22⟩] ⟨0, 9, 15, 58⟩ [] (htab.trans rfl) (fun z hz => by cases List.mem_singleton.mp hz; exact Or.inr ⟨by decide, "java/lang/IndexOutOfBoundsException", ts_of F.2.2.2.2.1 (lq 10 rfl) rfl, F.2.2.2.2.2.2.2.2.1 _ (by decide) _ (by decide) (by decide)⟩) rfl (by decide) (ts_of F.2.2.2.2.1 (lq 42 rfl) rfl) (va_Nw.use rfl (F.2.2.2.2.2.2.1.2.1 _ (lq 43 rfl) rfl)) h1 h2 h3 ?_
      refine lv_astore hx hb (i := 5) (by decide +kernel) hl (by decide) rfl (fun ls hl => ?_)
      refine lv_bipush hx hb (n := -13) (v := iI (-13)) (by decide +kernel) (by decide) ?_
      exact lk_iret F hlk hrt hw rfl (wgz_x e1 (kof_1 (by decide))) (Nat.le_of_ble_eq_true rfl) (Nat.le_of_ble_eq_true rfl) (by decide +kernel)
    | i + 2, hi => cases hi
  · obtain ⟨v, rfl⟩ := hE.ret e1
    refine W.eq (g2 := F0 m 9 ls [.int (iI v)]) rfl ?_
    exact lk_iret F hlk hrt hw rfl (wgz_r e1 rfl) (Nat.le_of_ble_eq_true rfl) (Nat.le_of_ble_eq_true rfl) (by decide +kernel)
abbrev ks_to : List (String × Int) := [("java/lang/IndexOutOfBoundsException", -11), ("java/util/NoSuchElementException", -13)]
theorem w_to {τ : SZ} {r : RSZ} {X : va_W} {a1 a2 a3 : Int} (hl0 : l.stackTraces = false) (hr : RZ 12 m7_to [.inl 0, .inr a1, .inr a2, .inr a3] τ r) (hE : REz ["java/lang/IndexOutOfBoundsException", "java/util/NoSuchElementException"] r) : LK l D A ad adV cA (.codeWith yL_to method_15_code 5 (some .int) [(0, 7, 8, 22), (0, 7, 13, 58)]) yL_to 22 2 12 [.ref (ad 0), .int (iI a1), .int (iI a2), .int (iI a3)] (wO ad cA (sz τ) ++ X) (WGz ad cA X id ks_to r) := by
  refine lk_ofH hl0 rfl ?_ (Nat.le_of_ble_eq_true rfl)
  rintro p e s m args below meth c F hlk hrt htab hw ls hl
  have hl : lv_has ls 5 [(0, .ref (ad 0)), (1, .int (iI a1)), (2, .int (iI a2)), (3, .int (iI a3))] := hl
  have hx := F.1
  have hb := F.2.1
  refine lv_aload_n hx hb (k := 0) (i := 0) (x := ad 0) (by decide +kernel) rfl (lv_at hl 0 rfl) ?_
  refine lv_iload_n hx hb (k := 1) (i := 1) (x := iI a1) (by decide +kernel) rfl (lv_at hl 1 rfl) ?_
  refine lv_iload_n hx hb (k := 2) (i := 2) (x := iI a2) (by decide +kernel) rfl (lv_at hl 2 rfl) ?_
  refine lv_iload_n hx hb (k := 3) (i := 3) (x := iI a3) (by decide +kernel) rfl (lv_at hl 3 rfl) ?_
  refine fl_call (d := 12) (j := m7_to) (as := [.inr a1, .inr a2, .inr a3]) (X := X) (x := 60) (rest := []) F hw hl.1 hr (by decide) rfl rfl (lq 44 rfl) (lq 45 rfl) (lq 46 rfl) ⟨by decide, by decide, by decide +kernel, by decide +kernel⟩ (by show (0 : Nat) ≤ 8; decide) (by decide +kernel) rfl (fun E τ1 e1 ce q9 H locs hw h1 h2 h3 => ?_) (fun v τ1 e1 H locs hw => ?_)
  · obtain ⟨i, hi⟩ := hE.thrown e1
    match i, hi with
    | 0, hi =>
      cases hi
      refine vx_catch (name := "java/lang/IndexOutOfBoundsException") F.2.2.2.1 [] ⟨0, 7, 8, 22⟩ [⟨0, 7, 13, 58⟩] (htab.trans rfl) (fun z hz => by cases hz) rfl (by decide) (ts_of F.2.2.2.2.1 (lq 10 rfl) rfl) (va_Nw.use rfl (F.2.2.2.2.2.2.1.2.1 _ (lq 11 rfl) rfl)) h1 h2 h3 ?_
      refine lv_astore hx hb (i := 4) (by decide +kernel) hl (by decide) rfl (fun ls hl => ?_)
      refine lv_bipush hx hb (n := -11) (v := iI (-11)) (by decide +kernel) (by decide) ?_
      exact lk_iret F hlk hrt hw rfl (wgz_x e1 (kof_0)) (Nat.le_of_ble_eq_true rfl) (Nat.le_of_ble_eq_true rfl) (by decide +kernel)
    | 1, hi =>
      cases hi
      refine vx_catch (name := "java/util/NoSuchElementException") F.2.2.2.1 [⟨0, 7, 8, 22⟩] ⟨0, 7, 13, 58⟩ [] (htab.trans rfl) (fun z hz => by cases List.mem_singleton.mp hz; exact Or.inr ⟨by decide, "java/lang/IndexOutOfBoundsException", ts_of F.2.2.2.2.1 (lq 10 rfl) rfl, F.2.2.2.2.2.2.2.2.1 _ (by decide) _ (by decide) (by decide)⟩) rfl (by decide) (ts_of F.2.2.2.2.1 (lq 42 rfl) rfl) (va_Nw.use rfl (F.2.2.2.2.2.2.1.2.1 _ (lq 43 rfl) rfl)) h1 h2 h3 ?_
      refine lv_astore hx hb (i := 4) (by decide +kernel) hl (by decide) rfl (fun ls hl => ?_)
      refine lv_bipush hx hb (n := -13) (v := iI (-13)) (by decide +kernel) (by decide) ?_
      exact lk_iret F hlk hrt hw rfl (wgz_x e1 (kof_1 (by decide))) (Nat.le_of_ble_eq_true rfl) (Nat.le_of_ble_eq_true rfl) (by decide +kernel)
    | i + 2, hi => cases hi
  · obtain ⟨v, rfl⟩ := hE.ret e1
    refine W.eq (g2 := F0 m 7 ls [.int (iI v)]) rfl ?_
    exact lk_iret F hlk hrt hw rfl (wgz_r e1 rfl) (Nat.le_of_ble_eq_true rfl) (Nat.le_of_ble_eq_true rfl) (by decide +kernel)
abbrev ks_moves : List (String × Int) := [("java/lang/IllegalArgumentException", -12)]
theorem w_moves {τ : SZ} {r : RSZ} {X : va_W} {a1 a2 : Int} (hl0 : l.stackTraces = false) (hr : RZ 12 m7_moves [.inl 0, .inr a1, .inr a2] τ r) (hE : REz ["java/lang/IllegalArgumentException"] r) : LK l D A ad adV cA (.codeWith yL_moves method_16_code 4 (some .int) [(0, 6, 7, 14)]) yL_moves 22 1 6 [.ref (ad 0), .int (iI a1), .int (iI a2)] (wO ad cA (sz τ) ++ X) (WGz ad cA X id ks_moves r) := by
  refine lk_ofH hl0 rfl ?_ (Nat.le_of_ble_eq_true rfl)
  rintro p e s m args below meth c F hlk hrt htab hw ls hl
  have hl : lv_has ls 4 [(0, .ref (ad 0)), (1, .int (iI a1)), (2, .int (iI a2))] := hl
  have hx := F.1
  have hb := F.2.1
  refine lv_aload_n hx hb (k := 0) (i := 0) (x := ad 0) (by decide +kernel) rfl (lv_at hl 0 rfl) ?_
  refine lv_iload_n hx hb (k := 1) (i := 1) (x := iI a1) (by decide +kernel) rfl (lv_at hl 1 rfl) ?_
  refine lv_iload_n hx hb (k := 2) (i := 2) (x := iI a2) (by decide +kernel) rfl (lv_at hl 2 rfl) ?_
  refine fl_call (d := 12) (j := m7_moves) (as := [.inr a1, .inr a2]) (X := X) (x := 63) (rest := []) F hw hl.1 hr (by decide) rfl rfl (lq 47 rfl) (lq 48 rfl) (lq 49 rfl) ⟨by decide, by decide, by decide +kernel, by decide +kernel⟩ (by show (0 : Nat) ≤ 8; decide) (by decide +kernel) rfl (fun E τ1 e1 ce q9 H locs hw h1 h2 h3 => ?_) (fun v τ1 e1 H locs hw => ?_)
  · obtain ⟨i, hi⟩ := hE.thrown e1
    match i, hi with
    | 0, hi =>
      cases hi
      refine vx_catch (name := "java/lang/IllegalArgumentException") F.2.2.2.1 [] ⟨0, 6, 7, 14⟩ [] (htab.trans rfl) (fun z hz => by cases hz) rfl (by decide) (ts_of F.2.2.2.2.1 (lq 3 rfl) rfl) (va_Nw.use rfl (F.2.2.2.2.2.2.1.2.1 _ (lq 4 rfl) rfl)) h1 h2 h3 ?_
      refine lv_astore_n hx hb (k := 3) (i := 3) (by decide +kernel) rfl hl (by decide) rfl (fun ls hl => ?_)
      refine lv_bipush hx hb (n := -12) (v := iI (-12)) (by decide +kernel) (by decide) ?_
      exact lk_iret F hlk hrt hw rfl (wgz_x e1 (kof_0)) (Nat.le_of_ble_eq_true rfl) (Nat.le_of_ble_eq_true rfl) (by decide +kernel)
    | i + 1, hi => cases hi
  · obtain ⟨v, rfl⟩ := hE.ret e1
    refine W.eq (g2 := F0 m 6 ls [.int (iI v)]) rfl ?_
    exact lk_iret F hlk hrt hw rfl (wgz_r e1 rfl) (Nat.le_of_ble_eq_true rfl) (Nat.le_of_ble_eq_true rfl) (by decide +kernel)
abbrev ks_captures : List (String × Int) := [("java/lang/IllegalArgumentException", -12)]
theorem w_captures {τ : SZ} {r : RSZ} {X : va_W} {a1 a2 : Int} (hl0 : l.stackTraces = false) (hr : RZ 12 m7_captures [.inl 0, .inr a1, .inr a2] τ r) (hE : REz ["java/lang/IllegalArgumentException"] r) : LK l D A ad adV cA (.codeWith yL_captures method_17_code 4 (some .int) [(0, 6, 7, 14)]) yL_captures 22 1 6 [.ref (ad 0), .int (iI a1), .int (iI a2)] (wO ad cA (sz τ) ++ X) (WGz ad cA X id ks_captures r) := by
  refine lk_ofH hl0 rfl ?_ (Nat.le_of_ble_eq_true rfl)
  rintro p e s m args below meth c F hlk hrt htab hw ls hl
  have hl : lv_has ls 4 [(0, .ref (ad 0)), (1, .int (iI a1)), (2, .int (iI a2))] := hl
  have hx := F.1
  have hb := F.2.1
  refine lv_aload_n hx hb (k := 0) (i := 0) (x := ad 0) (by decide +kernel) rfl (lv_at hl 0 rfl) ?_
  refine lv_iload_n hx hb (k := 1) (i := 1) (x := iI a1) (by decide +kernel) rfl (lv_at hl 1 rfl) ?_
  refine lv_iload_n hx hb (k := 2) (i := 2) (x := iI a2) (by decide +kernel) rfl (lv_at hl 2 rfl) ?_
  refine fl_call (d := 12) (j := m7_captures) (as := [.inr a1, .inr a2]) (X := X) (x := 67) (rest := []) F hw hl.1 hr (by decide) rfl rfl (lq 50 rfl) (lq 51 rfl) (lq 52 rfl) ⟨by decide, by decide, by decide +kernel, by decide +kernel⟩ (by show (0 : Nat) ≤ 8; decide) (by decide +kernel) rfl (fun E τ1 e1 ce q9 H locs hw h1 h2 h3 => ?_) (fun v τ1 e1 H locs hw => ?_)
  · obtain ⟨i, hi⟩ := hE.thrown e1
    match i, hi with
    | 0, hi =>
      cases hi
      refine vx_catch (name := "java/lang/IllegalArgumentException") F.2.2.2.1 [] ⟨0, 6, 7, 14⟩ [] (htab.trans rfl) (fun z hz => by cases hz) rfl (by decide) (ts_of F.2.2.2.2.1 (lq 3 rfl) rfl) (va_Nw.use rfl (F.2.2.2.2.2.2.1.2.1 _ (lq 4 rfl) rfl)) h1 h2 h3 ?_
      refine lv_astore_n hx hb (k := 3) (i := 3) (by decide +kernel) rfl hl (by decide) rfl (fun ls hl => ?_)
      refine lv_bipush hx hb (n := -12) (v := iI (-12)) (by decide +kernel) (by decide) ?_
      exact lk_iret F hlk hrt hw rfl (wgz_x e1 (kof_0)) (Nat.le_of_ble_eq_true rfl) (Nat.le_of_ble_eq_true rfl) (by decide +kernel)
    | i + 1, hi => cases hi
  · obtain ⟨v, rfl⟩ := hE.ret e1
    refine W.eq (g2 := F0 m 6 ls [.int (iI v)]) rfl ?_
    exact lk_iret F hlk hrt hw rfl (wgz_r e1 rfl) (Nat.le_of_ble_eq_true rfl) (Nat.le_of_ble_eq_true rfl) (by decide +kernel)
abbrev ks_isThreatened : List (String × Int) := [("java/lang/IndexOutOfBoundsException", -11)]
theorem w_isThreatened {τ : SZ} {r : RSZ} {X : va_W} {a1 : Int} (hl0 : l.stackTraces = false) (hr : RZ 12 m7_isThreatened [.inl 0, .inr a1] τ r) (hE : REb ["java/lang/IndexOutOfBoundsException"] r) : LK l D A ad adV cA (.codeWith yL_isThreatened method_18_code 3 (some .int) [(0, 13, 14, 22)]) yL_isThreatened 22 1 6 [.ref (ad 0), .int (iI a1)] (wO ad cA (sz τ) ++ X) (WGz ad cA X zBz ks_isThreatened r) := by
  refine lk_ofH hl0 rfl ?_ (Nat.le_of_ble_eq_true rfl)
  rintro p e s m args below meth c F hlk hrt htab hw ls hl
  have hl : lv_has ls 3 [(0, .ref (ad 0)), (1, .int (iI a1))] := hl
  have hx := F.1
  have hb := F.2.1
  refine lv_aload_n hx hb (k := 0) (i := 0) (x := ad 0) (by decide +kernel) rfl (lv_at hl 0 rfl) ?_
  refine lv_iload_n hx hb (k := 1) (i := 1) (x := iI a1) (by decide +kernel) rfl (lv_at hl 1 rfl) ?_
  refine fl_call (d := 12) (j := m7_isThreatened) (as := [.inr a1]) (X := X) (x := 70) (rest := []) F hw hl.1 hr (by decide) rfl rfl (lq 53 rfl) (lq 54 rfl) (lq 55 rfl) ⟨by decide, by decide, by decide +kernel, by decide +kernel⟩ (by show (0 : Nat) ≤ 8; decide) (by decide +kernel) rfl (fun E τ1 e1 ce q9 H locs hw h1 h2 h3 => ?_) (fun v τ1 e1 H locs hw => ?_)
  · obtain ⟨i, hi⟩ := hE.1.thrown e1
    match i, hi with
    | 0, hi =>
      cases hi
      refine vx_catch (name := "java/lang/IndexOutOfBoundsException") F.2.2.2.1 [] ⟨0, 13, 14, 22⟩ [] (htab.trans rfl) (fun z hz => by cases hz) rfl (by decide) (ts_of F.2.2.2.2.1 (lq 10 rfl) rfl) (va_Nw.use rfl (F.2.2.2.2.2.2.1.2.1 _ (lq 11 rfl) rfl)) h1 h2 h3 ?_
      refine lv_astore_n hx hb (k := 2) (i := 2) (by decide +kernel) rfl hl (by decide) rfl (fun ls hl => ?_)
      refine lv_bipush hx hb (n := -11) (v := iI (-11)) (by decide +kernel) (by decide) ?_
      exact lk_iret F hlk hrt hw rfl (wgz_x e1 (kof_0)) (Nat.le_of_ble_eq_true rfl) (Nat.le_of_ble_eq_true rfl) (by decide +kernel)
    | i + 1, hi => cases hi
  · obtain ⟨v, rfl⟩ := hE.1.ret e1
    refine W.eq (g2 := F0 m 5 ls [.int (iI v)]) rfl ?_
    refine lv_if_eq hx hb (off := 7) (tgt := 12) (by decide +kernel) (by decide) (fun hv => ?_) (fun hv => ?_)
    · refine lv_iconst hx hb (n := 0) (v := iI 0) (by decide +kernel) (by decide) ?_
      exact lk_iret F hlk hrt hw rfl (wgz_r e1 (zBz_0 (hE.2 e1) hv)) (Nat.le_of_ble_eq_true rfl) (Nat.le_of_ble_eq_true rfl) (by decide +kernel)
    · refine lv_iconst hx hb (n := 1) (v := iI 1) (by decide +kernel) (by decide) ?_
      refine lv_goto hx hb (off := 4) (tgt := 13) (by decide +kernel) (by decide) ?_
      exact lk_iret F hlk hrt hw rfl (wgz_r e1 (zBz_1 hv)) (Nat.le_of_ble_eq_true rfl) (Nat.le_of_ble_eq_true rfl) (by decide +kernel)
abbrev ks_gain : List (String × Int) := [("java/lang/IndexOutOfBoundsException", -11), ("java/util/NoSuchElementException", -13)]
theorem w_gain {τ : SZ} {r : RSZ} {X : va_W} {a1 a2 a3 : Int} (hl0 : l.stackTraces = false) (hr : RZ 12 m7_gain [.inl 0, .inr a1, .inr a2, .inr a3] τ r) (hE : REz ["java/lang/IndexOutOfBoundsException", "java/util/NoSuchElementException"] r) : LK l D A ad adV cA (.codeWith yL_gain method_19_code 5 (some .int) [(0, 7, 8, 22), (0, 7, 13, 58)]) yL_gain 22 2 12 [.ref (ad 0), .int (iI a1), .int (iI a2), .int (iI a3)] (wO ad cA (sz τ) ++ X) (WGz ad cA X id ks_gain r) := by
  refine lk_ofH hl0 rfl ?_ (Nat.le_of_ble_eq_true rfl)
  rintro p e s m args below meth c F hlk hrt htab hw ls hl
  have hl : lv_has ls 5 [(0, .ref (ad 0)), (1, .int (iI a1)), (2, .int (iI a2)), (3, .int (iI a3))] := hl
  have hx := F.1
  have hb := F.2.1
  refine lv_aload_n hx hb (k := 0) (i := 0) (x := ad 0) (by decide +kernel) rfl (lv_at hl 0 rfl) ?_
  refine lv_iload_n hx hb (k := 1) (i := 1) (x := iI a1) (by decide +kernel) rfl (lv_at hl 1 rfl) ?_
  refine lv_iload_n hx hb (k := 2) (i := 2) (x := iI a2) (by decide +kernel) rfl (lv_at hl 2 rfl) ?_
  refine lv_iload_n hx hb (k := 3) (i := 3) (x := iI a3) (by decide +kernel) rfl (lv_at hl 3 rfl) ?_
  refine fl_call (d := 12) (j := m7_gain) (as := [.inr a1, .inr a2, .inr a3]) (X := X) (x := 74) (rest := []) F hw hl.1 hr (by decide) rfl rfl (lq 56 rfl) (lq 57 rfl) (lq 58 rfl) ⟨by decide, by decide, by decide +kernel, by decide +kernel⟩ (by show (0 : Nat) ≤ 8; decide) (by decide +kernel) rfl (fun E τ1 e1 ce q9 H locs hw h1 h2 h3 => ?_) (fun v τ1 e1 H locs hw => ?_)
  · obtain ⟨i, hi⟩ := hE.thrown e1
    match i, hi with
    | 0, hi =>
      cases hi
      refine vx_catch (name := "java/lang/IndexOutOfBoundsException") F.2.2.2.1 [] ⟨0, 7, 8, 22⟩ [⟨0, 7, 13, 58⟩] (htab.trans rfl) (fun z hz => by cases hz) rfl (by decide) (ts_of F.2.2.2.2.1 (lq 10 rfl) rfl) (va_Nw.use rfl (F.2.2.2.2.2.2.1.2.1 _ (lq 11 rfl) rfl)) h1 h2 h3 ?_
      refine lv_astore hx hb (i := 4) (by decide +kernel) hl (by decide) rfl (fun ls hl => ?_)
      refine lv_bipush hx hb (n := -11) (v := iI (-11)) (by decide +kernel) (by decide) ?_
      exact lk_iret F hlk hrt hw rfl (wgz_x e1 (kof_0)) (Nat.le_of_ble_eq_true rfl) (Nat.le_of_ble_eq_true rfl) (by decide +kernel)
    | 1, hi =>
      cases hi
      refine vx_catch (name := "java/util/NoSuchElementException") F.2.2.2.1 [⟨0, 7, 8, 22⟩] ⟨0, 7, 13, 58⟩ [] (htab.trans rfl) (fun z hz => by cases List.mem_singleton.mp hz; exact Or.inr ⟨by decide, "java/lang/IndexOutOfBoundsException", ts_of F.2.2.2.2.1 (lq 10 rfl) rfl, F.2.2.2.2.2.2.2.2.1 _ (by decide) _ (by decide) (by decide)⟩) rfl (by decide) (ts_of F.2.2.2.2.1 (lq 42 rfl) rfl) (va_Nw.use rfl (F.2.2.2.2.2.2.1.2.1 _ (lq 43 rfl) rfl)) h1 h2 h3 ?_
      refine lv_astore hx hb (i := 4) (by decide +kernel) hl (by decide) rfl (fun ls hl => ?_)
      refine lv_bipush hx hb (n := -13) (v := iI (-13)) (by decide +kernel) (by decide) ?_
      exact lk_iret F hlk hrt hw rfl (wgz_x e1 (kof_1 (by decide))) (Nat.le_of_ble_eq_true rfl) (Nat.le_of_ble_eq_true rfl) (by decide +kernel)
    | i + 2, hi => cases hi
  · obtain ⟨v, rfl⟩ := hE.ret e1
    refine W.eq (g2 := F0 m 7 ls [.int (iI v)]) rfl ?_
    exact lk_iret F hlk hrt hw rfl (wgz_r e1 rfl) (Nat.le_of_ble_eq_true rfl) (Nat.le_of_ble_eq_true rfl) (by decide +kernel)
abbrev ks_best : List (String × Int) := [("java/lang/IllegalArgumentException", -12), ("java/util/NoSuchElementException", -13)]
theorem w_best {τ : SZ} {r : RSZ} {X : va_W} {a1 : Int} (hl0 : l.stackTraces = false) (hr : RZ 12 m7_best [.inl 0, .inr a1] τ r) (hE : REz ["java/lang/IllegalArgumentException", "java/util/NoSuchElementException"] r) : LK l D A ad adV cA (.codeWith yL_best method_20_code 3 (some .int) [(0, 5, 6, 14), (0, 5, 10, 58)]) yL_best 22 1 6 [.ref (ad 0), .int (iI a1)] (wO ad cA (sz τ) ++ X) (WGz ad cA X id ks_best r) := by
  refine lk_ofH hl0 rfl ?_ (Nat.le_of_ble_eq_true rfl)
  rintro p e s m args below meth c F hlk hrt htab hw ls hl
  have hl : lv_has ls 3 [(0, .ref (ad 0)), (1, .int (iI a1))] := hl
  have hx := F.1
  have hb := F.2.1
  refine lv_aload_n hx hb (k := 0) (i := 0) (x := ad 0) (by decide +kernel) rfl (lv_at hl 0 rfl) ?_
  refine lv_iload_n hx hb (k := 1) (i := 1) (x := iI a1) (by decide +kernel) rfl (lv_at hl 1 rfl) ?_
  refine fl_call (d := 12) (j := m7_best) (as := [.inr a1]) (X := X) (x := 77) (rest := []) F hw hl.1 hr (by decide) rfl rfl (lq 59 rfl) (lq 60 rfl) (lq 61 rfl) ⟨by decide, by decide, by decide +kernel, by decide +kernel⟩ (by show (0 : Nat) ≤ 8; decide) (by decide +kernel) rfl (fun E τ1 e1 ce q9 H locs hw h1 h2 h3 => ?_) (fun v τ1 e1 H locs hw => ?_)
  · obtain ⟨i, hi⟩ := hE.thrown e1
    match i, hi with
    | 0, hi =>
      cases hi
      refine vx_catch (name := "java/lang/IllegalArgumentException") F.2.2.2.1 [] ⟨0, 5, 6, 14⟩ [⟨0, 5, 10, 58⟩] (htab.trans rfl) (fun z hz => by cases hz) rfl (by decide) (ts_of F.2.2.2.2.1 (lq 3 rfl) rfl) (va_Nw.use rfl (F.2.2.2.2.2.2.1.2.1 _ (lq 4 rfl) rfl)) h1 h2 h3 ?_
      refine lv_astore_n hx hb (k := 2) (i := 2) (by decide +kernel) rfl hl (by decide) rfl (fun ls hl => ?_)
      refine lv_bipush hx hb (n := -12) (v := iI (-12)) (by decide +kernel) (by decide) ?_
      exact lk_iret F hlk hrt hw rfl (wgz_x e1 (kof_0)) (Nat.le_of_ble_eq_true rfl) (Nat.le_of_ble_eq_true rfl) (by decide +kernel)
    | 1, hi =>
      cases hi
      refine vx_catch (name := "java/util/NoSuchElementException") F.2.2.2.1 [⟨0, 5, 6, 14⟩] ⟨0, 5, 10, 58⟩ [] (htab.trans rfl) (fun z hz => by cases List.mem_singleton.mp hz; exact Or.inr ⟨by decide, "java/lang/IllegalArgumentException", ts_of F.2.2.2.2.1 (lq 3 rfl) rfl, F.2.2.2.2.2.2.2.2.1 _ (by decide) _ (by decide) (by decide)⟩) rfl (by decide) (ts_of F.2.2.2.2.1 (lq 42 rfl) rfl) (va_Nw.use rfl (F.2.2.2.2.2.2.1.2.1 _ (lq 43 rfl) rfl)) h1 h2 h3 ?_
      refine lv_astore_n hx hb (k := 2) (i := 2) (by decide +kernel) rfl hl (by decide) rfl (fun ls hl => ?_)
      refine lv_bipush hx hb (n := -13) (v := iI (-13)) (by decide +kernel) (by decide) ?_
      exact lk_iret F hlk hrt hw rfl (wgz_x e1 (kof_1 (by decide))) (Nat.le_of_ble_eq_true rfl) (Nat.le_of_ble_eq_true rfl) (by decide +kernel)
    | i + 2, hi => cases hi
  · obtain ⟨v, rfl⟩ := hE.ret e1
    refine W.eq (g2 := F0 m 5 ls [.int (iI v)]) rfl ?_
    exact lk_iret F hlk hrt hw rfl (wgz_r e1 rfl) (Nat.le_of_ble_eq_true rfl) (Nat.le_of_ble_eq_true rfl) (by decide +kernel)
abbrev ks_toLock : List (String × Int) := [("java/lang/IndexOutOfBoundsException", -11), ("java/util/NoSuchElementException", -13)]
theorem w_toLock {τ : SZ} {r : RSZ} {X : va_W} {a1 a2 : Int} (hl0 : l.stackTraces = false) (hr : RZ 12 m7_toLock [.inl 0, .inr a1, .inr a2] τ r) (hE : REz ["java/lang/IndexOutOfBoundsException", "java/util/NoSuchElementException"] r) : LK l D A ad adV cA (.codeWith yL_toLock method_21_code 4 (some .int) [(0, 6, 7, 22), (0, 6, 11, 58)]) yL_toLock 22 2 12 [.ref (ad 0), .int (iI a1), .int (iI a2)] (wO ad cA (sz τ) ++ X) (WGz ad cA X id ks_toLock r) := by
  refine lk_ofH hl0 rfl ?_ (Nat.le_of_ble_eq_true rfl)
  rintro p e s m args below meth c F hlk hrt htab hw ls hl
  have hl : lv_has ls 4 [(0, .ref (ad 0)), (1, .int (iI a1)), (2, .int (iI a2))] := hl
  have hx := F.1
  have hb := F.2.1
  refine lv_aload_n hx hb (k := 0) (i := 0) (x := ad 0) (by decide +kernel) rfl (lv_at hl 0 rfl) ?_
  refine lv_iload_n hx hb (k := 1) (i := 1) (x := iI a1) (by decide +kernel) rfl (lv_at hl 1 rfl) ?_
  refine lv_iload_n hx hb (k := 2) (i := 2) (x := iI a2) (by decide +kernel) rfl (lv_at hl 2 rfl) ?_
  refine fl_call (d := 12) (j := m7_toLock) (as := [.inr a1, .inr a2]) (X := X) (x := 81) (rest := []) F hw hl.1 hr (by decide) rfl rfl (lq 62 rfl) (lq 63 rfl) (lq 64 rfl) ⟨by decide, by decide, by decide +kernel, by decide +kernel⟩ (by show (0 : Nat) ≤ 8; decide) (by decide +kernel) rfl (fun E τ1 e1 ce q9 H locs hw h1 h2 h3 => ?_) (fun v τ1 e1 H locs hw => ?_)
  · obtain ⟨i, hi⟩ := hE.thrown e1
    match i, hi with
    | 0, hi =>
      cases hi
      refine vx_catch (name := "java/lang/IndexOutOfBoundsException") F.2.2.2.1 [] ⟨0, 6, 7, 22⟩ [⟨0, 6, 11, 58⟩] (htab.trans rfl) (fun z hz => by cases hz) rfl (by decide) (ts_of F.2.2.2.2.1 (lq 10 rfl) rfl) (va_Nw.use rfl (F.2.2.2.2.2.2.1.2.1 _ (lq 11 rfl) rfl)) h1 h2 h3 ?_
      refine lv_astore_n hx hb (k := 3) (i := 3) (by decide +kernel) rfl hl (by decide) rfl (fun ls hl => ?_)
      refine lv_bipush hx hb (n := -11) (v := iI (-11)) (by decide +kernel) (by decide) ?_
      exact lk_iret F hlk hrt hw rfl (wgz_x e1 (kof_0)) (Nat.le_of_ble_eq_true rfl) (Nat.le_of_ble_eq_true rfl) (by decide +kernel)
    | 1, hi =>
      cases hi
      refine vx_catch (name := "java/util/NoSuchElementException") F.2.2.2.1 [⟨0, 6, 7, 22⟩] ⟨0, 6, 11, 58⟩ [] (htab.trans rfl) (fun z hz => by cases List.mem_singleton.mp hz; exact Or.inr ⟨by decide, "java/lang/IndexOutOfBoundsException", ts_of F.2.2.2.2.1 (lq 10 rfl) rfl, F.2.2.2.2.2.2.2.2.1 _ (by decide) _ (by decide) (by decide)⟩) rfl (by decide) (ts_of F.2.2.2.2.1 (lq 42 rfl) rfl) (va_Nw.use rfl (F.2.2.2.2.2.2.1.2.1 _ (lq 43 rfl) rfl)) h1 h2 h3 ?_
      refine lv_astore_n hx hb (k := 3) (i := 3) (by decide +kernel) rfl hl (by decide) rfl (fun ls hl => ?_)
      refine lv_bipush hx hb (n := -13) (v := iI (-13)) (by decide +kernel) (by decide) ?_
      exact lk_iret F hlk hrt hw rfl (wgz_x e1 (kof_1 (by decide))) (Nat.le_of_ble_eq_true rfl) (Nat.le_of_ble_eq_true rfl) (by decide +kernel)
    | i + 2, hi => cases hi
  · obtain ⟨v, rfl⟩ := hE.ret e1
    refine W.eq (g2 := F0 m 6 ls [.int (iI v)]) rfl ?_
    exact lk_iret F hlk hrt hw rfl (wgz_r e1 rfl) (Nat.le_of_ble_eq_true rfl) (Nat.le_of_ble_eq_true rfl) (by decide +kernel)
abbrev ks_boldest : List (String × Int) := [("java/util/NoSuchElementException", -13)]
theorem w_boldest {τ : SZ} {r : RSZ} {X : va_W} {a1 : Int} (hl0 : l.stackTraces = false) (hr : RZ 12 m7_boldest [.inl 0, .inr a1] τ r) (hE : REz ["java/util/NoSuchElementException"] r) : LK l D A ad adV cA (.codeWith yL_boldest method_22_code 3 (some .int) [(0, 5, 6, 58)]) yL_boldest 22 1 6 [.ref (ad 0), .int (iI a1)] (wO ad cA (sz τ) ++ X) (WGz ad cA X id ks_boldest r) := by
  refine lk_ofH hl0 rfl ?_ (Nat.le_of_ble_eq_true rfl)
  rintro p e s m args below meth c F hlk hrt htab hw ls hl
  have hl : lv_has ls 3 [(0, .ref (ad 0)), (1, .int (iI a1))] := hl
  have hx := F.1
  have hb := F.2.1
  refine lv_aload_n hx hb (k := 0) (i := 0) (x := ad 0) (by decide +kernel) rfl (lv_at hl 0 rfl) ?_
  refine lv_iload_n hx hb (k := 1) (i := 1) (x := iI a1) (by decide +kernel) rfl (lv_at hl 1 rfl) ?_
  refine fl_call (d := 12) (j := m7_boldest) (as := [.inr a1]) (X := X) (x := 84) (rest := []) F hw hl.1 hr (by decide) rfl rfl (lq 65 rfl) (lq 66 rfl) (lq 67 rfl) ⟨by decide, by decide, by decide +kernel, by decide +kernel⟩ (by show (0 : Nat) ≤ 8; decide) (by decide +kernel) rfl (fun E τ1 e1 ce q9 H locs hw h1 h2 h3 => ?_) (fun v τ1 e1 H locs hw => ?_)
  · obtain ⟨i, hi⟩ := hE.thrown e1
    match i, hi with
    | 0, hi =>
      cases hi
      refine vx_catch (name := "java/util/NoSuchElementException") F.2.2.2.1 [] ⟨0, 5, 6, 58⟩ [] (htab.trans rfl) (fun z hz => by cases hz) rfl (by decide) (ts_of F.2.2.2.2.1 (lq 42 rfl) rfl) (va_Nw.use rfl (F.2.2.2.2.2.2.1.2.1 _ (lq 43 rfl) rfl)) h1 h2 h3 ?_
      refine lv_astore_n hx hb (k := 2) (i := 2) (by decide +kernel) rfl hl (by decide) rfl (fun ls hl => ?_)
      refine lv_bipush hx hb (n := -13) (v := iI (-13)) (by decide +kernel) (by decide) ?_
      exact lk_iret F hlk hrt hw rfl (wgz_x e1 (kof_0)) (Nat.le_of_ble_eq_true rfl) (Nat.le_of_ble_eq_true rfl) (by decide +kernel)
    | i + 1, hi => cases hi
  · obtain ⟨v, rfl⟩ := hE.ret e1
    refine W.eq (g2 := F0 m 5 ls [.int (iI v)]) rfl ?_
    exact lk_iret F hlk hrt hw rfl (wgz_r e1 rfl) (Nat.le_of_ble_eq_true rfl) (Nat.le_of_ble_eq_true rfl) (by decide +kernel)
abbrev ks_farthest : List (String × Int) := [("java/util/NoSuchElementException", -13)]
theorem w_farthest {τ : SZ} {r : RSZ} {X : va_W} {a1 : Int} (hl0 : l.stackTraces = false) (hr : RZ 12 m7_farthest [.inl 0, .inr a1] τ r) (hE : REz ["java/util/NoSuchElementException"] r) : LK l D A ad adV cA (.codeWith yL_farthest method_23_code 3 (some .int) [(0, 5, 6, 58)]) yL_farthest 22 1 6 [.ref (ad 0), .int (iI a1)] (wO ad cA (sz τ) ++ X) (WGz ad cA X id ks_farthest r) := by
  refine lk_ofH hl0 rfl ?_ (Nat.le_of_ble_eq_true rfl)
  rintro p e s m args below meth c F hlk hrt htab hw ls hl
  have hl : lv_has ls 3 [(0, .ref (ad 0)), (1, .int (iI a1))] := hl
  have hx := F.1
  have hb := F.2.1
  refine lv_aload_n hx hb (k := 0) (i := 0) (x := ad 0) (by decide +kernel) rfl (lv_at hl 0 rfl) ?_
  refine lv_iload_n hx hb (k := 1) (i := 1) (x := iI a1) (by decide +kernel) rfl (lv_at hl 1 rfl) ?_
  refine fl_call (d := 12) (j := m7_farthest) (as := [.inr a1]) (X := X) (x := 87) (rest := []) F hw hl.1 hr (by decide) rfl rfl (lq 68 rfl) (lq 69 rfl) (lq 70 rfl) ⟨by decide, by decide, by decide +kernel, by decide +kernel⟩ (by show (0 : Nat) ≤ 8; decide) (by decide +kernel) rfl (fun E τ1 e1 ce q9 H locs hw h1 h2 h3 => ?_) (fun v τ1 e1 H locs hw => ?_)
  · obtain ⟨i, hi⟩ := hE.thrown e1
    match i, hi with
    | 0, hi =>
      cases hi
      refine vx_catch (name := "java/util/NoSuchElementException") F.2.2.2.1 [] ⟨0, 5, 6, 58⟩ [] (htab.trans rfl) (fun z hz => by cases hz) rfl (by decide) (ts_of F.2.2.2.2.1 (lq 42 rfl) rfl) (va_Nw.use rfl (F.2.2.2.2.2.2.1.2.1 _ (lq 43 rfl) rfl)) h1 h2 h3 ?_
      refine lv_astore_n hx hb (k := 2) (i := 2) (by decide +kernel) rfl hl (by decide) rfl (fun ls hl => ?_)
      refine lv_bipush hx hb (n := -13) (v := iI (-13)) (by decide +kernel) (by decide) ?_
      exact lk_iret F hlk hrt hw rfl (wgz_x e1 (kof_0)) (Nat.le_of_ble_eq_true rfl) (Nat.le_of_ble_eq_true rfl) (by decide +kernel)
    | i + 1, hi => cases hi
  · obtain ⟨v, rfl⟩ := hE.ret e1
    refine W.eq (g2 := F0 m 5 ls [.int (iI v)]) rfl ?_
    exact lk_iret F hlk hrt hw rfl (wgz_r e1 rfl) (Nat.le_of_ble_eq_true rfl) (Nat.le_of_ble_eq_true rfl) (by decide +kernel)
abbrev ks_riverLine : List (String × Int) := [("java/lang/IndexOutOfBoundsException", -11)]
theorem w_riverLine {τ : SZ} {r : RSZ} {X : va_W} {a1 : Int} (hl0 : l.stackTraces = false) (hr : RZ 12 m7_riverLine [.inl 0, .inr a1] τ r) (hE : REz ["java/lang/IndexOutOfBoundsException"] r) : LK l D A ad adV cA (.codeWith yL_riverLine method_24_code 3 (some .int) [(0, 5, 6, 22)]) yL_riverLine 22 1 6 [.ref (ad 0), .int (iI a1)] (wO ad cA (sz τ) ++ X) (WGz ad cA X id ks_riverLine r) := by
  refine lk_ofH hl0 rfl ?_ (Nat.le_of_ble_eq_true rfl)
  rintro p e s m args below meth c F hlk hrt htab hw ls hl
  have hl : lv_has ls 3 [(0, .ref (ad 0)), (1, .int (iI a1))] := hl
  have hx := F.1
  have hb := F.2.1
  refine lv_aload_n hx hb (k := 0) (i := 0) (x := ad 0) (by decide +kernel) rfl (lv_at hl 0 rfl) ?_
  refine lv_iload_n hx hb (k := 1) (i := 1) (x := iI a1) (by decide +kernel) rfl (lv_at hl 1 rfl) ?_
  refine fl_call (d := 12) (j := m7_riverLine) (as := [.inr a1]) (X := X) (x := 90) (rest := []) F hw hl.1 hr (by decide) rfl rfl (lq 71 rfl) (lq 72 rfl) (lq 73 rfl) ⟨by decide, by decide, by decide +kernel, by decide +kernel⟩ (by show (0 : Nat) ≤ 8; decide) (by decide +kernel) rfl (fun E τ1 e1 ce q9 H locs hw h1 h2 h3 => ?_) (fun v τ1 e1 H locs hw => ?_)
  · obtain ⟨i, hi⟩ := hE.thrown e1
    match i, hi with
    | 0, hi =>
      cases hi
      refine vx_catch (name := "java/lang/IndexOutOfBoundsException") F.2.2.2.1 [] ⟨0, 5, 6, 22⟩ [] (htab.trans rfl) (fun z hz => by cases hz) rfl (by decide) (ts_of F.2.2.2.2.1 (lq 10 rfl) rfl) (va_Nw.use rfl (F.2.2.2.2.2.2.1.2.1 _ (lq 11 rfl) rfl)) h1 h2 h3 ?_
      refine lv_astore_n hx hb (k := 2) (i := 2) (by decide +kernel) rfl hl (by decide) rfl (fun ls hl => ?_)
      refine lv_bipush hx hb (n := -11) (v := iI (-11)) (by decide +kernel) (by decide) ?_
      exact lk_iret F hlk hrt hw rfl (wgz_x e1 (kof_0)) (Nat.le_of_ble_eq_true rfl) (Nat.le_of_ble_eq_true rfl) (by decide +kernel)
    | i + 1, hi => cases hi
  · obtain ⟨v, rfl⟩ := hE.ret e1
    refine W.eq (g2 := F0 m 5 ls [.int (iI v)]) rfl ?_
    exact lk_iret F hlk hrt hw rfl (wgz_r e1 rfl) (Nat.le_of_ble_eq_true rfl) (Nat.le_of_ble_eq_true rfl) (by decide +kernel)
abbrev ks_ferryLine : List (String × Int) := [("java/lang/IndexOutOfBoundsException", -11)]
theorem w_ferryLine {τ : SZ} {r : RSZ} {X : va_W} {a1 : Int} (hl0 : l.stackTraces = false) (hr : RZ 12 m7_ferryLine [.inl 0, .inr a1] τ r) (hE : REz ["java/lang/IndexOutOfBoundsException"] r) : LK l D A ad adV cA (.codeWith yL_ferryLine method_25_code 3 (some .int) [(0, 5, 6, 22)]) yL_ferryLine 22 1 6 [.ref (ad 0), .int (iI a1)] (wO ad cA (sz τ) ++ X) (WGz ad cA X id ks_ferryLine r) := by
  refine lk_ofH hl0 rfl ?_ (Nat.le_of_ble_eq_true rfl)
  rintro p e s m args below meth c F hlk hrt htab hw ls hl
  have hl : lv_has ls 3 [(0, .ref (ad 0)), (1, .int (iI a1))] := hl
  have hx := F.1
  have hb := F.2.1
  refine lv_aload_n hx hb (k := 0) (i := 0) (x := ad 0) (by decide +kernel) rfl (lv_at hl 0 rfl) ?_
  refine lv_iload_n hx hb (k := 1) (i := 1) (x := iI a1) (by decide +kernel) rfl (lv_at hl 1 rfl) ?_
  refine fl_call (d := 12) (j := m7_ferryLine) (as := [.inr a1]) (X := X) (x := 93) (rest := []) F hw hl.1 hr (by decide) rfl rfl (lq 74 rfl) (lq 75 rfl) (lq 76 rfl) ⟨by decide, by decide, by decide +kernel, by decide +kernel⟩ (by show (0 : Nat) ≤ 8; decide) (by decide +kernel) rfl (fun E τ1 e1 ce q9 H locs hw h1 h2 h3 => ?_) (fun v τ1 e1 H locs hw => ?_)
  · obtain ⟨i, hi⟩ := hE.thrown e1
    match i, hi with
    | 0, hi =>
      cases hi
      refine vx_catch (name := "java/lang/IndexOutOfBoundsException") F.2.2.2.1 [] ⟨0, 5, 6, 22⟩ [] (htab.trans rfl) (fun z hz => by cases hz) rfl (by decide) (ts_of F.2.2.2.2.1 (lq 10 rfl) rfl) (va_Nw.use rfl (F.2.2.2.2.2.2.1.2.1 _ (lq 11 rfl) rfl)) h1 h2 h3 ?_
      refine lv_astore_n hx hb (k := 2) (i := 2) (by decide +kernel) rfl hl (by decide) rfl (fun ls hl => ?_)
      refine lv_bipush hx hb (n := -11) (v := iI (-11)) (by decide +kernel) (by decide) ?_
      exact lk_iret F hlk hrt hw rfl (wgz_x e1 (kof_0)) (Nat.le_of_ble_eq_true rfl) (Nat.le_of_ble_eq_true rfl) (by decide +kernel)
    | i + 1, hi => cases hi
  · obtain ⟨v, rfl⟩ := hE.ret e1
    refine W.eq (g2 := F0 m 5 ls [.int (iI v)]) rfl ?_
    exact lk_iret F hlk hrt hw rfl (wgz_r e1 rfl) (Nat.le_of_ble_eq_true rfl) (Nat.le_of_ble_eq_true rfl) (by decide +kernel)
abbrev ks_character : List (String × Int) := [("java/lang/IndexOutOfBoundsException", -11)]
theorem w_character {τ : SZ} {r : RSZ} {X : va_W} {a1 : Int} (hl0 : l.stackTraces = false) (hr : RZ 12 m7_character [.inl 0, .inr a1] τ r) (hE : REz ["java/lang/IndexOutOfBoundsException"] r) : LK l D A ad adV cA (.codeWith yL_character method_26_code 3 (some .int) [(0, 5, 6, 22)]) yL_character 22 1 6 [.ref (ad 0), .int (iI a1)] (wO ad cA (sz τ) ++ X) (WGz ad cA X id ks_character r) := by
  refine lk_ofH hl0 rfl ?_ (Nat.le_of_ble_eq_true rfl)
  rintro p e s m args below meth c F hlk hrt htab hw ls hl
  have hl : lv_has ls 3 [(0, .ref (ad 0)), (1, .int (iI a1))] := hl
  have hx := F.1
  have hb := F.2.1
  refine lv_aload_n hx hb (k := 0) (i := 0) (x := ad 0) (by decide +kernel) rfl (lv_at hl 0 rfl) ?_
  refine lv_iload_n hx hb (k := 1) (i := 1) (x := iI a1) (by decide +kernel) rfl (lv_at hl 1 rfl) ?_
  refine fl_call (d := 12) (j := m7_character) (as := [.inr a1]) (X := X) (x := 96) (rest := []) F hw hl.1 hr (by decide) rfl rfl (lq 77 rfl) (lq 78 rfl) (lq 79 rfl) ⟨by decide, by decide, by decide +kernel, by decide +kernel⟩ (by show (0 : Nat) ≤ 8; decide) (by decide +kernel) rfl (fun E τ1 e1 ce q9 H locs hw h1 h2 h3 => ?_) (fun v τ1 e1 H locs hw => ?_)
  · obtain ⟨i, hi⟩ := hE.thrown e1
    match i, hi with
    | 0, hi =>
      cases hi
      refine vx_catch (name := "java/lang/IndexOutOfBoundsException") F.2.2.2.1 [] ⟨0, 5, 6, 22⟩ [] (htab.trans rfl) (fun z hz => by cases hz) rfl (by decide) (ts_of F.2.2.2.2.1 (lq 10 rfl) rfl) (va_Nw.use rfl (F.2.2.2.2.2.2.1.2.1 _ (lq 11 rfl) rfl)) h1 h2 h3 ?_
      refine lv_astore_n hx hb (k := 2) (i := 2) (by decide +kernel) rfl hl (by decide) rfl (fun ls hl => ?_)
      refine lv_bipush hx hb (n := -11) (v := iI (-11)) (by decide +kernel) (by decide) ?_
      exact lk_iret F hlk hrt hw rfl (wgz_x e1 (kof_0)) (Nat.le_of_ble_eq_true rfl) (Nat.le_of_ble_eq_true rfl) (by decide +kernel)
    | i + 1, hi => cases hi
  · obtain ⟨v, rfl⟩ := hE.ret e1
    refine W.eq (g2 := F0 m 5 ls [.int (iI v)]) rfl ?_
    exact lk_iret F hlk hrt hw rfl (wgz_r e1 rfl) (Nat.le_of_ble_eq_true rfl) (Nat.le_of_ble_eq_true rfl) (by decide +kernel)
abbrev ks_append : List (String × Int) := [("java/lang/IllegalStateException", -14)]
theorem w_append {τ : SZ} {r : RSZ} {X : va_W} {a1 : Int} (hl0 : l.stackTraces = false) (hr : RZ 12 m7_append [.inl 0, .inr a1] τ r) (hE : REz ["java/lang/IllegalStateException"] r) : LK l D A ad adV cA (.codeWith yL_append method_27_code 3 (some .int) [(0, 5, 6, 104)]) yL_append 22 1 6 [.ref (ad 0), .int (iI a1)] (wO ad cA (sz τ) ++ X) (WGz ad cA X id ks_append r) := by
  refine lk_ofH hl0 rfl ?_ (Nat.le_of_ble_eq_true rfl)
  rintro p e s m args below meth c F hlk hrt htab hw ls hl
  have hl : lv_has ls 3 [(0, .ref (ad 0)), (1, .int (iI a1))] := hl
  have hx := F.1
  have hb := F.2.1
  refine lv_aload_n hx hb (k := 0) (i := 0) (x := ad 0) (by decide +kernel) rfl (lv_at hl 0 rfl) ?_
  refine lv_iload_n hx hb (k := 1) (i := 1) (x := iI a1) (by decide +kernel) rfl (lv_at hl 1 rfl) ?_
  refine fl_call (d := 12) (j := m7_append) (as := [.inr a1]) (X := X) (x := 100) (rest := []) F hw hl.1 hr (by decide) rfl rfl (lq 80 rfl) (lq 81 rfl) (lq 82 rfl) ⟨by decide, by decide, by decide +kernel, by decide +kernel⟩ (by show (0 : Nat) ≤ 8; decide) (by decide +kernel) rfl (fun E τ1 e1 ce q9 H locs hw h1 h2 h3 => ?_) (fun v τ1 e1 H locs hw => ?_)
  · obtain ⟨i, hi⟩ := hE.thrown e1
    match i, hi with
    | 0, hi =>
      cases hi
      refine vx_catch (name := "java/lang/IllegalStateException") F.2.2.2.1 [] ⟨0, 5, 6, 104⟩ [] (htab.trans rfl) (fun z hz => by cases hz) rfl (by decide) (ts_of F.2.2.2.2.1 (lq 83 rfl) rfl) (va_Nw.use rfl (F.2.2.2.2.2.2.1.2.1 _ (lq 84 rfl) rfl)) h1 h2 h3 ?_
      refine lv_astore_n hx hb (k := 2) (i := 2) (by decide +kernel) rfl hl (by decide) rfl (fun ls hl => ?_)
      refine lv_bipush hx hb (n := -14) (v := iI (-14)) (by decide +kernel) (by decide) ?_
      exact lk_iret F hlk hrt hw rfl (wgz_x e1 (kof_0)) (Nat.le_of_ble_eq_true rfl) (Nat.le_of_ble_eq_true rfl) (by decide +kernel)
    | i + 1, hi => cases hi
  · obtain ⟨v, rfl⟩ := hE.ret e1
    refine W.eq (g2 := F0 m 5 ls [.int (iI v)]) rfl ?_
    exact lk_iret F hlk hrt hw rfl (wgz_r e1 rfl) (Nat.le_of_ble_eq_true rfl) (Nat.le_of_ble_eq_true rfl) (by decide +kernel)
abbrev ks_runs : List (String × Int) := [("java/lang/IllegalArgumentException", -1), ("java/lang/UnsupportedOperationException", -2)]
theorem w_runs {τ : SZ} {r : RSZ} {X : va_W} (hl0 : l.stackTraces = false) (hr : RZ 12 m7_run [.inl 0] τ r) (hE : REz ["java/lang/IllegalArgumentException", "java/lang/UnsupportedOperationException"] r) : LK l D A ad adV cA (.codeWith yL_runs method_28_code 2 (some .int) [(0, 4, 5, 14), (0, 4, 8, 16)]) yL_runs 22 1 6 [.ref (ad 0)] (wO ad cA (sz τ) ++ X) (WGz ad cA X id ks_runs r) := by
  refine lk_ofH hl0 rfl ?_ (Nat.le_of_ble_eq_true rfl)
  rintro p e s m args below meth c F hlk hrt htab hw ls hl
  have hl : lv_has ls 2 [(0, .ref (ad 0))] := hl
  have hx := F.1
  have hb := F.2.1
  refine lv_aload_n hx hb (k := 0) (i := 0) (x := ad 0) (by decide +kernel) rfl (lv_at hl 0 rfl) ?_
  refine fl_call (d := 12) (j := m7_run) (as := []) (X := X) (x := 106) (rest := []) F hw hl.1 hr (by decide) rfl rfl (lq 85 rfl) (lq 86 rfl) (lq 87 rfl) ⟨by decide, by decide, by decide +kernel, by decide +kernel⟩ (by show (0 : Nat) ≤ 8; decide) (by decide +kernel) rfl (fun E τ1 e1 ce q9 H locs hw h1 h2 h3 => ?_) (fun v τ1 e1 H locs hw => ?_)
  · obtain ⟨i, hi⟩ := hE.thrown e1
    match i, hi with
    | 0, hi =>
      cases hi
      refine vx_catch (name := "java/lang/IllegalArgumentException") F.2.2.2.1 [] ⟨0, 4, 5, 14⟩ [⟨0, 4, 8, 16⟩] (htab.trans rfl) (fun z hz => by cases hz) rfl (by decide) (ts_of F.2.2.2.2.1 (lq 3 rfl) rfl) (va_Nw.use rfl (F.2.2.2.2.2.2.1.2.1 _ (lq 4 rfl) rfl)) h1 h2 h3 ?_
      refine lv_astore_n hx hb (k := 1) (i := 1) (by decide +kernel) rfl hl (by decide) rfl (fun ls hl => ?_)
      refine lv_iconst hx hb (n := -1) (v := iI (-1)) (by decide +kernel) (by decide) ?_
      exact lk_iret F hlk hrt hw rfl (wgz_x e1 (kof_0)) (Nat.le_of_ble_eq_true rfl) (Nat.le_of_ble_eq_true rfl) (by decide +kernel)
    | 1, hi =>
      cases hi
      refine vx_catch (name := "java/lang/UnsupportedOperationException") F.2.2.2.1 [⟨0, 4, 5, 14⟩] ⟨0, 4, 8, 16⟩ [] (htab.trans rfl) (fun z hz => by cases List.mem_singleton.mp hz; exact Or.inr ⟨by decide, "java/lang/IllegalArgumentException", ts_of F.2.2.2.2.1 (lq 3 rfl) rfl, F.2.2.2.2.2.2.2.2.1 _ (by decide) _ (by decide) (by decide)⟩) rfl (by decide) (ts_of F.2.2.2.2.1 (lq 5 rfl) rfl) (va_Nw.use rfl (F.2.2.2.2.2.2.1.2.1 _ (lq 6 rfl) rfl)) h1 h2 h3 ?_
      refine lv_astore_n hx hb (k := 1) (i := 1) (by decide +kernel) rfl hl (by decide) rfl (fun ls hl => ?_)
      refine lv_bipush hx hb (n := -2) (v := iI (-2)) (by decide +kernel) (by decide) ?_
      exact lk_iret F hlk hrt hw rfl (wgz_x e1 (kof_1 (by decide))) (Nat.le_of_ble_eq_true rfl) (Nat.le_of_ble_eq_true rfl) (by decide +kernel)
    | i + 2, hi => cases hi
  · obtain ⟨v, rfl⟩ := hE.ret e1
    refine W.eq (g2 := F0 m 4 ls [.int (iI v)]) rfl ?_
    exact lk_iret F hlk hrt hw rfl (wgz_r e1 rfl) (Nat.le_of_ble_eq_true rfl) (Nat.le_of_ble_eq_true rfl) (by decide +kernel)
abbrev ks_refusal : List (String × Int) := [("java/lang/IllegalArgumentException", -1012), ("java/util/NoSuchElementException", -1013)]
theorem w_refusal {τ : SZ} {r : RSZ} {X : va_W} {a1 a2 : Int} (hl0 : l.stackTraces = false) (hr : RZ 12 m7_refusal [.inl 0, .inr a1, .inr a2] τ r) (hE : REz ["java/lang/IllegalArgumentException", "java/util/NoSuchElementException"] r) : LK l D A ad adV cA (.codeWith yL_refusal method_29_code 4 (some .int) [(0, 6, 7, 14), (0, 6, 12, 58)]) yL_refusal 22 1 6 [.ref (ad 0), .int (iI a1), .int (iI a2)] (wO ad cA (sz τ) ++ X) (WGz ad cA X id ks_refusal r) := by
  refine lk_ofH hl0 rfl ?_ (Nat.le_of_ble_eq_true rfl)
  rintro p e s m args below meth c F hlk hrt htab hw ls hl
  have hl : lv_has ls 4 [(0, .ref (ad 0)), (1, .int (iI a1)), (2, .int (iI a2))] := hl
  have hx := F.1
  have hb := F.2.1
  refine lv_aload_n hx hb (k := 0) (i := 0) (x := ad 0) (by decide +kernel) rfl (lv_at hl 0 rfl) ?_
  refine lv_iload_n hx hb (k := 1) (i := 1) (x := iI a1) (by decide +kernel) rfl (lv_at hl 1 rfl) ?_
  refine lv_iload_n hx hb (k := 2) (i := 2) (x := iI a2) (by decide +kernel) rfl (lv_at hl 2 rfl) ?_
  refine fl_call (d := 12) (j := m7_refusal) (as := [.inr a1, .inr a2]) (X := X) (x := 109) (rest := []) F hw hl.1 hr (by decide) rfl rfl (lq 88 rfl) (lq 89 rfl) (lq 90 rfl) ⟨by decide, by decide, by decide +kernel, by decide +kernel⟩ (by show (0 : Nat) ≤ 8; decide) (by decide +kernel) rfl (fun E τ1 e1 ce q9 H locs hw h1 h2 h3 => ?_) (fun v τ1 e1 H locs hw => ?_)
  · obtain ⟨i, hi⟩ := hE.thrown e1
    match i, hi with
    | 0, hi =>
      cases hi
      refine vx_catch (name := "java/lang/IllegalArgumentException") F.2.2.2.1 [] ⟨0, 6, 7, 14⟩ [⟨0, 6, 12, 58⟩] (htab.trans rfl) (fun z hz => by cases hz) rfl (by decide) (ts_of F.2.2.2.2.1 (lq 3 rfl) rfl) (va_Nw.use rfl (F.2.2.2.2.2.2.1.2.1 _ (lq 4 rfl) rfl)) h1 h2 h3 ?_
      refine lv_astore_n hx hb (k := 3) (i := 3) (by decide +kernel) rfl hl (by decide) rfl (fun ls hl => ?_)
      refine lv_sipush hx hb (n := -1012) (v := iI (-1012)) (by decide +kernel) (by decide) ?_
      exact lk_iret F hlk hrt hw rfl (wgz_x e1 (kof_0)) (Nat.le_of_ble_eq_true rfl) (Nat.le_of_ble_eq_true rfl) (by decide +kernel)
    | 1, hi =>
      cases hi
      refine vx_catch (name := "java/util/NoSuchElementException") F.2.2.2.1 [⟨0, 6, 7, 14⟩] ⟨0, 6, 12, 58⟩ [] (htab.trans rfl) (fun z hz => by cases List.mem_singleton.mp hz; exact Or.inr ⟨by decide, "java/lang/IllegalArgumentException", ts_of F.2.2.2.2.1 (lq 3 rfl) rfl, F.2.2.2.2.2.2.2.2.1 _ (by decide) _ (by decide) (by decide)⟩) rfl (by decide) (ts_of F.2.2.2.2.1 (lq 42 rfl) rfl) (va_Nw.use rfl (F.2.2.2.2.2.2.1.2.1 _ (lq 43 rfl) rfl)) h1 h2 h3 ?_
      refine lv_astore_n hx hb (k := 3) (i := 3) (by decide +kernel) rfl hl (by decide) rfl (fun ls hl => ?_)
      refine lv_sipush hx hb (n := -1013) (v := iI (-1013)) (by decide +kernel) (by decide) ?_
      exact lk_iret F hlk hrt hw rfl (wgz_x e1 (kof_1 (by decide))) (Nat.le_of_ble_eq_true rfl) (Nat.le_of_ble_eq_true rfl) (by decide +kernel)
    | i + 2, hi => cases hi
  · obtain ⟨v, rfl⟩ := hE.ret e1
    refine W.eq (g2 := F0 m 6 ls [.int (iI v)]) rfl ?_
    exact lk_iret F hlk hrt hw rfl (wgz_r e1 rfl) (Nat.le_of_ble_eq_true rfl) (Nat.le_of_ble_eq_true rfl) (by decide +kernel)
abbrev ks_undo : List (String × Int) := [("java/lang/IllegalStateException", -1)]
theorem w_undo {τ : SZ} {r : RSZ} {X : va_W} (hl0 : l.stackTraces = false) (hr : RZ 12 m7_undo [.inl 0] τ r) (hE : REz ["java/lang/IllegalStateException"] r) : LK l D A ad adV cA (.codeWith yL_undo method_30_code 2 (some .int) [(0, 4, 5, 104)]) yL_undo 22 1 6 [.ref (ad 0)] (wO ad cA (sz τ) ++ X) (WGz ad cA X id ks_undo r) := by
  refine lk_ofH hl0 rfl ?_ (Nat.le_of_ble_eq_true rfl)
  rintro p e s m args below meth c F hlk hrt htab hw ls hl
  have hl : lv_has ls 2 [(0, .ref (ad 0))] := hl
  have hx := F.1
  have hb := F.2.1
  refine lv_aload_n hx hb (k := 0) (i := 0) (x := ad 0) (by decide +kernel) rfl (lv_at hl 0 rfl) ?_
  refine fl_call (d := 12) (j := m7_undo) (as := []) (X := X) (x := 112) (rest := []) F hw hl.1 hr (by decide) rfl rfl (lq 91 rfl) (lq 92 rfl) (lq 93 rfl) ⟨by decide, by decide, by decide +kernel, by decide +kernel⟩ (by show (0 : Nat) ≤ 8; decide) (by decide +kernel) rfl (fun E τ1 e1 ce q9 H locs hw h1 h2 h3 => ?_) (fun v τ1 e1 H locs hw => ?_)
  · obtain ⟨i, hi⟩ := hE.thrown e1
    match i, hi with
    | 0, hi =>
      cases hi
      refine vx_catch (name := "java/lang/IllegalStateException") F.2.2.2.1 [] ⟨0, 4, 5, 104⟩ [] (htab.trans rfl) (fun z hz => by cases hz) rfl (by decide) (ts_of F.2.2.2.2.1 (lq 83 rfl) rfl) (va_Nw.use rfl (F.2.2.2.2.2.2.1.2.1 _ (lq 84 rfl) rfl)) h1 h2 h3 ?_
      refine lv_astore_n hx hb (k := 1) (i := 1) (by decide +kernel) rfl hl (by decide) rfl (fun ls hl => ?_)
      refine lv_iconst hx hb (n := -1) (v := iI (-1)) (by decide +kernel) (by decide) ?_
      exact lk_iret F hlk hrt hw rfl (wgz_x e1 (kof_0)) (Nat.le_of_ble_eq_true rfl) (Nat.le_of_ble_eq_true rfl) (by decide +kernel)
    | i + 1, hi => cases hi
  · obtain ⟨v, rfl⟩ := hE.ret e1
    refine W.eq (g2 := F0 m 4 ls [.int (iI v)]) rfl ?_
    exact lk_iret F hlk hrt hw rfl (wgz_r e1 rfl) (Nat.le_of_ble_eq_true rfl) (Nat.le_of_ble_eq_true rfl) (by decide +kernel)
end WRP
