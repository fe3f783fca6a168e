/-! places, kinds, what hinders a move, how far a ferry came: printed by wip/p39/db44.py -/
section HND
variable {l : Launch} {D : va_G} {A : Nat → Prop} {ad adV : Nat → Nat} {cA : Nat → ClassId}
theorem LK.to {w : Jvm.Cond} {y : MethodName} {f mc ms : Nat} {as : List Value} {V X : va_W} {k k' : Int} {τ : SZ} (h : LK l D A ad adV cA w y f mc ms as V (RV ad cA X k τ)) (e : k = k') : LK l D A ad adV cA w y f mc ms as V (RV ad cA X k' τ) := e ▸ h
theorem rv_of {X : va_W} {v k : Int} {τ : SZ} (h : v = k) : RV ad cA X k τ (some (.int (iI v))) (wO ad cA (sz τ) ++ X) := ⟨by rw [h], rfl⟩
theorem lz_max {p : Program} {l : Launch} {e : Env} {R : Room} {s : State} {m : MethodId} {args : Array Value} {below : List Frame} {meth : Method} {c : Code} {H : Heap} {locs : List Loc} {cells slots : Nat} {Q : State → Prop} {bc : ByteArray} {nL pc x : Nat} {ls : Array Slot} {rest : List Value} {a b : Int} (F : FL D A ad adV cA p l s m args c bc nL) (hl : ls.size = nL) (hlink : Jvm.Cond.methodLink RL x Lib.Math.max.name ∈ lw_tbl) (h1 : 1 ≤ R.frames) (h2 : (rest.map fun v => v.category).sum ≤ 8) (h3 : 100 ≤ R.locals) (hc : cells ≤ R.cells) (hs : slots ≤ R.slots) (ha : Rng a) (hb : Rng b)
    (hd : decode bc pc = .ok (.invokestatic x, 3)) (k : W p l e R s m args below meth c H locs cells slots Q (F0 m (pc + 3) ls (.int (iI (if a < b then b else a)) :: rest))) : W p l e R s m args below meth c H locs cells slots Q (F0 m pc ls (.int (iI b) :: .int (iI a) :: rest)) := by
  refine va_mmax F.1 F.2.1 (F.2.2.1.trans hl.symm) F.2.2.2.1 (ts_of' F.2.2.2.2.1 hlink rfl) (ts_of F.2.2.2.2.1 (lib_in _ (by simp)) rfl) (ts_of F.2.2.2.2.1 (lib_in _ (by simp)) rfl) (ts_of F.2.2.2.2.1 (lib_in _ (by simp)) rfl) h1 (by omega) hc hs hd ?_
  have e9 : (if iI a < iI b then iI b else iI a) = iI (if a < b then b else a) := by
    by_cases q : a < b
    · rw [if_pos q, if_pos ((iI_lt ha hb).mpr q)]
    · rw [if_neg q, if_neg (fun z => q ((iI_lt ha hb).mp z))]
  rw [e9]
  exact k
theorem b2_1 {P : Prop} [Decidable P] : b2 P = 1 ↔ P := by unfold b2; split <;> simp_all
theorem FL.l0 {p : Program} {l : Launch} {s : State} {m : MethodId} {args : Array Value} {c : Code} {bc : ByteArray} {nL : Nat} (F : FL D A ad adV cA p l s m args c bc nL) : l.stackTraces = false := F.2.2.2.2.2.2.2.2.2.2
theorem rg_f {c : Nat → Int} {B f : Int} (hS : Sh B c) (hf : 0 ≤ f ∧ f < cel c 107) : Rng f := by have q := hS.n; exact ⟨by omega, by omega⟩
def lr44W : List Jvm.Cond := [.methodLink RL 163 yL_of,
  .static yL_of,
  .codeWith yL_of method_9_code 4 (some .int) [(0, 6, 7, 22), (0, 6, 11, 14)],
  .initialized RL,
  .methodLink RL 166 yL_placeOf,
  .static yL_placeOf,
  .code yL_placeOf method_33_code 3 (some .int),
  .methodLink RL 171 yL_at,
  .static yL_at,
  .codeWith yL_at method_10_code 4 (some .int) [(0, 6, 7, 22)],
  .methodLink RL 169 yL_isFog,
  .static yL_isFog,
  .codeWith yL_isFog method_12_code 4 (some .int) [(0, 14, 15, 22)]]
theorem lr44_in : ∀ w ∈ lr44W, w ∈ lw_tbl := by decide +kernel
theorem lr44 (k : Nat) {w : Jvm.Cond} (h : lr44W[k]? = some w) : w ∈ lw_tbl := lr44_in w (List.mem_of_getElem? h)
theorem K_of {X : va_W} {τ : SZ} {f w B : Int} (hl0 : l.stackTraces = false) (hf : 0 ≤ f ∧ f < cel (τ 4) 107) (hw : 0 ≤ w ∧ w < 6) (hS : Sh B (τ 4)) : LK l D A ad adV cA (.codeWith yL_of method_9_code 4 (some .int) [(0, 6, 7, 22), (0, 6, 11, 14)]) yL_of 22 2 12 [.ref (ad 0), .int (iI f), .int (iI w)] (wO ad cA (sz τ) ++ X) (RV ad cA X (cel (τ 4) (0 + f * 6 + w)) τ) :=
  (L_of hl0 (rg_f hS hf) ⟨by omega, by omega⟩ hS).to (by unfold A_of; rw [if_pos hf, if_pos hw])
theorem K_at {X : va_W} {τ : SZ} {r p : Int} (hl0 : l.stackTraces = false) (hr : 0 ≤ r ∧ r < 2) (hp : 0 ≤ p ∧ p < 12) : LK l D A ad adV cA (.codeWith yL_at method_10_code 4 (some .int) [(0, 6, 7, 22)]) yL_at 22 1 6 [.ref (ad 0), .int (iI r), .int (iI p)] (wO ad cA (sz τ) ++ X) (RV ad cA X (whz (τ 4) r p) τ) :=
  (L_at hl0 ⟨by omega, by omega⟩ ⟨by omega, by omega⟩).to (by unfold A_at; rw [if_pos ⟨hr, hp⟩])
theorem K_lockAt {X : va_W} {τ : SZ} {r p : Int} (hl0 : l.stackTraces = false) (hr : 0 ≤ r ∧ r < 2) (hp : 0 ≤ p ∧ p < 12) : LK l D A ad adV cA (.codeWith yL_lockAt method_11_code 4 (some .int) [(0, 6, 7, 22)]) yL_lockAt 22 1 6 [.ref (ad 0), .int (iI r), .int (iI p)] (wO ad cA (sz τ) ++ X) (RV ad cA X (usz (τ 4) r p) τ) :=
  (L_lockAt hl0 ⟨by omega, by omega⟩ ⟨by omega, by omega⟩).to (by unfold A_lockAt; rw [if_pos ⟨hr, hp⟩])
theorem K_atx {X : va_W} {τ : SZ} {r p : Int} (hl0 : l.stackTraces = false) (hr : 0 ≤ r ∧ r < 2) (hp : -100 ≤ p ∧ p < 100) : LK l D A ad adV cA (.codeWith yL_at method_10_code 4 (some .int) [(0, 6, 7, 22)]) yL_at 22 1 6 [.ref (ad 0), .int (iI r), .int (iI p)] (wO ad cA (sz τ) ++ X) (RV ad cA X (if 0 ≤ p ∧ p < 12 then whz (τ 4) r p else -11) τ) :=
  (L_at hl0 ⟨by omega, by omega⟩ ⟨by omega, by omega⟩).to (by unfold A_at; by_cases q : 0 ≤ p ∧ p < 12; (rw [if_pos ⟨hr, q⟩, if_pos q]); (rw [if_neg (fun z => q z.2), if_neg q]))
theorem K_isFog {X : va_W} {τ : SZ} {r p B : Int} (hl0 : l.stackTraces = false) (hr : 0 ≤ r ∧ r < 2) (hp : 0 ≤ p ∧ p < 12) (hS : Sh B (τ 4)) : LK l D A ad adV cA (.codeWith yL_isFog method_12_code 4 (some .int) [(0, 14, 15, 22)]) yL_isFog 22 1 6 [.ref (ad 0), .int (iI r), .int (iI p)] (wO ad cA (sz τ) ++ X) (RV ad cA X (b2 (fgd (τ 4) r p)) τ) :=
  (L_isFog hl0 ⟨by omega, by omega⟩ ⟨by omega, by omega⟩ hS).to (by unfold A_isFog; rw [if_pos ⟨hr, hp⟩])
theorem K_placeOf {X : va_W} {τ : SZ} {f r B : Int} (hl0 : l.stackTraces = false) (hf : 0 ≤ f ∧ f < cel (τ 4) 107) (hr : 0 ≤ r ∧ r < 2) (hS : Sh B (τ 4)) : LK l D A ad adV cA (.code yL_placeOf method_33_code 3 (some .int)) yL_placeOf 23 2 12 [.ref (ad 0), .int (iI f), .int (iI r)] (wO ad cA (sz τ) ++ X) (RV ad cA X (cel (τ 4) (0 + f * 6 + (1 + r))) τ) := by
  refine lk_of hl0 rfl ?_ (Nat.le_of_ble_eq_true rfl)
  rintro p e s m args below meth c F hlk hrt hw ls hl
  have hl : lv_has ls 3 [(0, .ref (ad 0)), (1, .int (iI f)), (2, .int (iI r))] := hl
  have hx := F.1
  have hb := F.2.1
  refine lv_aload_n hx hb (k := 0) (i := 0) (x := ad 0) (by decide +kernel) rfl (lv_at hl 0 rfl) ?_
  refine lv_iload_n hx hb (k := 1) (i := 1) (x := iI f) (by decide +kernel) rfl (lv_at hl 1 rfl) ?_
  refine lv_iconst hx hb (n := 1) (v := iI 1) (by decide +kernel) rfl ?_
  refine lv_iload_n hx hb (k := 2) (i := 2) (x := iI r) (by decide +kernel) rfl (lv_at hl 2 rfl) ?_
  refine lz_iadd hx hb (a := 1) (b := r) (by decide +kernel) ?_
  refine lk_callH (x := 163) (rest := []) (as := [.ref (ad 0), .int (iI f), .int (iI (1 + r))]) (n := 3) F hw hl.1 (K_of (X := X) (τ := τ) (f := f) (w := (1 + r)) (B := B) F.l0 (by omega) (by omega) hS) (lr44 0 rfl) (lr44 1 rfl) (lr44 2 rfl) (lr44 3 rfl) ⟨by decide, by decide, by decide +kernel⟩ rfl ⟨Nat.le_of_ble_eq_true rfl, Nat.le_of_ble_eq_true rfl, Nat.le_of_ble_eq_true rfl, Nat.le_of_ble_eq_true rfl⟩ (Nat.le_of_ble_eq_true rfl) (by decide +kernel) rfl (fun v9 V9 hG H locs hw => ?_)
  obtain ⟨rfl, rfl⟩ := hG
  refine W.eq (g2 := F0 m 8 ls [.int (iI (cel (τ 4) (0 + f * 6 + (1 + r))))]) rfl ?_
  exact lk_iret F hlk hrt hw rfl (rv_of (rfl)) (Nat.le_of_ble_eq_true rfl) (Nat.le_of_ble_eq_true rfl) (by decide +kernel)
/-- what hinders a move, with its detail: 0 for nothing -/
def hnd (c : Nat → Int) (f r s : Int) : Int := if oco c f r s ≤ 3 then 0 else 100 * oco c f r s + dtl c (oco c f r s) f r s
theorem hnd_x {c : Nat → Int} {f r s v k : Int} (h : oco c f r s = k) (hk : 3 < k) (e : v = 100 * k + dtl c k f r s) : v = hnd c f r s := by
  unfold hnd
  rw [h, if_neg (by omega), e]
theorem hnd_0 {c : Nat → Int} {f r s : Int} (h : oco c f r s ≤ 3) : 0 = hnd c f r s := (if_pos h).symm
theorem hnd_b {B : Int} {c : Nat → Int} (hS : Sh B c) {f r s : Int} (hf : 0 ≤ f ∧ f < 8) (hr : 0 ≤ r ∧ r < 2) (hs : s = 1 ∨ s = -1) : 0 ≤ hnd c f r s ∧ hnd c f r s < 1700 ∧ (¬ hnd c f r s = 0 → 12 ≤ oco c f r s ∧ hnd c f r s / 100 = oco c f r s ∧ hnd c f r s % 100 = dtl c (oco c f r s) f r s) ∧ (hnd c f r s = 0 → 1 ≤ oco c f r s ∧ oco c f r s ≤ 3) := by
  have q := @oco_in c f r s
  have hp := hS.pl hf hr
  have hw := hS.fw hr
  have hh := hS.wh (p := cel c (0 + f * 6 + (1 + r)) + s) hr
  unfold hnd
  by_cases h : oco c f r s ≤ 3
  · rw [if_pos h]
    exact ⟨by omega, by omega, fun z => absurd rfl z, fun _ => by omega⟩
  · rw [if_neg h]
    have hd : 0 ≤ dtl c (oco c f r s) f r s ∧ dtl c (oco c f r s) f r s < 100 := by
      unfold dtl
      rw [if_neg (by omega)]
      by_cases h2 : oco c f r s = 12
      · rw [if_pos h2]; omega
      · rw [if_neg h2]
        by_cases h5 : oco c f r s = 15
        · rw [if_pos h5]
          have h6 : ¬ whz c r (cel c (0 + f * 6 + (1 + r)) + s) = -1 := by
            intro z
            unfold oco at h5
            (repeat' split at h5) <;> omega
          omega
        · rw [if_neg h5]
          by_cases h6 : oco c f r s = 16
          · rw [if_pos h6]
            have h7 : 0 ≤ cel c (0 + f * 6 + (1 + r)) + s := by
              refine Int.not_lt.mp fun z => ?_
              unfold oco at h6
              (repeat' split at h6) <;> omega
            omega
          · rw [if_neg h6]; omega
    exact ⟨by omega, by omega, fun _ => ⟨by omega, by omega, by omega⟩, fun z => by omega⟩
theorem oco_12 {c : Nat → Int} {f r s : Int} (h : fgd c r (cel c (0 + f * 6 + (1 + r)))) : oco c f r s = 12 := if_pos h
/-- as many places are in fog as it is wide -/
theorem fg_sum {b w : Int} (hb : 0 ≤ b ∧ b ≤ 11) (hw : 0 ≤ w ∧ w ≤ 4) : sm (fun k => b2 (((k : Int) - b + 12) % 12 < w)) 12 = w := by
  have h1 : b = 0 ∨ b = 1 ∨ b = 2 ∨ b = 3 ∨ b = 4 ∨ b = 5 ∨ b = 6 ∨ b = 7 ∨ b = 8 ∨ b = 9 ∨ b = 10 ∨ b = 11 := by omega
  have h2 : w = 0 ∨ w = 1 ∨ w = 2 ∨ w = 3 ∨ w = 4 := by omega
  rcases h1 with rfl | rfl | rfl | rfl | rfl | rfl | rfl | rfl | rfl | rfl | rfl | rfl <;> rcases h2 with rfl | rfl | rfl | rfl | rfl <;> decide
theorem oco_nx {c : Nat → Int} {f r s : Int} (ho : oco c f r s ≤ 3) : 0 ≤ cel c (0 + f * 6 + (1 + r)) + s ∧ cel c (0 + f * 6 + (1 + r)) + s < 12 := by
  refine Decidable.byContradiction fun z => ?_
  unfold oco at ho
  (repeat' split at ho) <;> omega
theorem knd_is {B : Int} {c : Nat → Int} (hI : Iv B c) {f r s v : Int} (hf : 0 ≤ f ∧ f < cel c 107) (hr : 0 ≤ r ∧ r < 2) (ho : oco c f r s ≤ 3) (h1 : v = 1 ∨ v = 2 ∨ v = 3)
    (h2 : (v = 1 ↔ whz c r (cel c (0 + f * 6 + (1 + r)) + s) = -1) ∧ (v = 2 ↔ whz c r (cel c (0 + f * 6 + (1 + r)) + s) = 8)) : v = oco c f r s := by
  have q := @oco_in c f r s
  have e : (oco c f r s = 1 ↔ whz c r (cel c (0 + f * 6 + (1 + r)) + s) = -1) ∧ (oco c f r s = 2 ↔ whz c r (cel c (0 + f * 6 + (1 + r)) + s) = 8) := by
    unfold oco at ho ⊢
    (repeat' split at ho) <;> first | omega | skip
    all_goals (repeat' split) <;> omega
  omega
theorem K_kind {X : va_W} {τ : SZ} {f r d B : Int} (hl0 : l.stackTraces = false) (hf : 0 ≤ f ∧ f < cel (τ 4) 107) (hr : 0 ≤ r ∧ r < 2) (hs : d = 1 ∨ d = -1) (hI : Iv B (τ 4)) (ho : oco (τ 4) f r d ≤ 3) : LK l D A ad adV cA (.code yL_kind method_35_code 5 (some .int)) yL_kind 24 3 18 [.ref (ad 0), .int (iI f), .int (iI r), .int (iI d)] (wO ad cA (sz τ) ++ X) (RV ad cA X (oco (τ 4) f r d) τ) := by
  refine lk_of hl0 rfl ?_ (Nat.le_of_ble_eq_true rfl)
  rintro p e s m args below meth c F hlk hrt hw ls hl
  have hl : lv_has ls 5 [(0, .ref (ad 0)), (1, .int (iI f)), (2, .int (iI r)), (3, .int (iI d))] := hl
  have hx := F.1
  have hb := F.2.1
  have hS := hI.1
  have hn := hS.n
  have hp := hS.pl (f := f) ⟨by omega, by omega⟩ hr
  have hq := oco_nx ho
  have hh := hS.wh (p := cel (τ 4) (0 + f * 6 + (1 + r)) + d) hr
  refine lv_aload_n hx hb (k := 0) (i := 0) (x := ad 0) (by decide +kernel) rfl (lv_at hl 0 rfl) ?_
  refine lv_iload_n hx hb (k := 2) (i := 2) (x := iI r) (by decide +kernel) rfl (lv_at hl 2 rfl) ?_
  refine lv_aload_n hx hb (k := 0) (i := 0) (x := ad 0) (by decide +kernel) rfl (lv_at hl 0 rfl) ?_
  refine lv_iload_n hx hb (k := 1) (i := 1) (x := iI f) (by decide +kernel) rfl (lv_at hl 1 rfl) ?_
  refine lv_iload_n hx hb (k := 2) (i := 2) (x := iI r) (by decide +kernel) rfl (lv_at hl 2 rfl) ?_
  refine lk_call (x := 166) (rest := [.int (iI r), .ref (ad 0)]) (as := [.ref (ad 0), .int (iI f), .int (iI r)]) (n := 3) F hw hl.1 (K_placeOf (X := X) (τ := τ) (f := f) (r := r) (B := B) F.l0 (by omega) (by omega) hS) (lr44 4 rfl) (lr44 5 rfl) (lr44 6 rfl) (lr44 3 rfl) ⟨rfl, by decide, by decide, by decide +kernel⟩ rfl ⟨Nat.le_of_ble_eq_true rfl, Nat.le_of_ble_eq_true rfl, Nat.le_of_ble_eq_true rfl, Nat.le_of_ble_eq_true rfl⟩ (Nat.le_of_ble_eq_true rfl) (by decide +kernel) rfl (fun v9 V9 hG H locs hw => ?_)
  obtain ⟨rfl, rfl⟩ := hG
  refine W.eq (g2 := F0 m 8 ls [.int (iI (cel (τ 4) (0 + f * 6 + (1 + r)))), .int (iI r), .ref (ad 0)]) rfl ?_
  refine lv_iload_n hx hb (k := 3) (i := 3) (x := iI d) (by decide +kernel) rfl (lv_at hl 3 rfl) ?_
  refine lz_iadd hx hb (a := (cel (τ 4) (0 + f * 6 + (1 + r)))) (b := d) (by decide +kernel) ?_
  refine lk_callH (x := 171) (rest := []) (as := [.ref (ad 0), .int (iI r), .int (iI ((cel (τ 4) (0 + f * 6 + (1 + r))) + d))]) (n := 3) F hw hl.1 (K_at (X := X) (τ := τ) (r := r) (p := ((cel (τ 4) (0 + f * 6 + (1 + r))) + d)) F.l0 (by omega) (by omega)) (lr44 7 rfl) (lr44 8 rfl) (lr44 9 rfl) (lr44 3 rfl) ⟨by decide, by decide, by decide +kernel⟩ rfl ⟨Nat.le_of_ble_eq_true rfl, Nat.le_of_ble_eq_true rfl, Nat.le_of_ble_eq_true rfl, Nat.le_of_ble_eq_true rfl⟩ (Nat.le_of_ble_eq_true rfl) (by decide +kernel) rfl (fun v9 V9 hG H locs hw => ?_)
  obtain ⟨rfl, rfl⟩ := hG
  refine W.eq (g2 := F0 m 13 ls [.int (iI (whz (τ 4) r ((cel (τ 4) (0 + f * 6 + (1 + r))) + d)))]) rfl ?_
  refine lv_istore hx hb (i := 4) (lv' := [(4, .int (iI (whz (τ 4) r ((cel (τ 4) (0 + f * 6 + (1 + r))) + d)))), (0, .ref (ad 0)), (1, .int (iI f)), (2, .int (iI r)), (3, .int (iI d))]) (by decide +kernel) hl (by decide) rfl (fun ls hl => ?_)
  refine lv_iload hx hb (i := 4) (x := iI (whz (τ 4) r ((cel (τ 4) (0 + f * 6 + (1 + r))) + d))) (by decide +kernel) (lv_at hl 0 rfl) ?_
  refine lz_if_ge hx hb (a := (whz (τ 4) r ((cel (τ 4) (0 + f * 6 + (1 + r))) + d))) (off := 7) (tgt := 24) (by decide +kernel) (by decide) ⟨by omega, by omega⟩ (fun h1 => ?_) (fun h1 => ?_)
  ·
    refine lv_iload hx hb (i := 4) (x := iI (whz (τ 4) r ((cel (τ 4) (0 + f * 6 + (1 + r))) + d))) (by decide +kernel) (lv_at hl 0 rfl) ?_
    refine lv_bipush hx hb (n := 8) (v := iI 8) (by decide +kernel) (by decide) ?_
    refine lz_icmp_ne hx hb (a := (whz (τ 4) r ((cel (τ 4) (0 + f * 6 + (1 + r))) + d))) (b := 8) (off := 7) (tgt := 35) (by decide +kernel) (by decide) ⟨by omega, by omega⟩ ⟨by decide, by decide⟩ (fun h2 => ?_) (fun h2 => ?_)
    ·
      refine lv_iconst hx hb (n := 3) (v := iI 3) (by decide +kernel) rfl ?_
      exact lk_iret F hlk hrt hw rfl (rv_of (knd_is hI hf hr ho (by omega) (by omega))) (Nat.le_of_ble_eq_true rfl) (Nat.le_of_ble_eq_true rfl) (by decide +kernel)
    ·
      refine lv_iconst hx hb (n := 2) (v := iI 2) (by decide +kernel) rfl ?_
      refine lv_goto hx hb (off := 4) (tgt := 36) (by decide +kernel) (by decide) ?_
      exact lk_iret F hlk hrt hw rfl (rv_of (knd_is hI hf hr ho (by omega) (by omega))) (Nat.le_of_ble_eq_true rfl) (Nat.le_of_ble_eq_true rfl) (by decide +kernel)
  ·
    refine lv_iconst hx hb (n := 1) (v := iI 1) (by decide +kernel) rfl ?_
    refine lv_goto hx hb (off := 15) (tgt := 36) (by decide +kernel) (by decide) ?_
    exact lk_iret F hlk hrt hw rfl (rv_of (knd_is hI hf hr ho (by omega) (by omega))) (Nat.le_of_ble_eq_true rfl) (Nat.le_of_ble_eq_true rfl) (by decide +kernel)
theorem K_hinders {X : va_W} {τ : SZ} {f r d B : Int} (hl0 : l.stackTraces = false) (hf : 0 ≤ f ∧ f < cel (τ 4) 107) (hr : 0 ≤ r ∧ r < 2) (hs : d = 1 ∨ d = -1) (hI : Iv B (τ 4)) : LK l D A ad adV cA (.code yL_hinders method_34_code 8 (some .int)) yL_hinders 24 16 96 [.ref (ad 0), .int (iI f), .int (iI r), .int (iI d)] (wO ad cA (sz τ) ++ X) (RV ad cA X (hnd (τ 4) f r d) τ) := by
  refine lk_of hl0 rfl ?_ (Nat.le_of_ble_eq_true rfl)
  rintro p e s m args below meth c F hlk hrt hw ls hl
  have hl : lv_has ls 8 [(0, .ref (ad 0)), (1, .int (iI f)), (2, .int (iI r)), (3, .int (iI d))] := hl
  have hx := F.1
  have hb := F.2.1
  have hS := hI.1
  have hn := hS.n
  have hp := hS.pl (f := f) ⟨by omega, by omega⟩ hr
  have hsd := hS.sd (f := f) ⟨by omega, by omega⟩
  have hkg := hS.kg (f := f) ⟨by omega, by omega⟩
  have hco := hI.2.1.ov (r := r) (p := cel (τ 4) (0 + f * 6 + (1 + r)) + d) hr
  have hs0 : ∀ g, 0 ≤ g → g < cel (τ 4) 107 → 0 ≤ cel (τ 4) (0 + g * 6 + 0) ∧ cel (τ 4) (0 + g * 6 + 0) ≤ 1 := fun g a b => hS.sd ⟨a, by omega⟩
  refine lv_aload_n hx hb (k := 0) (i := 0) (x := ad 0) (by decide +kernel) rfl (lv_at hl 0 rfl) ?_
  refine lv_iload_n hx hb (k := 1) (i := 1) (x := iI f) (by decide +kernel) rfl (lv_at hl 1 rfl) ?_
  refine lv_iload_n hx hb (k := 2) (i := 2) (x := iI r) (by decide +kernel) rfl (lv_at hl 2 rfl) ?_
  refine lk_call (x := 166) (rest := []) (as := [.ref (ad 0), .int (iI f), .int (iI r)]) (n := 3) F hw hl.1 (K_placeOf (X := X) (τ := τ) (f := f) (r := r) (B := B) F.l0 (by omega) (by omega) hS) (lr44 4 rfl) (lr44 5 rfl) (lr44 6 rfl) (lr44 3 rfl) ⟨rfl, by decide, by decide, by decide +kernel⟩ rfl ⟨Nat.le_of_ble_eq_true rfl, Nat.le_of_ble_eq_true rfl, Nat.le_of_ble_eq_true rfl, Nat.le_of_ble_eq_true rfl⟩ (Nat.le_of_ble_eq_true rfl) (by decide +kernel) rfl (fun v9 V9 hG H locs hw => ?_)
  obtain ⟨rfl, rfl⟩ := hG
  refine W.eq (g2 := F0 m 6 ls [.int (iI (cel (τ 4) (0 + f * 6 + (1 + r))))]) rfl ?_
  refine lv_istore hx hb (i := 4) (lv' := [(4, .int (iI (cel (τ 4) (0 + f * 6 + (1 + r))))), (0, .ref (ad 0)), (1, .int (iI f)), (2, .int (iI r)), (3, .int (iI d))]) (by decide +kernel) hl (by decide) rfl (fun ls hl => ?_)
  refine lv_iload hx hb (i := 4) (x := iI (cel (τ 4) (0 + f * 6 + (1 + r)))) (by decide +kernel) (lv_at hl 0 rfl) ?_
  refine lv_iload_n hx hb (k := 3) (i := 3) (x := iI d) (by decide +kernel) rfl (lv_at hl 4 rfl) ?_
  refine lz_iadd hx hb (a := (cel (τ 4) (0 + f * 6 + (1 + r)))) (b := d) (by decide +kernel) ?_
  refine lv_istore hx hb (i := 5) (lv' := [(5, .int (iI ((cel (τ 4) (0 + f * 6 + (1 + r))) + d))), (4, .int (iI (cel (τ 4) (0 + f * 6 + (1 + r))))), (0, .ref (ad 0)), (1, .int (iI f)), (2, .int (iI r)), (3, .int (iI d))]) (by decide +kernel) hl (by decide) rfl (fun ls hl => ?_)
  refine lv_aload_n hx hb (k := 0) (i := 0) (x := ad 0) (by decide +kernel) rfl (lv_at hl 2 rfl) ?_
  refine lv_iload_n hx hb (k := 2) (i := 2) (x := iI r) (by decide +kernel) rfl (lv_at hl 4 rfl) ?_
  refine lv_iload hx hb (i := 4) (x := iI (cel (τ 4) (0 + f * 6 + (1 + r)))) (by decide +kernel) (lv_at hl 1 rfl) ?_
  refine lk_callH (x := 169) (rest := []) (as := [.ref (ad 0), .int (iI r), .int (iI (cel (τ 4) (0 + f * 6 + (1 + r))))]) (n := 3) F hw hl.1 (K_isFog (X := X) (τ := τ) (r := r) (p := (cel (τ 4) (0 + f * 6 + (1 + r)))) (B := B) F.l0 (by omega) (by omega) hS) (lr44 10 rfl) (lr44 11 rfl) (lr44 12 rfl) (lr44 3 rfl) ⟨by decide, by decide, by decide +kernel⟩ rfl ⟨Nat.le_of_ble_eq_true rfl, Nat.le_of_ble_eq_true rfl, Nat.le_of_ble_eq_true rfl, Nat.le_of_ble_eq_true rfl⟩ (Nat.le_of_ble_eq_true rfl) (by decide +kernel) rfl (fun v9 V9 hG H locs hw => ?_)
  obtain ⟨rfl, rfl⟩ := hG
  refine W.eq (g2 := F0 m 21 ls [.int (iI (b2 (fgd (τ 4) r (cel (τ 4) (0 + f * 6 + (1 + r))))))]) rfl ?_
  by_cases hq : fgd (τ 4) r (cel (τ 4) (0 + f * 6 + (1 + r)))
  ·
    rw [b2_t hq]
    refine lv_iconst hx hb (n := 1) (v := iI 1) (by decide +kernel) rfl ?_
    refine lz_icmp_ne hx hb (a := 1) (b := 1) (off := 41) (tgt := 63) (by decide +kernel) (by decide) ⟨by decide, by decide⟩ ⟨by decide, by decide⟩ (fun h9 => absurd h9 (by decide)) (fun _ => ?_)
    refine lv_iconst hx hb (n := 0) (v := iI 0) (by decide +kernel) rfl ?_
    refine lv_istore hx hb (i := 6) (lv' := [(6, .int (iI 0)), (5, .int (iI ((cel (τ 4) (0 + f * 6 + (1 + r))) + d))), (4, .int (iI (cel (τ 4) (0 + f * 6 + (1 + r))))), (0, .ref (ad 0)), (1, .int (iI f)), (2, .int (iI r)), (3, .int (iI d))]) (by decide +kernel) hl (by decide) rfl (fun ls hl => ?_)
    refine lv_iconst hx hb (n := 0) (v := iI 0) (by decide +kernel) rfl ?_
    refine lv_istore hx hb (i := 7) (lv' := [(7, .int (iI 0)), (6, .int (iI 0)), (5, .int (iI ((cel (τ 4) (0 + f * 6 + (1 + r))) + d))), (4, .int (iI (cel (τ 4) (0 + f * 6 + (1 + r))))), (0, .ref (ad 0)), (1, .int (iI f)), (2, .int (iI r)), (3, .int (iI d))]) (by decide +kernel) hl (by decide) rfl (fun ls hl => ?_)
    have loop : ∀ (j k : Nat) (z v : Int) (ls : Array Slot) (H : Heap) (locs : List Loc) (cl sl : Nat), k + j = 12 → z = (k : Int) → v = sm (fun i => b2 (fgd (τ 4) r (i : Int))) k → cl ≤ 3 + k → sl ≤ 18 + 6 * k → lv_has ls 8 [(7, .int (iI z)), (6, .int (iI v)), (5, .int (iI ((cel (τ 4) (0 + f * 6 + (1 + r))) + d))), (4, .int (iI (cel (τ 4) (0 + f * 6 + (1 + r))))), (0, .ref (ad 0)), (1, .int (iI f)), (2, .int (iI r)), (3, .int (iI d))] → WV D A s (wO ad cA (sz τ) ++ X) H locs → W p l e (rmK 24 16 96) s m args below meth c H locs cl sl (vx_MQ below (LQ D A (RV ad cA X (hnd (τ 4) f r d) τ)) (fun _ _ _ => False) args s 16 96 A) (F0 m 31 ls []) := by
      intro j
      induction j with
      | zero =>
        intro k z v ls H locs cl sl hk hz hv hcl hsl hl hw
        have e12 : k = 12 := by omega
        subst e12
        refine lv_iload hx hb (i := 7) (x := iI z) (by decide +kernel) (lv_at hl 0 rfl) ?_
        refine lv_bipush hx hb (n := 12) (v := iI 12) (by decide +kernel) (by decide) ?_
        refine lz_icmp_ge hx hb (a := z) (b := 12) (off := 21) (tgt := 56) (by decide +kernel) (by decide) ⟨by omega, by omega⟩ ⟨by decide, by decide⟩ (fun _ => ?_) (fun h9 => absurd (by omega) h9)
        refine lv_sipush hx hb (n := 1200) (v := iI 1200) (by decide +kernel) (by decide) ?_
        refine lv_iload hx hb (i := 6) (x := iI v) (by decide +kernel) (lv_at hl 1 rfl) ?_
        refine lz_iadd hx hb (a := 1200) (b := v) (by decide +kernel) ?_
        exact lk_iret F hlk hrt hw rfl (rv_of (hnd_x (k := 12) (oco_12 hq) (by decide) (by rw [hv]; exact congrArg (fun z => 1200 + z) (fg_sum (hS.fb hr) (hS.fw hr))))) (by omega) (by omega) (by decide +kernel)
      | succ j ih =>
        intro k z v ls H locs cl sl hk hz hv hcl hsl hl hw
        have hsb : 0 ≤ v ∧ v ≤ 12 := by have q := sm_01 (f := fun i => b2 (fgd (τ 4) r (i : Int))) (n := k) (fun i _ => by have := @b2_or (fgd (τ 4) r (i : Int)) _; omega); omega
        refine lv_iload hx hb (i := 7) (x := iI z) (by decide +kernel) (lv_at hl 0 rfl) ?_
        refine lv_bipush hx hb (n := 12) (v := iI 12) (by decide +kernel) (by decide) ?_
        refine lz_icmp_ge hx hb (a := z) (b := 12) (off := 21) (tgt := 56) (by decide +kernel) (by decide) ⟨by omega, by omega⟩ ⟨by decide, by decide⟩ (fun h9 => absurd h9 (by omega)) (fun _ => ?_)
        refine lv_iload hx hb (i := 6) (x := iI v) (by decide +kernel) (lv_at hl 1 rfl) ?_
        refine lv_aload_n hx hb (k := 0) (i := 0) (x := ad 0) (by decide +kernel) rfl (lv_at hl 4 rfl) ?_
        refine lv_iload_n hx hb (k := 2) (i := 2) (x := iI r) (by decide +kernel) rfl (lv_at hl 6 rfl) ?_
        refine lv_iload hx hb (i := 7) (x := iI z) (by decide +kernel) (lv_at hl 0 rfl) ?_
        refine lk_callH (x := 169) (rest := [.int (iI v)]) (as := [.ref (ad 0), .int (iI r), .int (iI z)]) (n := 3) F hw hl.1 (K_isFog (X := X) (τ := τ) (r := r) (p := z) (B := B) F.l0 (by omega) (by omega) hS) (lr44 10 rfl) (lr44 11 rfl) (lr44 12 rfl) (lr44 3 rfl) ⟨by decide, by decide, by decide +kernel⟩ rfl ⟨Nat.le_of_ble_eq_true rfl, Nat.le_of_ble_eq_true rfl, (by show cl + 1 ≤ 16; omega), (by show sl + 6 ≤ 96; omega)⟩ (Nat.le_of_ble_eq_true rfl) (by decide +kernel) rfl (fun v9 V9 hG H locs hw => ?_)
        obtain ⟨rfl, rfl⟩ := hG
        refine W.eq (g2 := F0 m 47 ls [.int (iI (b2 (fgd (τ 4) r z))), .int (iI v)]) rfl ?_
        refine lz_iadd hx hb (a := v) (b := (b2 (fgd (τ 4) r z))) (by decide +kernel) ?_
        refine lv_istore hx hb (i := 6) (lv' := [(6, .int (iI (v + (b2 (fgd (τ 4) r z))))), (7, .int (iI z)), (5, .int (iI ((cel (τ 4) (0 + f * 6 + (1 + r))) + d))), (4, .int (iI (cel (τ 4) (0 + f * 6 + (1 + r))))), (0, .ref (ad 0)), (1, .int (iI f)), (2, .int (iI r)), (3, .int (iI d))]) (by decide +kernel) hl (by decide) rfl (fun ls hl => ?_)
        refine lv_iinc hx hb (i := 7) (n := 1) (v := iI (z + 1)) (lv' := [(7, .int (iI (z + 1))), (6, .int (iI (v + (b2 (fgd (τ 4) r z))))), (5, .int (iI ((cel (τ 4) (0 + f * 6 + (1 + r))) + d))), (4, .int (iI (cel (τ 4) (0 + f * 6 + (1 + r))))), (0, .ref (ad 0)), (1, .int (iI f)), (2, .int (iI r)), (3, .int (iI d))]) (by decide +kernel) hl (k := 1) rfl (iI_add _ _) (by decide) rfl (fun ls hl => ?_)
        refine lv_goto hx hb (off := (-22)) (tgt := 31) (by decide +kernel) (by decide) ?_
        exact ih (k + 1) _ _ ls _ _ _ _ (by omega) (by omega) (by rw [hv, hz]; rfl) (by omega) (by omega) hl hw
    exact loop 12 0 _ _ ls _ _ _ _ rfl rfl rfl (by omega) (by omega) hl hw
  ·
    rw [b2_f hq]
    refine lv_iconst hx hb (n := 1) (v := iI 1) (by decide +kernel) rfl ?_
    refine lz_icmp_ne hx hb (a := 0) (b := 1) (off := 41) (tgt := 63) (by decide +kernel) (by decide) ⟨by decide, by decide⟩ ⟨by decide, by decide⟩ (fun _ => ?_) (fun h9 => absurd (by decide) h9)
    refine lv_aload_n hx hb (k := 0) (i := 0) (x := ad 0) (by decide +kernel) rfl (lv_at hl 2 rfl) ?_
    refine lv_iload_n hx hb (k := 1) (i := 1) (x := iI f) (by decide +kernel) rfl (lv_at hl 3 rfl) ?_
    refine lv_iconst hx hb (n := 3) (v := iI 3) (by decide +kernel) rfl ?_
    refine lk_callH (x := 163) (rest := []) (as := [.ref (ad 0), .int (iI f), .int (iI 3)]) (n := 3) F hw hl.1 (K_of (X := X) (τ := τ) (f := f) (w := 3) (B := B) F.l0 (by omega) (by omega) hS) (lr44 0 rfl) (lr44 1 rfl) (lr44 2 rfl) (lr44 3 rfl) ⟨by decide, by decide, by decide +kernel⟩ rfl ⟨Nat.le_of_ble_eq_true rfl, Nat.le_of_ble_eq_true rfl, Nat.le_of_ble_eq_true rfl, Nat.le_of_ble_eq_true rfl⟩ (Nat.le_of_ble_eq_true rfl) (by decide +kernel) rfl (fun v9 V9 hG H locs hw => ?_)
    obtain ⟨rfl, rfl⟩ := hG
    refine W.eq (g2 := F0 m 69 ls [.int (iI (cel (τ 4) (0 + f * 6 + 3)))]) rfl ?_
    refine lz_if_ne hx hb (a := (cel (τ 4) (0 + f * 6 + 3))) (off := 24) (tgt := 93) (by decide +kernel) (by decide) ⟨by omega, by omega⟩ (fun h3 => ?_) (fun h3 => ?_)
    ·
      refine lv_iload hx hb (i := 5) (x := iI ((cel (τ 4) (0 + f * 6 + (1 + r))) + d)) (by decide +kernel) (lv_at hl 0 rfl) ?_
      refine lz_if_lt hx hb (a := ((cel (τ 4) (0 + f * 6 + (1 + r))) + d)) (off := 10) (tgt := 105) (by decide +kernel) (by decide) ⟨by omega, by omega⟩ (fun h4 => ?_) (fun h4 => ?_)
      ·
        refine lv_sipush hx hb (n := 1400) (v := iI 1400) (by decide +kernel) (by decide) ?_
        refine lv_iload hx hb (i := 4) (x := iI (cel (τ 4) (0 + f * 6 + (1 + r)))) (by decide +kernel) (lv_at hl 1 rfl) ?_
        refine lz_iadd hx hb (a := 1400) (b := (cel (τ 4) (0 + f * 6 + (1 + r)))) (by decide +kernel) ?_
        exact lk_iret F hlk hrt hw rfl (rv_of (hnd_x (k := 14) (by unfold oco; rw [if_neg hq, if_neg (by omega), if_pos (by omega)]) (by decide) rfl)) (Nat.le_of_ble_eq_true rfl) (Nat.le_of_ble_eq_true rfl) (by decide +kernel)
      ·
        refine lv_iload hx hb (i := 5) (x := iI ((cel (τ 4) (0 + f * 6 + (1 + r))) + d)) (by decide +kernel) (lv_at hl 0 rfl) ?_
        refine lv_bipush hx hb (n := 11) (v := iI 11) (by decide +kernel) (by decide) ?_
        refine lz_icmp_le hx hb (a := ((cel (τ 4) (0 + f * 6 + (1 + r))) + d)) (b := 11) (off := 10) (tgt := 112) (by decide +kernel) (by decide) ⟨by omega, by omega⟩ ⟨by decide, by decide⟩ (fun h5 => ?_) (fun h5 => ?_)
        ·
          refine lv_aload_n hx hb (k := 0) (i := 0) (x := ad 0) (by decide +kernel) rfl (lv_at hl 2 rfl) ?_
          refine lv_iload_n hx hb (k := 2) (i := 2) (x := iI r) (by decide +kernel) rfl (lv_at hl 4 rfl) ?_
          refine lv_iload hx hb (i := 5) (x := iI ((cel (τ 4) (0 + f * 6 + (1 + r))) + d)) (by decide +kernel) (lv_at hl 0 rfl) ?_
          refine lk_callH (x := 171) (rest := []) (as := [.ref (ad 0), .int (iI r), .int (iI ((cel (τ 4) (0 + f * 6 + (1 + r))) + d))]) (n := 3) F hw hl.1 (K_at (X := X) (τ := τ) (r := r) (p := ((cel (τ 4) (0 + f * 6 + (1 + r))) + d)) F.l0 (by omega) (by omega)) (lr44 7 rfl) (lr44 8 rfl) (lr44 9 rfl) (lr44 3 rfl) ⟨by decide, by decide, by decide +kernel⟩ rfl ⟨Nat.le_of_ble_eq_true rfl, Nat.le_of_ble_eq_true rfl, Nat.le_of_ble_eq_true rfl, Nat.le_of_ble_eq_true rfl⟩ (Nat.le_of_ble_eq_true rfl) (by decide +kernel) rfl (fun v9 V9 hG H locs hw => ?_)
          obtain ⟨rfl, rfl⟩ := hG
          refine W.eq (g2 := F0 m 119 ls [.int (iI (whz (τ 4) r ((cel (τ 4) (0 + f * 6 + (1 + r))) + d)))]) rfl ?_
          refine lv_istore hx hb (i := 6) (lv' := [(6, .int (iI (whz (τ 4) r ((cel (τ 4) (0 + f * 6 + (1 + r))) + d)))), (5, .int (iI ((cel (τ 4) (0 + f * 6 + (1 + r))) + d))), (4, .int (iI (cel (τ 4) (0 + f * 6 + (1 + r))))), (0, .ref (ad 0)), (1, .int (iI f)), (2, .int (iI r)), (3, .int (iI d))]) (by decide +kernel) hl (by decide) rfl (fun ls hl => ?_)
          refine lv_iload hx hb (i := 6) (x := iI (whz (τ 4) r ((cel (τ 4) (0 + f * 6 + (1 + r))) + d))) (by decide +kernel) (lv_at hl 0 rfl) ?_
          refine lz_if_lt hx hb (a := (whz (τ 4) r ((cel (τ 4) (0 + f * 6 + (1 + r))) + d))) (off := 33) (tgt := 156) (by decide +kernel) (by decide) ⟨by omega, by omega⟩ (fun h6 => ?_) (fun h6 => ?_)
          ·
            refine lv_iload hx hb (i := 6) (x := iI (whz (τ 4) r ((cel (τ 4) (0 + f * 6 + (1 + r))) + d))) (by decide +kernel) (lv_at hl 0 rfl) ?_
            refine lz_if_lt hx hb (a := (whz (τ 4) r ((cel (τ 4) (0 + f * 6 + (1 + r))) + d))) (off := 25) (tgt := 183) (by decide +kernel) (by decide) ⟨by omega, by omega⟩ (fun h7 => ?_) (fun h7 => ?_)
            ·
              refine lv_iconst hx hb (n := 0) (v := iI 0) (by decide +kernel) rfl ?_
              exact lk_iret F hlk hrt hw rfl (rv_of (hnd_0 (by unfold oco; rw [if_neg hq, if_neg (by omega), if_neg (by omega)]; (repeat' split) <;> omega))) (Nat.le_of_ble_eq_true rfl) (Nat.le_of_ble_eq_true rfl) (by decide +kernel)
            ·
              refine lv_aload_n hx hb (k := 0) (i := 0) (x := ad 0) (by decide +kernel) rfl (lv_at hl 3 rfl) ?_
              refine lv_iload_n hx hb (k := 2) (i := 2) (x := iI r) (by decide +kernel) rfl (lv_at hl 5 rfl) ?_
              refine lv_iload hx hb (i := 5) (x := iI ((cel (τ 4) (0 + f * 6 + (1 + r))) + d)) (by decide +kernel) (lv_at hl 1 rfl) ?_
              refine lv_iload_n hx hb (k := 3) (i := 3) (x := iI d) (by decide +kernel) rfl (lv_at hl 6 rfl) ?_
              refine lz_iadd hx hb (a := ((cel (τ 4) (0 + f * 6 + (1 + r))) + d)) (b := d) (by decide +kernel) ?_
              refine lk_callH (x := 171) (rest := []) (as := [.ref (ad 0), .int (iI r), .int (iI (((cel (τ 4) (0 + f * 6 + (1 + r))) + d) + d))]) (n := 3) F hw hl.1 (K_atx (X := X) (τ := τ) (r := r) (p := (((cel (τ 4) (0 + f * 6 + (1 + r))) + d) + d)) F.l0 (by omega) (by omega)) (lr44 7 rfl) (lr44 8 rfl) (lr44 9 rfl) (lr44 3 rfl) ⟨by decide, by decide, by decide +kernel⟩ rfl ⟨Nat.le_of_ble_eq_true rfl, Nat.le_of_ble_eq_true rfl, Nat.le_of_ble_eq_true rfl, Nat.le_of_ble_eq_true rfl⟩ (Nat.le_of_ble_eq_true rfl) (by decide +kernel) rfl (fun v9 V9 hG H locs hw => ?_)
              obtain ⟨rfl, rfl⟩ := hG
              refine W.eq (g2 := F0 m 170 ls [.int (iI (if 0 ≤ (((cel (τ 4) (0 + f * 6 + (1 + r))) + d) + d) ∧ (((cel (τ 4) (0 + f * 6 + (1 + r))) + d) + d) < 12 then whz (τ 4) r (((cel (τ 4) (0 + f * 6 + (1 + r))) + d) + d) else -11))]) rfl ?_
              have hwx : whz (τ 4) r (cel (τ 4) (0 + f * 6 + (1 + r)) + d + d) = cel (τ 4) (48 + r * 12 + (cel (τ 4) (0 + f * 6 + (1 + r)) + d + d)) ∨ ¬ (0 ≤ cel (τ 4) (0 + f * 6 + (1 + r)) + d + d ∧ cel (τ 4) (0 + f * 6 + (1 + r)) + d + d < 12) := by unfold whz; split; exact Or.inl rfl; exact Or.inr (by omega)
              have hw2 := hS.wh (p := cel (τ 4) (0 + f * 6 + (1 + r)) + d + d) hr
              have hif : (if 0 ≤ cel (τ 4) (0 + f * 6 + (1 + r)) + d + d ∧ cel (τ 4) (0 + f * 6 + (1 + r)) + d + d < 12 then whz (τ 4) r (cel (τ 4) (0 + f * 6 + (1 + r)) + d + d) else -11) = -1 ↔ ((0 ≤ cel (τ 4) (0 + f * 6 + (1 + r)) + d + d ∧ cel (τ 4) (0 + f * 6 + (1 + r)) + d + d < 12) ∧ cel (τ 4) (48 + r * 12 + (cel (τ 4) (0 + f * 6 + (1 + r)) + d + d)) = -1) := by split <;> omega
              generalize hz9 : (if 0 ≤ cel (τ 4) (0 + f * 6 + (1 + r)) + d + d ∧ cel (τ 4) (0 + f * 6 + (1 + r)) + d + d < 12 then whz (τ 4) r (cel (τ 4) (0 + f * 6 + (1 + r)) + d + d) else -11) = z9 at hif ⊢
              have hb9 : -11 ≤ z9 ∧ z9 ≤ 8 := by rw [← hz9]; split <;> omega
              refine lv_iconst hx hb (n := (-1)) (v := iI (-1)) (by decide +kernel) rfl ?_
              refine lz_icmp_eq hx hb (a := z9) (b := (-1)) (off := 12) (tgt := 183) (by decide +kernel) (by decide) ⟨by omega, by omega⟩ ⟨by decide, by decide⟩ (fun h8 => ?_) (fun h8 => ?_)
              ·
                refine lv_iconst hx hb (n := 0) (v := iI 0) (by decide +kernel) rfl ?_
                exact lk_iret F hlk hrt hw rfl (rv_of (hnd_0 (by unfold oco; rw [if_neg hq, if_neg (by omega), if_neg (by omega)]; (repeat' split) <;> omega))) (Nat.le_of_ble_eq_true rfl) (Nat.le_of_ble_eq_true rfl) (by decide +kernel)
              ·
                refine lv_sipush hx hb (n := 1600) (v := iI 1600) (by decide +kernel) (by decide) ?_
                refine lv_iload hx hb (i := 5) (x := iI ((cel (τ 4) (0 + f * 6 + (1 + r))) + d)) (by decide +kernel) (lv_at hl 1 rfl) ?_
                refine lz_iadd hx hb (a := 1600) (b := ((cel (τ 4) (0 + f * 6 + (1 + r))) + d)) (by decide +kernel) ?_
                refine lv_goto hx hb (off := 4) (tgt := 184) (by decide +kernel) (by decide) ?_
                exact lk_iret F hlk hrt hw rfl (rv_of (hnd_x (k := 16) (by unfold oco; rw [if_neg hq, if_neg (by omega), if_neg (by omega), if_neg (by omega), if_neg (by omega), if_pos (by omega)]) (by decide) rfl)) (Nat.le_of_ble_eq_true rfl) (Nat.le_of_ble_eq_true rfl) (by decide +kernel)
          ·
            refine lv_iload hx hb (i := 6) (x := iI (whz (τ 4) r ((cel (τ 4) (0 + f * 6 + (1 + r))) + d))) (by decide +kernel) (lv_at hl 0 rfl) ?_
            refine lv_bipush hx hb (n := 8) (v := iI 8) (by decide +kernel) (by decide) ?_
            refine lz_icmp_ge hx hb (a := (whz (τ 4) r ((cel (τ 4) (0 + f * 6 + (1 + r))) + d))) (b := 8) (off := 26) (tgt := 156) (by decide +kernel) (by decide) ⟨by omega, by omega⟩ ⟨by decide, by decide⟩ (fun h9 => ?_) (fun h9 => ?_)
            ·
              refine lv_iload hx hb (i := 6) (x := iI (whz (τ 4) r ((cel (τ 4) (0 + f * 6 + (1 + r))) + d))) (by decide +kernel) (lv_at hl 0 rfl) ?_
              refine lz_if_lt hx hb (a := (whz (τ 4) r ((cel (τ 4) (0 + f * 6 + (1 + r))) + d))) (off := 25) (tgt := 183) (by decide +kernel) (by decide) ⟨by omega, by omega⟩ (fun h10 => ?_) (fun h10 => ?_)
              ·
                refine lv_iconst hx hb (n := 0) (v := iI 0) (by decide +kernel) rfl ?_
                exact lk_iret F hlk hrt hw rfl (rv_of (hnd_0 (by unfold oco; rw [if_neg hq, if_neg (by omega), if_neg (by omega)]; (repeat' split) <;> omega))) (Nat.le_of_ble_eq_true rfl) (Nat.le_of_ble_eq_true rfl) (by decide +kernel)
              ·
                refine lv_aload_n hx hb (k := 0) (i := 0) (x := ad 0) (by decide +kernel) rfl (lv_at hl 3 rfl) ?_
                refine lv_iload_n hx hb (k := 2) (i := 2) (x := iI r) (by decide +kernel) rfl (lv_at hl 5 rfl) ?_
                refine lv_iload hx hb (i := 5) (x := iI ((cel (τ 4) (0 + f * 6 + (1 + r))) + d)) (by decide +kernel) (lv_at hl 1 rfl) ?_
                refine lv_iload_n hx hb (k := 3) (i := 3) (x := iI d) (by decide +kernel) rfl (lv_at hl 6 rfl) ?_
                refine lz_iadd hx hb (a := ((cel (τ 4) (0 + f * 6 + (1 + r))) + d)) (b := d) (by decide +kernel) ?_
                refine lk_callH (x := 171) (rest := []) (as := [.ref (ad 0), .int (iI r), .int (iI (((cel (τ 4) (0 + f * 6 + (1 + r))) + d) + d))]) (n := 3) F hw hl.1 (K_atx (X := X) (τ := τ) (r := r) (p := (((cel (τ 4) (0 + f * 6 + (1 + r))) + d) + d)) F.l0 (by omega) (by omega)) (lr44 7 rfl) (lr44 8 rfl) (lr44 9 rfl) (lr44 3 rfl) ⟨by decide, by decide, by decide +kernel⟩ rfl ⟨Nat.le_of_ble_eq_true rfl, Nat.le_of_ble_eq_true rfl, Nat.le_of_ble_eq_true rfl, Nat.le_of_ble_eq_true rfl⟩ (Nat.le_of_ble_eq_true rfl) (by decide +kernel) rfl (fun v9 V9 hG H locs hw => ?_)
                obtain ⟨rfl, rfl⟩ := hG
                refine W.eq (g2 := F0 m 170 ls [.int (iI (if 0 ≤ (((cel (τ 4) (0 + f * 6 + (1 + r))) + d) + d) ∧ (((cel (τ 4) (0 + f * 6 + (1 + r))) + d) + d) < 12 then whz (τ 4) r (((cel (τ 4) (0 + f * 6 + (1 + r))) + d) + d) else -11))]) rfl ?_
                have hwx : whz (τ 4) r (cel (τ 4) (0 + f * 6 + (1 + r)) + d + d) = cel (τ 4) (48 + r * 12 + (cel (τ 4) (0 + f * 6 + (1 + r)) + d + d)) ∨ ¬ (0 ≤ cel (τ 4) (0 + f * 6 + (1 + r)) + d + d ∧ cel (τ 4) (0 + f * 6 + (1 + r)) + d + d < 12) := by unfold whz; split; exact Or.inl rfl; exact Or.inr (by omega)
                have hw2 := hS.wh (p := cel (τ 4) (0 + f * 6 + (1 + r)) + d + d) hr
                have hif : (if 0 ≤ cel (τ 4) (0 + f * 6 + (1 + r)) + d + d ∧ cel (τ 4) (0 + f * 6 + (1 + r)) + d + d < 12 then whz (τ 4) r (cel (τ 4) (0 + f * 6 + (1 + r)) + d + d) else -11) = -1 ↔ ((0 ≤ cel (τ 4) (0 + f * 6 + (1 + r)) + d + d ∧ cel (τ 4) (0 + f * 6 + (1 + r)) + d + d < 12) ∧ cel (τ 4) (48 + r * 12 + (cel (τ 4) (0 + f * 6 + (1 + r)) + d + d)) = -1) := by split <;> omega
                generalize hz9 : (if 0 ≤ cel (τ 4) (0 + f * 6 + (1 + r)) + d + d ∧ cel (τ 4) (0 + f * 6 + (1 + r)) + d + d < 12 then whz (τ 4) r (cel (τ 4) (0 + f * 6 + (1 + r)) + d + d) else -11) = z9 at hif ⊢
                have hb9 : -11 ≤ z9 ∧ z9 ≤ 8 := by rw [← hz9]; split <;> omega
                refine lv_iconst hx hb (n := (-1)) (v := iI (-1)) (by decide +kernel) rfl ?_
                refine lz_icmp_eq hx hb (a := z9) (b := (-1)) (off := 12) (tgt := 183) (by decide +kernel) (by decide) ⟨by omega, by omega⟩ ⟨by decide, by decide⟩ (fun h11 => ?_) (fun h11 => ?_)
                ·
                  refine lv_iconst hx hb (n := 0) (v := iI 0) (by decide +kernel) rfl ?_
                  exact lk_iret F hlk hrt hw rfl (rv_of (hnd_0 (by unfold oco; rw [if_neg hq, if_neg (by omega), if_neg (by omega)]; (repeat' split) <;> omega))) (Nat.le_of_ble_eq_true rfl) (Nat.le_of_ble_eq_true rfl) (by decide +kernel)
                ·
                  refine lv_sipush hx hb (n := 1600) (v := iI 1600) (by decide +kernel) (by decide) ?_
                  refine lv_iload hx hb (i := 5) (x := iI ((cel (τ 4) (0 + f * 6 + (1 + r))) + d)) (by decide +kernel) (lv_at hl 1 rfl) ?_
                  refine lz_iadd hx hb (a := 1600) (b := ((cel (τ 4) (0 + f * 6 + (1 + r))) + d)) (by decide +kernel) ?_
                  refine lv_goto hx hb (off := 4) (tgt := 184) (by decide +kernel) (by decide) ?_
                  exact lk_iret F hlk hrt hw rfl (rv_of (hnd_x (k := 16) (by unfold oco; rw [if_neg hq, if_neg (by omega), if_neg (by omega), if_neg (by omega), if_neg (by omega), if_pos (by omega)]) (by decide) rfl)) (Nat.le_of_ble_eq_true rfl) (Nat.le_of_ble_eq_true rfl) (by decide +kernel)
            ·
              refine lv_aload_n hx hb (k := 0) (i := 0) (x := ad 0) (by decide +kernel) rfl (lv_at hl 3 rfl) ?_
              refine lv_iload hx hb (i := 6) (x := iI (whz (τ 4) r ((cel (τ 4) (0 + f * 6 + (1 + r))) + d))) (by decide +kernel) (lv_at hl 0 rfl) ?_
              refine lv_iconst hx hb (n := 0) (v := iI 0) (by decide +kernel) rfl ?_
              refine lk_callH (x := 163) (rest := []) (as := [.ref (ad 0), .int (iI (whz (τ 4) r ((cel (τ 4) (0 + f * 6 + (1 + r))) + d))), .int (iI 0)]) (n := 3) F hw hl.1 (K_of (X := X) (τ := τ) (f := (whz (τ 4) r ((cel (τ 4) (0 + f * 6 + (1 + r))) + d))) (w := 0) (B := B) F.l0 (by omega) (by omega) hS) (lr44 0 rfl) (lr44 1 rfl) (lr44 2 rfl) (lr44 3 rfl) ⟨by decide, by decide, by decide +kernel⟩ rfl ⟨Nat.le_of_ble_eq_true rfl, Nat.le_of_ble_eq_true rfl, Nat.le_of_ble_eq_true rfl, Nat.le_of_ble_eq_true rfl⟩ (Nat.le_of_ble_eq_true rfl) (by decide +kernel) rfl (fun v9 V9 hG H locs hw => ?_)
              obtain ⟨rfl, rfl⟩ := hG
              refine W.eq (g2 := F0 m 140 ls [.int (iI (cel (τ 4) (0 + (whz (τ 4) r ((cel (τ 4) (0 + f * 6 + (1 + r))) + d)) * 6 + 0)))]) rfl ?_
              have hsw := hs0 (whz (τ 4) r (cel (τ 4) (0 + f * 6 + (1 + r)) + d)) (by omega) (by omega)
              refine lv_aload_n hx hb (k := 0) (i := 0) (x := ad 0) (by decide +kernel) rfl (lv_at hl 3 rfl) ?_
              refine lv_iload_n hx hb (k := 1) (i := 1) (x := iI f) (by decide +kernel) rfl (lv_at hl 4 rfl) ?_
              refine lv_iconst hx hb (n := 0) (v := iI 0) (by decide +kernel) rfl ?_
              refine lk_callH (x := 163) (rest := [.int (iI (cel (τ 4) (0 + (whz (τ 4) r ((cel (τ 4) (0 + f * 6 + (1 + r))) + d)) * 6 + 0)))]) (as := [.ref (ad 0), .int (iI f), .int (iI 0)]) (n := 3) F hw hl.1 (K_of (X := X) (τ := τ) (f := f) (w := 0) (B := B) F.l0 (by omega) (by omega) hS) (lr44 0 rfl) (lr44 1 rfl) (lr44 2 rfl) (lr44 3 rfl) ⟨by decide, by decide, by decide +kernel⟩ rfl ⟨Nat.le_of_ble_eq_true rfl, Nat.le_of_ble_eq_true rfl, Nat.le_of_ble_eq_true rfl, Nat.le_of_ble_eq_true rfl⟩ (Nat.le_of_ble_eq_true rfl) (by decide +kernel) rfl (fun v9 V9 hG H locs hw => ?_)
              obtain ⟨rfl, rfl⟩ := hG
              refine W.eq (g2 := F0 m 146 ls [.int (iI (cel (τ 4) (0 + f * 6 + 0))), .int (iI (cel (τ 4) (0 + (whz (τ 4) r ((cel (τ 4) (0 + f * 6 + (1 + r))) + d)) * 6 + 0)))]) rfl ?_
              refine lz_icmp_ne hx hb (a := (cel (τ 4) (0 + (whz (τ 4) r ((cel (τ 4) (0 + f * 6 + (1 + r))) + d)) * 6 + 0))) (b := (cel (τ 4) (0 + f * 6 + 0))) (off := 10) (tgt := 156) (by decide +kernel) (by decide) ⟨by omega, by omega⟩ ⟨by omega, by omega⟩ (fun h12 => ?_) (fun h12 => ?_)
              ·
                refine lv_iload hx hb (i := 6) (x := iI (whz (τ 4) r ((cel (τ 4) (0 + f * 6 + (1 + r))) + d))) (by decide +kernel) (lv_at hl 0 rfl) ?_
                refine lz_if_lt hx hb (a := (whz (τ 4) r ((cel (τ 4) (0 + f * 6 + (1 + r))) + d))) (off := 25) (tgt := 183) (by decide +kernel) (by decide) ⟨by omega, by omega⟩ (fun h13 => ?_) (fun h13 => ?_)
                ·
                  refine lv_iconst hx hb (n := 0) (v := iI 0) (by decide +kernel) rfl ?_
                  exact lk_iret F hlk hrt hw rfl (rv_of (hnd_0 (by unfold oco; rw [if_neg hq, if_neg (by omega), if_neg (by omega)]; (repeat' split) <;> omega))) (Nat.le_of_ble_eq_true rfl) (Nat.le_of_ble_eq_true rfl) (by decide +kernel)
                ·
                  refine lv_aload_n hx hb (k := 0) (i := 0) (x := ad 0) (by decide +kernel) rfl (lv_at hl 3 rfl) ?_
                  refine lv_iload_n hx hb (k := 2) (i := 2) (x := iI r) (by decide +kernel) rfl (lv_at hl 5 rfl) ?_
                  refine lv_iload hx hb (i := 5) (x := iI ((cel (τ 4) (0 + f * 6 + (1 + r))) + d)) (by decide +kernel) (lv_at hl 1 rfl) ?_
                  refine lv_iload_n hx hb (k := 3) (i := 3) (x := iI d) (by decide +kernel) rfl (lv_at hl 6 rfl) ?_
                  refine lz_iadd hx hb (a := ((cel (τ 4) (0 + f * 6 + (1 + r))) + d)) (b := d) (by decide +kernel) ?_
                  refine lk_callH (x := 171) (rest := []) (as := [.ref (ad 0), .int (iI r), .int (iI (((cel (τ 4) (0 + f * 6 + (1 + r))) + d) + d))]) (n := 3) F hw hl.1 (K_atx (X := X) (τ := τ) (r := r) (p := (((cel (τ 4) (0 + f * 6 + (1 + r))) + d) + d)) F.l0 (by omega) (by omega)) (lr44 7 rfl) (lr44 8 rfl) (lr44 9 rfl) (lr44 3 rfl) ⟨by decide, by decide, by decide +kernel⟩ rfl ⟨Nat.le_of_ble_eq_true rfl, Nat.le_of_ble_eq_true rfl, Nat.le_of_ble_eq_true rfl, Nat.le_of_ble_eq_true rfl⟩ (Nat.le_of_ble_eq_true rfl) (by decide +kernel) rfl (fun v9 V9 hG H locs hw => ?_)
                  obtain ⟨rfl, rfl⟩ := hG
                  refine W.eq (g2 := F0 m 170 ls [.int (iI (if 0 ≤ (((cel (τ 4) (0 + f * 6 + (1 + r))) + d) + d) ∧ (((cel (τ 4) (0 + f * 6 + (1 + r))) + d) + d) < 12 then whz (τ 4) r (((cel (τ 4) (0 + f * 6 + (1 + r))) + d) + d) else -11))]) rfl ?_
                  have hwx : whz (τ 4) r (cel (τ 4) (0 + f * 6 + (1 + r)) + d + d) = cel (τ 4) (48 + r * 12 + (cel (τ 4) (0 + f * 6 + (1 + r)) + d + d)) ∨ ¬ (0 ≤ cel (τ 4) (0 + f * 6 + (1 + r)) + d + d ∧ cel (τ 4) (0 + f * 6 + (1 + r)) + d + d < 12) := by unfold whz; split; exact Or.inl rfl; exact Or.inr (by omega)
                  have hw2 := hS.wh (p := cel (τ 4) (0 + f * 6 + (1 + r)) + d + d) hr
                  have hif : (if 0 ≤ cel (τ 4) (0 + f * 6 + (1 + r)) + d + d ∧ cel (τ 4) (0 + f * 6 + (1 + r)) + d + d < 12 then whz (τ 4) r (cel (τ 4) (0 + f * 6 + (1 + r)) + d + d) else -11) = -1 ↔ ((0 ≤ cel (τ 4) (0 + f * 6 + (1 + r)) + d + d ∧ cel (τ 4) (0 + f * 6 + (1 + r)) + d + d < 12) ∧ cel (τ 4) (48 + r * 12 + (cel (τ 4) (0 + f * 6 + (1 + r)) + d + d)) = -1) := by split <;> omega
                  generalize hz9 : (if 0 ≤ cel (τ 4) (0 + f * 6 + (1 + r)) + d + d ∧ cel (τ 4) (0 + f * 6 + (1 + r)) + d + d < 12 then whz (τ 4) r (cel (τ 4) (0 + f * 6 + (1 + r)) + d + d) else -11) = z9 at hif ⊢
                  have hb9 : -11 ≤ z9 ∧ z9 ≤ 8 := by rw [← hz9]; split <;> omega
                  refine lv_iconst hx hb (n := (-1)) (v := iI (-1)) (by decide +kernel) rfl ?_
                  refine lz_icmp_eq hx hb (a := z9) (b := (-1)) (off := 12) (tgt := 183) (by decide +kernel) (by decide) ⟨by omega, by omega⟩ ⟨by decide, by decide⟩ (fun h14 => ?_) (fun h14 => ?_)
                  ·
                    refine lv_iconst hx hb (n := 0) (v := iI 0) (by decide +kernel) rfl ?_
                    exact lk_iret F hlk hrt hw rfl (rv_of (hnd_0 (by unfold oco; rw [if_neg hq, if_neg (by omega), if_neg (by omega)]; (repeat' split) <;> omega))) (Nat.le_of_ble_eq_true rfl) (Nat.le_of_ble_eq_true rfl) (by decide +kernel)
                  ·
                    refine lv_sipush hx hb (n := 1600) (v := iI 1600) (by decide +kernel) (by decide) ?_
                    refine lv_iload hx hb (i := 5) (x := iI ((cel (τ 4) (0 + f * 6 + (1 + r))) + d)) (by decide +kernel) (lv_at hl 1 rfl) ?_
                    refine lz_iadd hx hb (a := 1600) (b := ((cel (τ 4) (0 + f * 6 + (1 + r))) + d)) (by decide +kernel) ?_
                    refine lv_goto hx hb (off := 4) (tgt := 184) (by decide +kernel) (by decide) ?_
                    exact lk_iret F hlk hrt hw rfl (rv_of (hnd_x (k := 16) (by unfold oco; rw [if_neg hq, if_neg (by omega), if_neg (by omega), if_neg (by omega), if_neg (by omega), if_pos (by omega)]) (by decide) rfl)) (Nat.le_of_ble_eq_true rfl) (Nat.le_of_ble_eq_true rfl) (by decide +kernel)
              ·
                refine lv_sipush hx hb (n := 1500) (v := iI 1500) (by decide +kernel) (by decide) ?_
                refine lv_iload hx hb (i := 6) (x := iI (whz (τ 4) r ((cel (τ 4) (0 + f * 6 + (1 + r))) + d))) (by decide +kernel) (lv_at hl 0 rfl) ?_
                refine lz_iadd hx hb (a := 1500) (b := (whz (τ 4) r ((cel (τ 4) (0 + f * 6 + (1 + r))) + d))) (by decide +kernel) ?_
                exact lk_iret F hlk hrt hw rfl (rv_of (hnd_x (k := 15) (by unfold oco; rw [if_neg hq, if_neg (by omega), if_neg (by omega), if_neg (by omega), if_pos (by omega)]) (by decide) rfl)) (Nat.le_of_ble_eq_true rfl) (Nat.le_of_ble_eq_true rfl) (by decide +kernel)
        ·
          refine lv_sipush hx hb (n := 1400) (v := iI 1400) (by decide +kernel) (by decide) ?_
          refine lv_iload hx hb (i := 4) (x := iI (cel (τ 4) (0 + f * 6 + (1 + r)))) (by decide +kernel) (lv_at hl 1 rfl) ?_
          refine lz_iadd hx hb (a := 1400) (b := (cel (τ 4) (0 + f * 6 + (1 + r)))) (by decide +kernel) ?_
          exact lk_iret F hlk hrt hw rfl (rv_of (hnd_x (k := 14) (by unfold oco; rw [if_neg hq, if_neg (by omega), if_pos (by omega)]) (by decide) rfl)) (Nat.le_of_ble_eq_true rfl) (Nat.le_of_ble_eq_true rfl) (by decide +kernel)
    ·
      refine lv_iload_n hx hb (k := 3) (i := 3) (x := iI d) (by decide +kernel) rfl (lv_at hl 5 rfl) ?_
      refine lv_iconst hx hb (n := 1) (v := iI 1) (by decide +kernel) rfl ?_
      refine lv_iconst hx hb (n := 2) (v := iI 2) (by decide +kernel) rfl ?_
      refine lv_aload_n hx hb (k := 0) (i := 0) (x := ad 0) (by decide +kernel) rfl (lv_at hl 2 rfl) ?_
      refine lv_iload_n hx hb (k := 1) (i := 1) (x := iI f) (by decide +kernel) rfl (lv_at hl 3 rfl) ?_
      refine lv_iconst hx hb (n := 0) (v := iI 0) (by decide +kernel) rfl ?_
      refine lk_callH (x := 163) (rest := [.int (iI 2), .int (iI 1), .int (iI d)]) (as := [.ref (ad 0), .int (iI f), .int (iI 0)]) (n := 3) F hw hl.1 (K_of (X := X) (τ := τ) (f := f) (w := 0) (B := B) F.l0 (by omega) (by omega) hS) (lr44 0 rfl) (lr44 1 rfl) (lr44 2 rfl) (lr44 3 rfl) ⟨by decide, by decide, by decide +kernel⟩ rfl ⟨Nat.le_of_ble_eq_true rfl, Nat.le_of_ble_eq_true rfl, Nat.le_of_ble_eq_true rfl, Nat.le_of_ble_eq_true rfl⟩ (Nat.le_of_ble_eq_true rfl) (by decide +kernel) rfl (fun v9 V9 hG H locs hw => ?_)
      obtain ⟨rfl, rfl⟩ := hG
      refine W.eq (g2 := F0 m 81 ls [.int (iI (cel (τ 4) (0 + f * 6 + 0))), .int (iI 2), .int (iI 1), .int (iI d)]) rfl ?_
      refine lz_imul hx hb (a := 2) (b := (cel (τ 4) (0 + f * 6 + 0))) (by decide +kernel) ?_
      refine lz_isub hx hb (a := 1) (b := (2 * (cel (τ 4) (0 + f * 6 + 0)))) (by decide +kernel) ?_
      refine lz_icmp_eq hx hb (a := d) (b := (1 - (2 * (cel (τ 4) (0 + f * 6 + 0))))) (off := 10) (tgt := 93) (by decide +kernel) (by decide) ⟨by omega, by omega⟩ ⟨by omega, by omega⟩ (fun h15 => ?_) (fun h15 => ?_)
      ·
        refine lv_iload hx hb (i := 5) (x := iI ((cel (τ 4) (0 + f * 6 + (1 + r))) + d)) (by decide +kernel) (lv_at hl 0 rfl) ?_
        refine lz_if_lt hx hb (a := ((cel (τ 4) (0 + f * 6 + (1 + r))) + d)) (off := 10) (tgt := 105) (by decide +kernel) (by decide) ⟨by omega, by omega⟩ (fun h16 => ?_) (fun h16 => ?_)
        ·
          refine lv_sipush hx hb (n := 1400) (v := iI 1400) (by decide +kernel) (by decide) ?_
          refine lv_iload hx hb (i := 4) (x := iI (cel (τ 4) (0 + f * 6 + (1 + r)))) (by decide +kernel) (lv_at hl 1 rfl) ?_
          refine lz_iadd hx hb (a := 1400) (b := (cel (τ 4) (0 + f * 6 + (1 + r)))) (by decide +kernel) ?_
          exact lk_iret F hlk hrt hw rfl (rv_of (hnd_x (k := 14) (by unfold oco; rw [if_neg hq, if_neg (by omega), if_pos (by omega)]) (by decide) rfl)) (Nat.le_of_ble_eq_true rfl) (Nat.le_of_ble_eq_true rfl) (by decide +kernel)
        ·
          refine lv_iload hx hb (i := 5) (x := iI ((cel (τ 4) (0 + f * 6 + (1 + r))) + d)) (by decide +kernel) (lv_at hl 0 rfl) ?_
          refine lv_bipush hx hb (n := 11) (v := iI 11) (by decide +kernel) (by decide) ?_
          refine lz_icmp_le hx hb (a := ((cel (τ 4) (0 + f * 6 + (1 + r))) + d)) (b := 11) (off := 10) (tgt := 112) (by decide +kernel) (by decide) ⟨by omega, by omega⟩ ⟨by decide, by decide⟩ (fun h17 => ?_) (fun h17 => ?_)
          ·
            refine lv_aload_n hx hb (k := 0) (i := 0) (x := ad 0) (by decide +kernel) rfl (lv_at hl 2 rfl) ?_
            refine lv_iload_n hx hb (k := 2) (i := 2) (x := iI r) (by decide +kernel) rfl (lv_at hl 4 rfl) ?_
            refine lv_iload hx hb (i := 5) (x := iI ((cel (τ 4) (0 + f * 6 + (1 + r))) + d)) (by decide +kernel) (lv_at hl 0 rfl) ?_
            refine lk_callH (x := 171) (rest := []) (as := [.ref (ad 0), .int (iI r), .int (iI ((cel (τ 4) (0 + f * 6 + (1 + r))) + d))]) (n := 3) F hw hl.1 (K_at (X := X) (τ := τ) (r := r) (p := ((cel (τ 4) (0 + f * 6 + (1 + r))) + d)) F.l0 (by omega) (by omega)) (lr44 7 rfl) (lr44 8 rfl) (lr44 9 rfl) (lr44 3 rfl) ⟨by decide, by decide, by decide +kernel⟩ rfl ⟨Nat.le_of_ble_eq_true rfl, Nat.le_of_ble_eq_true rfl, Nat.le_of_ble_eq_true rfl, Nat.le_of_ble_eq_true rfl⟩ (Nat.le_of_ble_eq_true rfl) (by decide +kernel) rfl (fun v9 V9 hG H locs hw => ?_)
            obtain ⟨rfl, rfl⟩ := hG
            refine W.eq (g2 := F0 m 119 ls [.int (iI (whz (τ 4) r ((cel (τ 4) (0 + f * 6 + (1 + r))) + d)))]) rfl ?_
            refine lv_istore hx hb (i := 6) (lv' := [(6, .int (iI (whz (τ 4) r ((cel (τ 4) (0 + f * 6 + (1 + r))) + d)))), (5, .int (iI ((cel (τ 4) (0 + f * 6 + (1 + r))) + d))), (4, .int (iI (cel (τ 4) (0 + f * 6 + (1 + r))))), (0, .ref (ad 0)), (1, .int (iI f)), (2, .int (iI r)), (3, .int (iI d))]) (by decide +kernel) hl (by decide) rfl (fun ls hl => ?_)
            refine lv_iload hx hb (i := 6) (x := iI (whz (τ 4) r ((cel (τ 4) (0 + f * 6 + (1 + r))) + d))) (by decide +kernel) (lv_at hl 0 rfl) ?_
            refine lz_if_lt hx hb (a := (whz (τ 4) r ((cel (τ 4) (0 + f * 6 + (1 + r))) + d))) (off := 33) (tgt := 156) (by decide +kernel) (by decide) ⟨by omega, by omega⟩ (fun h18 => ?_) (fun h18 => ?_)
            ·
              refine lv_iload hx hb (i := 6) (x := iI (whz (τ 4) r ((cel (τ 4) (0 + f * 6 + (1 + r))) + d))) (by decide +kernel) (lv_at hl 0 rfl) ?_
              refine lz_if_lt hx hb (a := (whz (τ 4) r ((cel (τ 4) (0 + f * 6 + (1 + r))) + d))) (off := 25) (tgt := 183) (by decide +kernel) (by decide) ⟨by omega, by omega⟩ (fun h19 => ?_) (fun h19 => ?_)
              ·
                refine lv_iconst hx hb (n := 0) (v := iI 0) (by decide +kernel) rfl ?_
                exact lk_iret F hlk hrt hw rfl (rv_of (hnd_0 (by unfold oco; rw [if_neg hq, if_neg (by omega), if_neg (by omega)]; (repeat' split) <;> omega))) (Nat.le_of_ble_eq_true rfl) (Nat.le_of_ble_eq_true rfl) (by decide +kernel)
              ·
                refine lv_aload_n hx hb (k := 0) (i := 0) (x := ad 0) (by decide +kernel) rfl (lv_at hl 3 rfl) ?_
                refine lv_iload_n hx hb (k := 2) (i := 2) (x := iI r) (by decide +kernel) rfl (lv_at hl 5 rfl) ?_
                refine lv_iload hx hb (i := 5) (x := iI ((cel (τ 4) (0 + f * 6 + (1 + r))) + d)) (by decide +kernel) (lv_at hl 1 rfl) ?_
                refine lv_iload_n hx hb (k := 3) (i := 3) (x := iI d) (by decide +kernel) rfl (lv_at hl 6 rfl) ?_
                refine lz_iadd hx hb (a := ((cel (τ 4) (0 + f * 6 + (1 + r))) + d)) (b := d) (by decide +kernel) ?_
                refine lk_callH (x := 171) (rest := []) (as := [.ref (ad 0), .int (iI r), .int (iI (((cel (τ 4) (0 + f * 6 + (1 + r))) + d) + d))]) (n := 3) F hw hl.1 (K_atx (X := X) (τ := τ) (r := r) (p := (((cel (τ 4) (0 + f * 6 + (1 + r))) + d) + d)) F.l0 (by omega) (by omega)) (lr44 7 rfl) (lr44 8 rfl) (lr44 9 rfl) (lr44 3 rfl) ⟨by decide, by decide, by decide +kernel⟩ rfl ⟨Nat.le_of_ble_eq_true rfl, Nat.le_of_ble_eq_true rfl, Nat.le_of_ble_eq_true rfl, Nat.le_of_ble_eq_true rfl⟩ (Nat.le_of_ble_eq_true rfl) (by decide +kernel) rfl (fun v9 V9 hG H locs hw => ?_)
                obtain ⟨rfl, rfl⟩ := hG
                refine W.eq (g2 := F0 m 170 ls [.int (iI (if 0 ≤ (((cel (τ 4) (0 + f * 6 + (1 + r))) + d) + d) ∧ (((cel (τ 4) (0 + f * 6 + (1 + r))) + d) + d) < 12 then whz (τ 4) r (((cel (τ 4) (0 + f * 6 + (1 + r))) + d) + d) else -11))]) rfl ?_
                have hwx : whz (τ 4) r (cel (τ 4) (0 + f * 6 + (1 + r)) + d + d) = cel (τ 4) (48 + r * 12 + (cel (τ 4) (0 + f * 6 + (1 + r)) + d + d)) ∨ ¬ (0 ≤ cel (τ 4) (0 + f * 6 + (1 + r)) + d + d ∧ cel (τ 4) (0 + f * 6 + (1 + r)) + d + d < 12) := by unfold whz; split; exact Or.inl rfl; exact Or.inr (by omega)
                have hw2 := hS.wh (p := cel (τ 4) (0 + f * 6 + (1 + r)) + d + d) hr
                have hif : (if 0 ≤ cel (τ 4) (0 + f * 6 + (1 + r)) + d + d ∧ cel (τ 4) (0 + f * 6 + (1 + r)) + d + d < 12 then whz (τ 4) r (cel (τ 4) (0 + f * 6 + (1 + r)) + d + d) else -11) = -1 ↔ ((0 ≤ cel (τ 4) (0 + f * 6 + (1 + r)) + d + d ∧ cel (τ 4) (0 + f * 6 + (1 + r)) + d + d < 12) ∧ cel (τ 4) (48 + r * 12 + (cel (τ 4) (0 + f * 6 + (1 + r)) + d + d)) = -1) := by split <;> omega
                generalize hz9 : (if 0 ≤ cel (τ 4) (0 + f * 6 + (1 + r)) + d + d ∧ cel (τ 4) (0 + f * 6 + (1 + r)) + d + d < 12 then whz (τ 4) r (cel (τ 4) (0 + f * 6 + (1 + r)) + d + d) else -11) = z9 at hif ⊢
                have hb9 : -11 ≤ z9 ∧ z9 ≤ 8 := by rw [← hz9]; split <;> omega
                refine lv_iconst hx hb (n := (-1)) (v := iI (-1)) (by decide +kernel) rfl ?_
                refine lz_icmp_eq hx hb (a := z9) (b := (-1)) (off := 12) (tgt := 183) (by decide +kernel) (by decide) ⟨by omega, by omega⟩ ⟨by decide, by decide⟩ (fun h20 => ?_) (fun h20 => ?_)
                ·
                  refine lv_iconst hx hb (n := 0) (v := iI 0) (by decide +kernel) rfl ?_
                  exact lk_iret F hlk hrt hw rfl (rv_of (hnd_0 (by unfold oco; rw [if_neg hq, if_neg (by omega), if_neg (by omega)]; (repeat' split) <;> omega))) (Nat.le_of_ble_eq_true rfl) (Nat.le_of_ble_eq_true rfl) (by decide +kernel)
                ·
                  refine lv_sipush hx hb (n := 1600) (v := iI 1600) (by decide +kernel) (by decide) ?_
                  refine lv_iload hx hb (i := 5) (x := iI ((cel (τ 4) (0 + f * 6 + (1 + r))) + d)) (by decide +kernel) (lv_at hl 1 rfl) ?_
                  refine lz_iadd hx hb (a := 1600) (b := ((cel (τ 4) (0 + f * 6 + (1 + r))) + d)) (by decide +kernel) ?_
                  refine lv_goto hx hb (off := 4) (tgt := 184) (by decide +kernel) (by decide) ?_
                  exact lk_iret F hlk hrt hw rfl (rv_of (hnd_x (k := 16) (by unfold oco; rw [if_neg hq, if_neg (by omega), if_neg (by omega), if_neg (by omega), if_neg (by omega), if_pos (by omega)]) (by decide) rfl)) (Nat.le_of_ble_eq_true rfl) (Nat.le_of_ble_eq_true rfl) (by decide +kernel)
            ·
              refine lv_iload hx hb (i := 6) (x := iI (whz (τ 4) r ((cel (τ 4) (0 + f * 6 + (1 + r))) + d))) (by decide +kernel) (lv_at hl 0 rfl) ?_
              refine lv_bipush hx hb (n := 8) (v := iI 8) (by decide +kernel) (by decide) ?_
              refine lz_icmp_ge hx hb (a := (whz (τ 4) r ((cel (τ 4) (0 + f * 6 + (1 + r))) + d))) (b := 8) (off := 26) (tgt := 156) (by decide +kernel) (by decide) ⟨by omega, by omega⟩ ⟨by decide, by decide⟩ (fun h21 => ?_) (fun h21 => ?_)
              ·
                refine lv_iload hx hb (i := 6) (x := iI (whz (τ 4) r ((cel (τ 4) (0 + f * 6 + (1 + r))) + d))) (by decide +kernel) (lv_at hl 0 rfl) ?_
                refine lz_if_lt hx hb (a := (whz (τ 4) r ((cel (τ 4) (0 + f * 6 + (1 + r))) + d))) (off := 25) (tgt := 183) (by decide +kernel) (by decide) ⟨by omega, by omega⟩ (fun h22 => ?_) (fun h22 => ?_)
                ·
                  refine lv_iconst hx hb (n := 0) (v := iI 0) (by decide +kernel) rfl ?_
                  exact lk_iret F hlk hrt hw rfl (rv_of (hnd_0 (by unfold oco; rw [if_neg hq, if_neg (by omega), if_neg (by omega)]; (repeat' split) <;> omega))) (Nat.le_of_ble_eq_true rfl) (Nat.le_of_ble_eq_true rfl) (by decide +kernel)
                ·
                  refine lv_aload_n hx hb (k := 0) (i := 0) (x := ad 0) (by decide +kernel) rfl (lv_at hl 3 rfl) ?_
                  refine lv_iload_n hx hb (k := 2) (i := 2) (x := iI r) (by decide +kernel) rfl (lv_at hl 5 rfl) ?_
                  refine lv_iload hx hb (i := 5) (x := iI ((cel (τ 4) (0 + f * 6 + (1 + r))) + d)) (by decide +kernel) (lv_at hl 1 rfl) ?_
                  refine lv_iload_n hx hb (k := 3) (i := 3) (x := iI d) (by decide +kernel) rfl (lv_at hl 6 rfl) ?_
                  refine lz_iadd hx hb (a := ((cel (τ 4) (0 + f * 6 + (1 + r))) + d)) (b := d) (by decide +kernel) ?_
                  refine lk_callH (x := 171) (rest := []) (as := [.ref (ad 0), .int (iI r), .int (iI (((cel (τ 4) (0 + f * 6 + (1 + r))) + d) + d))]) (n := 3) F hw hl.1 (K_atx (X := X) (τ := τ) (r := r) (p := (((cel (τ 4) (0 + f * 6 + (1 + r))) + d) + d)) F.l0 (by omega) (by omega)) (lr44 7 rfl) (lr44 8 rfl) (lr44 9 rfl) (lr44 3 rfl) ⟨by decide, by decide, by decide +kernel⟩ rfl ⟨Nat.le_of_ble_eq_true rfl, Nat.le_of_ble_eq_true rfl, Nat.le_of_ble_eq_true rfl, Nat.le_of_ble_eq_true rfl⟩ (Nat.le_of_ble_eq_true rfl) (by decide +kernel) rfl (fun v9 V9 hG H locs hw => ?_)
                  obtain ⟨rfl, rfl⟩ := hG
                  refine W.eq (g2 := F0 m 170 ls [.int (iI (if 0 ≤ (((cel (τ 4) (0 + f * 6 + (1 + r))) + d) + d) ∧ (((cel (τ 4) (0 + f * 6 + (1 + r))) + d) + d) < 12 then whz (τ 4) r (((cel (τ 4) (0 + f * 6 + (1 + r))) + d) + d) else -11))]) rfl ?_
                  have hwx : whz (τ 4) r (cel (τ 4) (0 + f * 6 + (1 + r)) + d + d) = cel (τ 4) (48 + r * 12 + (cel (τ 4) (0 + f * 6 + (1 + r)) + d + d)) ∨ ¬ (0 ≤ cel (τ 4) (0 + f * 6 + (1 + r)) + d + d ∧ cel (τ 4) (0 + f * 6 + (1 + r)) + d + d < 12) := by unfold whz; split; exact Or.inl rfl; exact Or.inr (by omega)
                  have hw2 := hS.wh (p := cel (τ 4) (0 + f * 6 + (1 + r)) + d + d) hr
                  have hif : (if 0 ≤ cel (τ 4) (0 + f * 6 + (1 + r)) + d + d ∧ cel (τ 4) (0 + f * 6 + (1 + r)) + d + d < 12 then whz (τ 4) r (cel (τ 4) (0 + f * 6 + (1 + r)) + d + d) else -11) = -1 ↔ ((0 ≤ cel (τ 4) (0 + f * 6 + (1 + r)) + d + d ∧ cel (τ 4) (0 + f * 6 + (1 + r)) + d + d < 12) ∧ cel (τ 4) (48 + r * 12 + (cel (τ 4) (0 + f * 6 + (1 + r)) + d + d)) = -1) := by split <;> omega
                  generalize hz9 : (if 0 ≤ cel (τ 4) (0 + f * 6 + (1 + r)) + d + d ∧ cel (τ 4) (0 + f * 6 + (1 + r)) + d + d < 12 then whz (τ 4) r (cel (τ 4) (0 + f * 6 + (1 + r)) + d + d) else -11) = z9 at hif ⊢
                  have hb9 : -11 ≤ z9 ∧ z9 ≤ 8 := by rw [← hz9]; split <;> omega
                  refine lv_iconst hx hb (n := (-1)) (v := iI (-1)) (by decide +kernel) rfl ?_
                  refine lz_icmp_eq hx hb (a := z9) (b := (-1)) (off := 12) (tgt := 183) (by decide +kernel) (by decide) ⟨by omega, by omega⟩ ⟨by decide, by decide⟩ (fun h23 => ?_) (fun h23 => ?_)
                  ·
                    refine lv_iconst hx hb (n := 0) (v := iI 0) (by decide +kernel) rfl ?_
                    exact lk_iret F hlk hrt hw rfl (rv_of (hnd_0 (by unfold oco; rw [if_neg hq, if_neg (by omega), if_neg (by omega)]; (repeat' split) <;> omega))) (Nat.le_of_ble_eq_true rfl) (Nat.le_of_ble_eq_true rfl) (by decide +kernel)
                  ·
                    refine lv_sipush hx hb (n := 1600) (v := iI 1600) (by decide +kernel) (by decide) ?_
                    refine lv_iload hx hb (i := 5) (x := iI ((cel (τ 4) (0 + f * 6 + (1 + r))) + d)) (by decide +kernel) (lv_at hl 1 rfl) ?_
                    refine lz_iadd hx hb (a := 1600) (b := ((cel (τ 4) (0 + f * 6 + (1 + r))) + d)) (by decide +kernel) ?_
                    refine lv_goto hx hb (off := 4) (tgt := 184) (by decide +kernel) (by decide) ?_
                    exact lk_iret F hlk hrt hw rfl (rv_of (hnd_x (k := 16) (by unfold oco; rw [if_neg hq, if_neg (by omega), if_neg (by omega), if_neg (by omega), if_neg (by omega), if_pos (by omega)]) (by decide) rfl)) (Nat.le_of_ble_eq_true rfl) (Nat.le_of_ble_eq_true rfl) (by decide +kernel)
              ·
                refine lv_aload_n hx hb (k := 0) (i := 0) (x := ad 0) (by decide +kernel) rfl (lv_at hl 3 rfl) ?_
                refine lv_iload hx hb (i := 6) (x := iI (whz (τ 4) r ((cel (τ 4) (0 + f * 6 + (1 + r))) + d))) (by decide +kernel) (lv_at hl 0 rfl) ?_
                refine lv_iconst hx hb (n := 0) (v := iI 0) (by decide +kernel) rfl ?_
                refine lk_callH (x := 163) (rest := []) (as := [.ref (ad 0), .int (iI (whz (τ 4) r ((cel (τ 4) (0 + f * 6 + (1 + r))) + d))), .int (iI 0)]) (n := 3) F hw hl.1 (K_of (X := X) (τ := τ) (f := (whz (τ 4) r ((cel (τ 4) (0 + f * 6 + (1 + r))) + d))) (w := 0) (B := B) F.l0 (by omega) (by omega) hS) (lr44 0 rfl) (lr44 1 rfl) (lr44 2 rfl) (lr44 3 rfl) ⟨by decide, by decide, by decide +kernel⟩ rfl ⟨Nat.le_of_ble_eq_true rfl, Nat.le_of_ble_eq_true rfl, Nat.le_of_ble_eq_true rfl, Nat.le_of_ble_eq_true rfl⟩ (Nat.le_of_ble_eq_true rfl) (by decide +kernel) rfl (fun v9 V9 hG H locs hw => ?_)
                obtain ⟨rfl, rfl⟩ := hG
                refine W.eq (g2 := F0 m 140 ls [.int (iI (cel (τ 4) (0 + (whz (τ 4) r ((cel (τ 4) (0 + f * 6 + (1 + r))) + d)) * 6 + 0)))]) rfl ?_
                have hsw := hs0 (whz (τ 4) r (cel (τ 4) (0 + f * 6 + (1 + r)) + d)) (by omega) (by omega)
                refine lv_aload_n hx hb (k := 0) (i := 0) (x := ad 0) (by decide +kernel) rfl (lv_at hl 3 rfl) ?_
                refine lv_iload_n hx hb (k := 1) (i := 1) (x := iI f) (by decide +kernel) rfl (lv_at hl 4 rfl) ?_
                refine lv_iconst hx hb (n := 0) (v := iI 0) (by decide +kernel) rfl ?_
                refine lk_callH (x := 163) (rest := [.int (iI (cel (τ 4) (0 + (whz (τ 4) r ((cel (τ 4) (0 + f * 6 + (1 + r))) + d)) * 6 + 0)))]) (as := [.ref (ad 0), .int (iI f), .int (iI 0)]) (n := 3) F hw hl.1 (K_of (X := X) (τ := τ) (f := f) (w := 0) (B := B) F.l0 (by omega) (by omega) hS) (lr44 0 rfl) (lr44 1 rfl) (lr44 2 rfl) (lr44 3 rfl) ⟨by decide, by decide, by decide +kernel⟩ rfl ⟨Nat.le_of_ble_eq_true rfl, Nat.le_of_ble_eq_true rfl, Nat.le_of_ble_eq_true rfl, Nat.le_of_ble_eq_true rfl⟩ (Nat.le_of_ble_eq_true rfl) (by decide +kernel) rfl (fun v9 V9 hG H locs hw => ?_)
                obtain ⟨rfl, rfl⟩ := hG
                refine W.eq (g2 := F0 m 146 ls [.int (iI (cel (τ 4) (0 + f * 6 + 0))), .int (iI (cel (τ 4) (0 + (whz (τ 4) r ((cel (τ 4) (0 + f * 6 + (1 + r))) + d)) * 6 + 0)))]) rfl ?_
                refine lz_icmp_ne hx hb (a := (cel (τ 4) (0 + (whz (τ 4) r ((cel (τ 4) (0 + f * 6 + (1 + r))) + d)) * 6 + 0))) (b := (cel (τ 4) (0 + f * 6 + 0))) (off := 10) (tgt := 156) (by decide +kernel) (by decide) ⟨by omega, by omega⟩ ⟨by omega, by omega⟩ (fun h24 => ?_) (fun h24 => ?_)
                ·
                  refine lv_iload hx hb (i := 6) (x := iI (whz (τ 4) r ((cel (τ 4) (0 + f * 6 + (1 + r))) + d))) (by decide +kernel) (lv_at hl 0 rfl) ?_
                  refine lz_if_lt hx hb (a := (whz (τ 4) r ((cel (τ 4) (0 + f * 6 + (1 + r))) + d))) (off := 25) (tgt := 183) (by decide +kernel) (by decide) ⟨by omega, by omega⟩ (fun h25 => ?_) (fun h25 => ?_)
                  ·
                    refine lv_iconst hx hb (n := 0) (v := iI 0) (by decide +kernel) rfl ?_
                    exact lk_iret F hlk hrt hw rfl (rv_of (hnd_0 (by unfold oco; rw [if_neg hq, if_neg (by omega), if_neg (by omega)]; (repeat' split) <;> omega))) (Nat.le_of_ble_eq_true rfl) (Nat.le_of_ble_eq_true rfl) (by decide +kernel)
                  ·
                    refine lv_aload_n hx hb (k := 0) (i := 0) (x := ad 0) (by decide +kernel) rfl (lv_at hl 3 rfl) ?_
                    refine lv_iload_n hx hb (k := 2) (i := 2) (x := iI r) (by decide +kernel) rfl (lv_at hl 5 rfl) ?_
                    refine lv_iload hx hb (i := 5) (x := iI ((cel (τ 4) (0 + f * 6 + (1 + r))) + d)) (by decide +kernel) (lv_at hl 1 rfl) ?_
                    refine lv_iload_n hx hb (k := 3) (i := 3) (x := iI d) (by decide +kernel) rfl (lv_at hl 6 rfl) ?_
                    refine lz_iadd hx hb (a := ((cel (τ 4) (0 + f * 6 + (1 + r))) + d)) (b := d) (by decide +kernel) ?_
                    refine lk_callH (x := 171) (rest := []) (as := [.ref (ad 0), .int (iI r), .int (iI (((cel (τ 4) (0 + f * 6 + (1 + r))) + d) + d))]) (n := 3) F hw hl.1 (K_atx (X := X) (τ := τ) (r := r) (p := (((cel (τ 4) (0 + f * 6 + (1 + r))) + d) + d)) F.l0 (by omega) (by omega)) (lr44 7 rfl) (lr44 8 rfl) (lr44 9 rfl) (lr44 3 rfl) ⟨by decide, by decide, by decide +kernel⟩ rfl ⟨Nat.le_of_ble_eq_true rfl, Nat.le_of_ble_eq_true rfl, Nat.le_of_ble_eq_true rfl, Nat.le_of_ble_eq_true rfl⟩ (Nat.le_of_ble_eq_true rfl) (by decide +kernel) rfl (fun v9 V9 hG H locs hw => ?_)
                    obtain ⟨rfl, rfl⟩ := hG
                    refine W.eq (g2 := F0 m 170 ls [.int (iI (if 0 ≤ (((cel (τ 4) (0 + f * 6 + (1 + r))) + d) + d) ∧ (((cel (τ 4) (0 + f * 6 + (1 + r))) + d) + d) < 12 then whz (τ 4) r (((cel (τ 4) (0 + f * 6 + (1 + r))) + d) + d) else -11))]) rfl ?_
                    have hwx : whz (τ 4) r (cel (τ 4) (0 + f * 6 + (1 + r)) + d + d) = cel (τ 4) (48 + r * 12 + (cel (τ 4) (0 + f * 6 + (1 + r)) + d + d)) ∨ ¬ (0 ≤ cel (τ 4) (0 + f * 6 + (1 + r)) + d + d ∧ cel (τ 4) (0 + f * 6 + (1 + r)) + d + d < 12) := by unfold whz; split; exact Or.inl rfl; exact Or.inr (by omega)
                    have hw2 := hS.wh (p := cel (τ 4) (0 + f * 6 + (1 + r)) + d + d) hr
                    have hif : (if 0 ≤ cel (τ 4) (0 + f * 6 + (1 + r)) + d + d ∧ cel (τ 4) (0 + f * 6 + (1 + r)) + d + d < 12 then whz (τ 4) r (cel (τ 4) (0 + f * 6 + (1 + r)) + d + d) else -11) = -1 ↔ ((0 ≤ cel (τ 4) (0 + f * 6 + (1 + r)) + d + d ∧ cel (τ 4) (0 + f * 6 + (1 + r)) + d + d < 12) ∧ cel (τ 4) (48 + r * 12 + (cel (τ 4) (0 + f * 6 + (1 + r)) + d + d)) = -1) := by split <;> omega
                    generalize hz9 : (if 0 ≤ cel (τ 4) (0 + f * 6 + (1 + r)) + d + d ∧ cel (τ 4) (0 + f * 6 + (1 + r)) + d + d < 12 then whz (τ 4) r (cel (τ 4) (0 + f * 6 + (1 + r)) + d + d) else -11) = z9 at hif ⊢
                    have hb9 : -11 ≤ z9 ∧ z9 ≤ 8 := by rw [← hz9]; split <;> omega
                    refine lv_iconst hx hb (n := (-1)) (v := iI (-1)) (by decide +kernel) rfl ?_
                    refine lz_icmp_eq hx hb (a := z9) (b := (-1)) (off := 12) (tgt := 183) (by decide +kernel) (by decide) ⟨by omega, by omega⟩ ⟨by decide, by decide⟩ (fun h26 => ?_) (fun h26 => ?_)
                    ·
                      refine lv_iconst hx hb (n := 0) (v := iI 0) (by decide +kernel) rfl ?_
                      exact lk_iret F hlk hrt hw rfl (rv_of (hnd_0 (by unfold oco; rw [if_neg hq, if_neg (by omega), if_neg (by omega)]; (repeat' split) <;> omega))) (Nat.le_of_ble_eq_true rfl) (Nat.le_of_ble_eq_true rfl) (by decide +kernel)
                    ·
                      refine lv_sipush hx hb (n := 1600) (v := iI 1600) (by decide +kernel) (by decide) ?_
                      refine lv_iload hx hb (i := 5) (x := iI ((cel (τ 4) (0 + f * 6 + (1 + r))) + d)) (by decide +kernel) (lv_at hl 1 rfl) ?_
                      refine lz_iadd hx hb (a := 1600) (b := ((cel (τ 4) (0 + f * 6 + (1 + r))) + d)) (by decide +kernel) ?_
                      refine lv_goto hx hb (off := 4) (tgt := 184) (by decide +kernel) (by decide) ?_
                      exact lk_iret F hlk hrt hw rfl (rv_of (hnd_x (k := 16) (by unfold oco; rw [if_neg hq, if_neg (by omega), if_neg (by omega), if_neg (by omega), if_neg (by omega), if_pos (by omega)]) (by decide) rfl)) (Nat.le_of_ble_eq_true rfl) (Nat.le_of_ble_eq_true rfl) (by decide +kernel)
                ·
                  refine lv_sipush hx hb (n := 1500) (v := iI 1500) (by decide +kernel) (by decide) ?_
                  refine lv_iload hx hb (i := 6) (x := iI (whz (τ 4) r ((cel (τ 4) (0 + f * 6 + (1 + r))) + d))) (by decide +kernel) (lv_at hl 0 rfl) ?_
                  refine lz_iadd hx hb (a := 1500) (b := (whz (τ 4) r ((cel (τ 4) (0 + f * 6 + (1 + r))) + d))) (by decide +kernel) ?_
                  exact lk_iret F hlk hrt hw rfl (rv_of (hnd_x (k := 15) (by unfold oco; rw [if_neg hq, if_neg (by omega), if_neg (by omega), if_neg (by omega), if_pos (by omega)]) (by decide) rfl)) (Nat.le_of_ble_eq_true rfl) (Nat.le_of_ble_eq_true rfl) (by decide +kernel)
          ·
            refine lv_sipush hx hb (n := 1400) (v := iI 1400) (by decide +kernel) (by decide) ?_
            refine lv_iload hx hb (i := 4) (x := iI (cel (τ 4) (0 + f * 6 + (1 + r)))) (by decide +kernel) (lv_at hl 1 rfl) ?_
            refine lz_iadd hx hb (a := 1400) (b := (cel (τ 4) (0 + f * 6 + (1 + r)))) (by decide +kernel) ?_
            exact lk_iret F hlk hrt hw rfl (rv_of (hnd_x (k := 14) (by unfold oco; rw [if_neg hq, if_neg (by omega), if_pos (by omega)]) (by decide) rfl)) (Nat.le_of_ble_eq_true rfl) (Nat.le_of_ble_eq_true rfl) (by decide +kernel)
      ·
        refine lv_sipush hx hb (n := 1300) (v := iI 1300) (by decide +kernel) (by decide) ?_
        refine lv_iload hx hb (i := 4) (x := iI (cel (τ 4) (0 + f * 6 + (1 + r)))) (by decide +kernel) (lv_at hl 1 rfl) ?_
        refine lz_iadd hx hb (a := 1300) (b := (cel (τ 4) (0 + f * 6 + (1 + r)))) (by decide +kernel) ?_
        exact lk_iret F hlk hrt hw rfl (rv_of (hnd_x (k := 13) (by unfold oco; rw [if_neg hq, if_pos (by omega)]) (by decide) rfl)) (Nat.le_of_ble_eq_true rfl) (Nat.le_of_ble_eq_true rfl) (by decide +kernel)
theorem K_far {X : va_W} {τ : SZ} {f B : Int} (hl0 : l.stackTraces = false) (hf : 0 ≤ f ∧ f < cel (τ 4) 107) (hS : Sh B (τ 4)) : LK l D A ad adV cA (.code yL_far method_41_code 3 (some .int)) yL_far 24 6 36 [.ref (ad 0), .int (iI f)] (wO ad cA (sz τ) ++ X) (RV ad cA X (wcm (τ 4) f) τ) := by
  refine lk_of hl0 rfl ?_ (Nat.le_of_ble_eq_true rfl)
  rintro p e s m args below meth c F hlk hrt hw ls hl
  have hl : lv_has ls 3 [(0, .ref (ad 0)), (1, .int (iI f))] := hl
  have hx := F.1
  have hb := F.2.1
  have hn := hS.n
  have hp := hS.p1 (f := f) ⟨by omega, by omega⟩
  have hp2 := hS.p2 (f := f) ⟨by omega, by omega⟩
  have hsd := hS.sd (f := f) ⟨by omega, by omega⟩
  refine lv_aload_n hx hb (k := 0) (i := 0) (x := ad 0) (by decide +kernel) rfl (lv_at hl 0 rfl) ?_
  refine lv_iload_n hx hb (k := 1) (i := 1) (x := iI f) (by decide +kernel) rfl (lv_at hl 1 rfl) ?_
  refine lv_iconst hx hb (n := 0) (v := iI 0) (by decide +kernel) rfl ?_
  refine lk_call (x := 166) (rest := []) (as := [.ref (ad 0), .int (iI f), .int (iI 0)]) (n := 3) F hw hl.1 (K_placeOf (X := X) (τ := τ) (f := f) (r := 0) (B := B) F.l0 (by omega) (by omega) hS) (lr44 4 rfl) (lr44 5 rfl) (lr44 6 rfl) (lr44 3 rfl) ⟨rfl, by decide, by decide, by decide +kernel⟩ rfl ⟨Nat.le_of_ble_eq_true rfl, Nat.le_of_ble_eq_true rfl, Nat.le_of_ble_eq_true rfl, Nat.le_of_ble_eq_true rfl⟩ (Nat.le_of_ble_eq_true rfl) (by decide +kernel) rfl (fun v9 V9 hG H locs hw => ?_)
  obtain ⟨rfl, rfl⟩ := hG
  refine W.eq (g2 := F0 m 6 ls [.int (iI (cel (τ 4) (0 + f * 6 + (1 + 0))))]) rfl ?_
  refine lv_aload_n hx hb (k := 0) (i := 0) (x := ad 0) (by decide +kernel) rfl (lv_at hl 0 rfl) ?_
  refine lv_iload_n hx hb (k := 1) (i := 1) (x := iI f) (by decide +kernel) rfl (lv_at hl 1 rfl) ?_
  refine lv_iconst hx hb (n := 1) (v := iI 1) (by decide +kernel) rfl ?_
  refine lk_call (x := 166) (rest := [.int (iI (cel (τ 4) (0 + f * 6 + (1 + 0))))]) (as := [.ref (ad 0), .int (iI f), .int (iI 1)]) (n := 3) F hw hl.1 (K_placeOf (X := X) (τ := τ) (f := f) (r := 1) (B := B) F.l0 (by omega) (by omega) hS) (lr44 4 rfl) (lr44 5 rfl) (lr44 6 rfl) (lr44 3 rfl) ⟨rfl, by decide, by decide, by decide +kernel⟩ rfl ⟨Nat.le_of_ble_eq_true rfl, Nat.le_of_ble_eq_true rfl, Nat.le_of_ble_eq_true rfl, Nat.le_of_ble_eq_true rfl⟩ (Nat.le_of_ble_eq_true rfl) (by decide +kernel) rfl (fun v9 V9 hG H locs hw => ?_)
  obtain ⟨rfl, rfl⟩ := hG
  refine W.eq (g2 := F0 m 12 ls [.int (iI (cel (τ 4) (0 + f * 6 + (1 + 1)))), .int (iI (cel (τ 4) (0 + f * 6 + (1 + 0))))]) rfl ?_
  refine lz_iadd hx hb (a := (cel (τ 4) (0 + f * 6 + (1 + 0)))) (b := (cel (τ 4) (0 + f * 6 + (1 + 1)))) (by decide +kernel) ?_
  refine lv_istore_n hx hb (k := 2) (i := 2) (lv' := [(2, .int (iI ((cel (τ 4) (0 + f * 6 + (1 + 0))) + (cel (τ 4) (0 + f * 6 + (1 + 1)))))), (0, .ref (ad 0)), (1, .int (iI f))]) (by decide +kernel) rfl hl (by decide) rfl (fun ls hl => ?_)
  refine lv_aload_n hx hb (k := 0) (i := 0) (x := ad 0) (by decide +kernel) rfl (lv_at hl 1 rfl) ?_
  refine lv_iload_n hx hb (k := 1) (i := 1) (x := iI f) (by decide +kernel) rfl (lv_at hl 2 rfl) ?_
  refine lv_iconst hx hb (n := 0) (v := iI 0) (by decide +kernel) rfl ?_
  refine lk_callH (x := 163) (rest := []) (as := [.ref (ad 0), .int (iI f), .int (iI 0)]) (n := 3) F hw hl.1 (K_of (X := X) (τ := τ) (f := f) (w := 0) (B := B) F.l0 (by omega) (by omega) hS) (lr44 0 rfl) (lr44 1 rfl) (lr44 2 rfl) (lr44 3 rfl) ⟨by decide, by decide, by decide +kernel⟩ rfl ⟨Nat.le_of_ble_eq_true rfl, Nat.le_of_ble_eq_true rfl, Nat.le_of_ble_eq_true rfl, Nat.le_of_ble_eq_true rfl⟩ (Nat.le_of_ble_eq_true rfl) (by decide +kernel) rfl (fun v9 V9 hG H locs hw => ?_)
  obtain ⟨rfl, rfl⟩ := hG
  refine W.eq (g2 := F0 m 20 ls [.int (iI (cel (τ 4) (0 + f * 6 + 0)))]) rfl ?_
  refine lz_if_ne hx hb (a := (cel (τ 4) (0 + f * 6 + 0))) (off := 7) (tgt := 27) (by decide +kernel) (by decide) ⟨by omega, by omega⟩ (fun h1 => ?_) (fun h1 => ?_)
  ·
    refine lv_bipush hx hb (n := 22) (v := iI 22) (by decide +kernel) (by decide) ?_
    refine lv_iload_n hx hb (k := 2) (i := 2) (x := iI ((cel (τ 4) (0 + f * 6 + (1 + 0))) + (cel (τ 4) (0 + f * 6 + (1 + 1))))) (by decide +kernel) rfl (lv_at hl 0 rfl) ?_
    refine lz_isub hx hb (a := 22) (b := ((cel (τ 4) (0 + f * 6 + (1 + 0))) + (cel (τ 4) (0 + f * 6 + (1 + 1))))) (by decide +kernel) ?_
    exact lk_iret F hlk hrt hw rfl (rv_of (by unfold wcm; first | (rw [if_pos (by omega)]; try rfl) | (rw [if_neg (by omega)]; try rfl))) (Nat.le_of_ble_eq_true rfl) (Nat.le_of_ble_eq_true rfl) (by decide +kernel)
  ·
    refine lv_iload_n hx hb (k := 2) (i := 2) (x := iI ((cel (τ 4) (0 + f * 6 + (1 + 0))) + (cel (τ 4) (0 + f * 6 + (1 + 1))))) (by decide +kernel) rfl (lv_at hl 0 rfl) ?_
    refine lv_goto hx hb (off := 7) (tgt := 31) (by decide +kernel) (by decide) ?_
    exact lk_iret F hlk hrt hw rfl (rv_of (by unfold wcm; first | (rw [if_pos (by omega)]; try rfl) | (rw [if_neg (by omega)]; try rfl))) (Nat.le_of_ble_eq_true rfl) (Nat.le_of_ble_eq_true rfl) (by decide +kernel)
end HND
