/-! the calls of doubles, the second side -/
section DBM
variable {l : Launch} {D : va_G} {A : Nat → Prop} {ad adV : Nat → Nat} {cA : Nat → ClassId}
def F21 : List (Option Nat) := [some 22, some 23, some 24, some 25, none, some 26, none, none, some 27, none, none, some 28, none, some 29, none, none, none, none, some 30, none]
abbrev f21 (ad : Nat → Nat) (σ : Sg) : List Value := (List.range 20).map (fun j => vv ad (fv F21 (σ 21) j))
theorem put21 {σ : Sg} {X : va_W} {v : Int32} : (wO ad cA σ ++ X).set 21 (ad 21, .inr (8, (f21 ad σ).set 7 (.int v))) = wO ad cA (sr σ 21 (upd (σ 21) 7 v)) ++ X := by
  rw [List.set_append_left _ _ (by rw [wO_len31]; omega), ← wO_set (k := 21) (q := .inl (8, F21)) (f := upd (σ 21) 7 v) rfl]
  congr 2
theorem get21 {σ : Sg} {X : va_W} : (wO ad cA σ ++ X)[21]? = some (ad 21, .inr (8, f21 ad σ)) := ap_l (wO_get (k := 21) (q := .inl (8, F21)) rfl)
theorem get22 {σ : Sg} {X : va_W} : (wO ad cA σ ++ X)[22]? = some (ad 22, .inl (cA 0, 109, .inl (σ 22))) := ap_l (wO_get (k := 22) (q := .inr (0, 109)) rfl)
def dML : List Jvm.Cond := [.fieldLink RX8 9 RX8 (TX8 0).2.1 (TX8 0).2.2.1, .fieldLink RX8 42 RX8 (TX8 7).2.1 (TX8 7).2.2.1, .methodLink RX8 70 (mY m8_of), .instanceMethod (mY m8_of), .selects (mY m8_of).cls (mY m8_of) (mY m8_of), .methodLink RX8 266 (mY m8_count), .instanceMethod (mY m8_count), .selects (mY m8_count).cls (mY m8_count) (mY m8_count)]
theorem dM_in : ∀ w ∈ dML, w ∈ lw_tbl := by decide +kernel
theorem dm (k : Nat) {w : Jvm.Cond} (h : dML[k]? = some w) : w ∈ lw_tbl := dM_in w (List.mem_of_getElem? h)
def thn (τ : SZ) (N : Nat) : SZ := zr τ 21 (zu (τ 21) 7 (if N = 0 then 1 else 0))
theorem thn_sz {τ : SZ} {N : Nat} {v : Int32} (h : v = iI (if N = 0 then 1 else 0)) : sr (sz τ) 21 (upd (sz τ 21) 7 v) = sz (thn τ N) := by
  subst h
  exact sz_zr
set_option maxHeartbeats 2000000 in
theorem dm_king (hl0 : l.stackTraces = false) {τ : SZ} {X : va_W} {N : Nat} {B : Int} (hI : Iv B (τ 4)) (hR : Rs (τ 4) (τ 22)) (hN : cel (τ 4) 107 = (N : Int)) (h8 : N ≤ 8) : DC l D A ad adV cA yX8_kingShare cX8_kingShare 2 .float [.ref (ad 21)] (wO ad cA (sz τ) ++ X) (fun v V' => (∃ x, v = .float x ∧ (¬ N = 0 → x = FP.fdiv (FP.i2f (iI (sm (fun k => b2 (cel (τ 4) (0 + (k : Int) * 6 + 3) = 1)) N))) (FP.i2f (iI (N : Int))))) ∧ V' = wO ad cA (sz (thn τ N)) ++ X) False := by
  refine dc_of (by decide) ?_ (Nat.le_of_ble_eq_true rfl)
  rintro p e R s m args below meth c rfl hx hb hml hown hts hlk hrt htab ⟨hP, hK, hD, hWX, hA, hNC⟩ ls hl
  have hl : lv_has ls 2 [(0, .ref (ad 21))] := hl
  have hS : va_S A s.heap s.heap [] := va_S.rf
  have hown : s.vm.findClass RX8 = some m.cls := hown
  have hn0 : sz τ 22 0 = iI (N : Int) := by
    show iI (τ 22 0) = _
    rw [hR.n (by omega), hN]
  have t1 : RR 3 m8_count [.inl 21, .inr 3, .inr 1] (sz (thn τ N)) (.inl (some (.inr (iI (sm (fun k => b2 (cel (τ 4) (0 + (k : Int) * 6 + 3) = 1)) N))), sz (thn τ N))) := by
    have h := RZ_ok _ _ _ _ _ (m_count_31 (τ := thn τ N) (c := τ 4) hI (show Rs (τ 4) (τ 22) from hR))
    rw [hN] at h
    exact h
  refine lv_aload_n hx hb (k := 0) (i := 0) (x := ad 21) (by decide +kernel) rfl (lv_at hl 0 rfl) ?_
  refine va_get (D := D) (ci := 8) (v := .ref (ad 22)) (C := RX8) (T := TX8) (N := 20) hx hb hts (c_uws (c := 8) (by decide)) hown hK hP 21 get21 rfl 0 (by decide) (ts_of hts (dm 0 rfl) rfl) (fun _ h9 => h9) rfl (by decide +kernel) ?_
  refine lv_iconst hx hb (n := 0) (v := 0) (by decide +kernel) rfl ?_
  refine va_iald hx hb hK hP 22 0 get22 rfl (vp_in_iff.mpr (by decide)) (by decide +kernel) ?_
  refine W.eq (g2 := F0 m 6 ls [.int (iI (N : Int))]) (by rw [← hn0]; rfl) ?_
  refine lv_istore_n hx hb (k := 1) (i := 1) (lv' := [(1, .int (iI (N : Int))), (0, .ref (ad 21))]) (by decide +kernel) rfl hl (by decide) rfl (fun ls hl => ?_)
  refine lv_aload_n hx hb (k := 0) (i := 0) (x := ad 21) (by decide +kernel) rfl (lv_at hl 1 rfl) ?_
  refine lv_iload_n hx hb (k := 1) (i := 1) (x := iI (N : Int)) (by decide +kernel) rfl (lv_at hl 0 rfl) ?_
  have go : ∀ v : Int32, v = iI (if N = 0 then 1 else 0) → W p l e { frames := 14, cells := 1, slots := 6, locals := 900 } s m args below meth c s.heap [] 0 0 (vx_MQ below (fun _ st o t => ∃ v V', o = .returned (some v) ∧ ((∃ x, v = .float x ∧ (¬ N = 0 → x = FP.fdiv (FP.i2f (iI (sm (fun k => b2 (cel (τ 4) (0 + (k : Int) * 6 + 3) = 1)) N))) (FP.i2f (iI (N : Int))))) ∧ V' = wO ad cA (sz (thn τ N)) ++ X) ∧ va_P D cls9 V' t.heap ∧ va_D A V' ∧ va_F A st t) (fun E st t => (False ∧ E = AEx) ∧ va_P D cls9 (wO ad cA (sz τ) ++ X) t.heap ∧ va_F A st t) args s 1 6 A) (F0 m 17 ls [.int v, .ref (ad 21)]) := by
    intro v hv
    refine va_put (D := D) (ci := 8) (v := .int v) (ty := tyX8 7) (C := RX8) (T := TX8) (N := 20) hx hb hts (c_uws (c := 8) (by decide)) tyX8 tyX8_ok nmX8 hown hK hP hD hS 21 get21 rfl 7 (by decide) (ts_of hts (dm 1 rfl) rfl) (fun _ h9 => h9) rfl (tyX8_ok 7 (by decide)) rfl rfl (by show 7 < (f21 ad (sz τ)).length; simp) (by decide +kernel) (fun H locs hP hD hS => ?_)
    rw [put21, thn_sz hv] at hP hD
    have hth : sz (thn τ N) 21 7 = iI (if N = 0 then 1 else 0) := rfl
    refine lv_aload_n hx hb (k := 0) (i := 0) (x := ad 21) (by decide +kernel) rfl (lv_at hl 1 rfl) ?_
    refine va_get (D := D) (ci := 8) (v := .int (iI (if N = 0 then 1 else 0))) (C := RX8) (T := TX8) (N := 20) hx hb hts (c_uws (c := 8) (by decide)) hown hK hP 21 get21 rfl 7 (by decide) (ts_of hts (dm 1 rfl) rfl) (fun _ h9 => h9) rfl (by decide +kernel) ?_
    by_cases hN0 : N = 0
    · rw [if_pos hN0]
      refine lv_if_le hx hb (off := 7) (tgt := 31) (by decide +kernel) (by decide) (fun h => absurd h (by decide)) (fun _ => ?_)
      refine lv_fconst0 hx hb (by decide +kernel) ?_
      refine lv_goto hx hb (off := 13) (tgt := 41) (by decide +kernel) (by decide) ?_
      refine W.widen (k := 1) (n := 6) (by decide) (by decide) ?_
      exact vx_ret (W.fret hx hb hrt (fun t ht hW => ⟨_, _, rfl, ⟨⟨_, rfl, fun h => absurd hN0 h⟩, rfl⟩, by rw [ht]; exact hP, hD, hS.F ht⟩) hS.2.2 (by decide +kernel) hlk)
    · rw [if_neg hN0]
      have hz : iI (N : Int) ≠ 0 := fun h => by
        have h9 := congrArg Int32.toInt h
        rw [iI_toInt ⟨by omega, by omega⟩, show (0 : Int32).toInt = 0 from rfl] at h9
        omega
      refine lv_if_le hx hb (off := 7) (tgt := 31) (by decide +kernel) (by decide) (fun _ => ?_) (fun h => absurd (show iI 0 ≤ 0 by decide) h)
      refine lv_aload_n hx hb (k := 0) (i := 0) (x := ad 21) (by decide +kernel) rfl (lv_at hl 1 rfl) ?_
      refine lv_iconst hx hb (n := 3) (v := 3) (by decide +kernel) rfl ?_
      refine lv_iconst hx hb (n := 1) (v := 1) (by decide +kernel) rfl ?_
      refine lcall (d := 3) (j := m8_count) (a := 21) (as := [.inr 3, .inr 1]) (X := X) (own := RX8) (x := 266) (rest := []) hl0 t1 (by decide) rfl rfl hx hts hb hown hP hD hK hWX hA hS (hl.1.trans hml.symm) (dm 5 rfl) (dm 6 rfl) (dm 7 rfl) ⟨by decide, by decide, by decide +kernel, by decide +kernel⟩ (by decide) (by decide +kernel) rfl (fun E τ e => by cases e) (fun v τ9 e H locs hP hS => ?_)
      cases e
      refine W.widen (k := 1) (n := 6) (by decide +kernel) (by decide +kernel) ?_
      refine W.eq (g2 := F0 m 37 ls [.int (iI (sm (fun k => b2 (cel (τ 4) (0 + (k : Int) * 6 + 3) = 1)) N))]) rfl ?_
      refine lv_i2f hx hb (by decide +kernel) ?_
      refine lv_iload_n hx hb (k := 1) (i := 1) (x := iI (N : Int)) (by decide +kernel) rfl (lv_at hl 0 rfl) ?_
      refine lv_i2f hx hb (by decide +kernel) ?_
      refine lv_fdiv hx hb (by decide +kernel) (Jvm.Free.Fl.fdiv_out (Jvm.Free.Fl.i2f_fin _).noNaN (Jvm.Free.Fl.i2f_fin _) (Jvm.Free.Fl.i2f_nz hz)) ?_
      exact vx_ret (W.fret hx hb hrt (fun t ht hW => ⟨_, _, rfl, ⟨⟨_, rfl, fun _ => rfl⟩, rfl⟩, by rw [ht]; exact hP, hD, hS.F ht⟩) hS.2.2 (by decide +kernel) hlk)
  refine lv_if_ne hx hb (off := 7) (tgt := 16) (by decide +kernel) (by decide) (fun hz => ?_) (fun hz => ?_)
  · refine lv_iconst hx hb (n := 0) (v := 0) (by decide +kernel) rfl ?_
    exact go 0 (by rw [if_neg (fun h => hz (by rw [h]; rfl))]; rfl)
  · refine lv_iconst hx hb (n := 1) (v := 1) (by decide +kernel) rfl ?_
    refine lv_goto hx hb (off := 4) (tgt := 17) (by decide +kernel) (by decide) ?_
    have hN0 : N = 0 := by
      have h9 := congrArg Int32.toInt hz
      rw [iI_toInt ⟨by omega, by omega⟩, show (0 : Int32).toInt = 0 from rfl] at h9
      omega
    exact go 1 (by rw [if_pos hN0]; rfl)
set_option maxHeartbeats 2000000 in
theorem dm_mean (hl0 : l.stackTraces = false) {τ : SZ} {X : va_W} {N : Nat} {B : Int} (hI : Iv B (τ 4)) (hR : Rs (τ 4) (τ 22)) (hN : cel (τ 4) 107 = (N : Int)) (h8 : N ≤ 8) : DC l D A ad adV cA yX8_meanJumps cX8_meanJumps 4 .double [.ref (ad 21)] (wO ad cA (sz τ) ++ X) (fun v V' => (∃ x, v = .double x ∧ (¬ N = 0 → x = FP.ddiv (FP.i2d (iI (sm (fun k => cel (τ 4) (0 + (k : Int) * 6 + 4)) N))) (FP.i2d (iI (N : Int))))) ∧ V' = wO ad cA (sz (thn τ N)) ++ X) False := by
  refine dc_of (by decide) ?_ (Nat.le_of_ble_eq_true rfl)
  rintro p e R s m args below meth c rfl hx hb hml hown hts hlk hrt htab ⟨hP, hK, hD, hWX, hA, hNC⟩ ls hl
  have hl : lv_has ls 4 [(0, .ref (ad 21))] := hl
  have hS : va_S A s.heap s.heap [] := va_S.rf
  have hown : s.vm.findClass RX8 = some m.cls := hown
  have hn0 : sz τ 22 0 = iI (N : Int) := by
    show iI (τ 22 0) = _
    rw [hR.n (by omega), hN]
  have t1 : ∀ z : Nat, z < N → RR 1 m8_of [.inl 21, .inr (iI (z : Int)), .inr 4] (sz (thn τ N)) (.inl (some (.inr (iI (cel (τ 4) (0 + (z : Int) * 6 + 4)))), sz (thn τ N))) := fun z hz =>
    RZ_ok _ _ _ _ _ (m_of (τ := thn τ N) (c := τ 4) (f := (z : Int)) (w := 4) hI (show Rs (τ 4) (τ 22) from hR) ⟨by omega, by omega⟩ ⟨by omega, by omega⟩)
  refine lv_aload_n hx hb (k := 0) (i := 0) (x := ad 21) (by decide +kernel) rfl (lv_at hl 0 rfl) ?_
  refine va_get (D := D) (ci := 8) (v := .ref (ad 22)) (C := RX8) (T := TX8) (N := 20) hx hb hts (c_uws (c := 8) (by decide)) hown hK hP 21 get21 rfl 0 (by decide) (ts_of hts (dm 0 rfl) rfl) (fun _ h9 => h9) rfl (by decide +kernel) ?_
  refine lv_iconst hx hb (n := 0) (v := 0) (by decide +kernel) rfl ?_
  refine va_iald hx hb hK hP 22 0 get22 rfl (vp_in_iff.mpr (by decide)) (by decide +kernel) ?_
  refine W.eq (g2 := F0 m 6 ls [.int (iI (N : Int))]) (by rw [← hn0]; rfl) ?_
  refine lv_istore_n hx hb (k := 1) (i := 1) (lv' := [(1, .int (iI (N : Int))), (0, .ref (ad 21))]) (by decide +kernel) rfl hl (by decide) rfl (fun ls hl => ?_)
  refine lv_aload_n hx hb (k := 0) (i := 0) (x := ad 21) (by decide +kernel) rfl (lv_at hl 1 rfl) ?_
  refine lv_iload_n hx hb (k := 1) (i := 1) (x := iI (N : Int)) (by decide +kernel) rfl (lv_at hl 0 rfl) ?_
  have go : ∀ v : Int32, v = iI (if N = 0 then 1 else 0) → W p l e { frames := 14, cells := 1, slots := 6, locals := 900 } s m args below meth c s.heap [] 0 0 (vx_MQ below (fun _ st o t => ∃ v V', o = .returned (some v) ∧ ((∃ x, v = .double x ∧ (¬ N = 0 → x = FP.ddiv (FP.i2d (iI (sm (fun k => cel (τ 4) (0 + (k : Int) * 6 + 4)) N))) (FP.i2d (iI (N : Int))))) ∧ V' = wO ad cA (sz (thn τ N)) ++ X) ∧ va_P D cls9 V' t.heap ∧ va_D A V' ∧ va_F A st t) (fun E st t => (False ∧ E = AEx) ∧ va_P D cls9 (wO ad cA (sz τ) ++ X) t.heap ∧ va_F A st t) args s 1 6 A) (F0 m 17 ls [.int v, .ref (ad 21)]) := by
    intro v hv
    refine va_put (D := D) (ci := 8) (v := .int v) (ty := tyX8 7) (C := RX8) (T := TX8) (N := 20) hx hb hts (c_uws (c := 8) (by decide)) tyX8 tyX8_ok nmX8 hown hK hP hD hS 21 get21 rfl 7 (by decide) (ts_of hts (dm 1 rfl) rfl) (fun _ h9 => h9) rfl (tyX8_ok 7 (by decide)) rfl rfl (by show 7 < (f21 ad (sz τ)).length; simp) (by decide +kernel) (fun H locs hP hD hS => ?_)
    rw [put21, thn_sz hv] at hP hD
    have hth : sz (thn τ N) 21 7 = iI (if N = 0 then 1 else 0) := rfl
    refine lv_iconst hx hb (n := 0) (v := 0) (by decide +kernel) rfl ?_
    refine lv_istore_n hx hb (k := 2) (i := 2) (lv' := [(2, .int (iI (sm (fun k => cel (τ 4) (0 + (k : Int) * 6 + 4)) 0))), (1, .int (iI (N : Int))), (0, .ref (ad 21))]) (by decide +kernel) rfl hl (by decide) rfl (fun ls hl => ?_)
    refine lv_iconst hx hb (n := 0) (v := 0) (by decide +kernel) rfl ?_
    refine lv_istore_n hx hb (k := 3) (i := 3) (lv' := [(3, .int (iI ((0 : Nat) : Int))), (2, .int (iI (sm (fun k => cel (τ 4) (0 + (k : Int) * 6 + 4)) 0))), (1, .int (iI (N : Int))), (0, .ref (ad 21))]) (by decide +kernel) rfl hl (by decide) rfl (fun ls hl => ?_)
    have loop : ∀ (z i : Nat) (ls : Array Slot) (H : Heap) (locs : List Loc), i + z = N → lv_has ls 4 [(3, .int (iI (i : Int))), (2, .int (iI (sm (fun k => cel (τ 4) (0 + (k : Int) * 6 + 4)) i))), (1, .int (iI (N : Int))), (0, .ref (ad 21))] → va_P D cls9 (wO ad cA (sz (thn τ N)) ++ X) H → va_D A (wO ad cA (sz (thn τ N)) ++ X) → va_S A s.heap H locs → W p l e { frames := 14, cells := 1, slots := 6, locals := 900 } s m args below meth c H locs 0 0 (vx_MQ below (fun _ st o t => ∃ v V', o = .returned (some v) ∧ ((∃ x, v = .double x ∧ (¬ N = 0 → x = FP.ddiv (FP.i2d (iI (sm (fun k => cel (τ 4) (0 + (k : Int) * 6 + 4)) N))) (FP.i2d (iI (N : Int))))) ∧ V' = wO ad cA (sz (thn τ N)) ++ X) ∧ va_P D cls9 V' t.heap ∧ va_D A V' ∧ va_F A st t) (fun E st t => (False ∧ E = AEx) ∧ va_P D cls9 (wO ad cA (sz τ) ++ X) t.heap ∧ va_F A st t) args s 1 6 A) (F0 m 24 ls []) := by
      intro z
      induction z with
      | zero =>
        intro i ls H locs hi hl hP hD hS
        have e9 : i = N := by omega
        subst e9
        refine lv_iload_n hx hb (k := 3) (i := 3) (x := iI (i : Int)) (by decide +kernel) rfl (lv_at hl 0 rfl) ?_
        refine lv_iload_n hx hb (k := 1) (i := 1) (x := iI (i : Int)) (by decide +kernel) rfl (lv_at hl 2 rfl) ?_
        refine lv_icmp_ge hx hb (off := 18) (tgt := 44) (by decide +kernel) (by decide) (fun _ => ?_) (fun h => absurd (Int32.le_refl _) h)
        refine lv_aload_n hx hb (k := 0) (i := 0) (x := ad 21) (by decide +kernel) rfl (lv_at hl 3 rfl) ?_
        refine va_get (D := D) (ci := 8) (v := .int (iI (if i = 0 then 1 else 0))) (C := RX8) (T := TX8) (N := 20) hx hb hts (c_uws (c := 8) (by decide)) hown hK hP 21 get21 rfl 7 (by decide) (ts_of hts (dm 1 rfl) rfl) (fun _ h9 => h9) rfl (by decide +kernel) ?_
        by_cases hN0 : i = 0
        · rw [if_pos hN0]
          refine lv_if_le hx hb (off := 7) (tgt := 55) (by decide +kernel) (by decide) (fun h => absurd h (by decide)) (fun _ => ?_)
          refine lv_dconst0 hx hb (by decide +kernel) ?_
          refine lv_goto hx hb (off := 8) (tgt := 60) (by decide +kernel) (by decide) ?_
          refine W.widen (k := 1) (n := 6) (by decide) (by decide) ?_
          exact vx_ret (W.dret hx hb hrt (fun t ht hW => ⟨_, _, rfl, ⟨⟨_, rfl, fun h => absurd hN0 h⟩, rfl⟩, by rw [ht]; exact hP, hD, hS.F ht⟩) hS.2.2 (by decide +kernel) hlk)
        · rw [if_neg hN0]
          have hz : iI (i : Int) ≠ 0 := fun h => by
            have h9 := congrArg Int32.toInt h
            rw [iI_toInt ⟨by omega, by omega⟩, show (0 : Int32).toInt = 0 from rfl] at h9
            omega
          refine lv_if_le hx hb (off := 7) (tgt := 55) (by decide +kernel) (by decide) (fun _ => ?_) (fun h => absurd (show iI 0 ≤ 0 by decide) h)
          refine lv_iload_n hx hb (k := 2) (i := 2) (x := iI (sm (fun k => cel (τ 4) (0 + (k : Int) * 6 + 4)) i)) (by decide +kernel) rfl (lv_at hl 1 rfl) ?_
          refine lv_i2d hx hb (by decide +kernel) ?_
          refine lv_iload_n hx hb (k := 1) (i := 1) (x := iI (i : Int)) (by decide +kernel) rfl (lv_at hl 2 rfl) ?_
          refine lv_i2d hx hb (by decide +kernel) ?_
          refine lv_ddiv hx hb (by decide +kernel) (Jvm.Free.Fl.ddiv_out (Jvm.Free.Fl.i2d_fin _).noNaN (Jvm.Free.Fl.i2d_fin _) (Jvm.Free.Fl.i2d_nz hz)) ?_
          refine W.widen (k := 1) (n := 6) (by decide) (by decide) ?_
          exact vx_ret (W.dret hx hb hrt (fun t ht hW => ⟨_, _, rfl, ⟨⟨_, rfl, fun _ => rfl⟩, rfl⟩, by rw [ht]; exact hP, hD, hS.F ht⟩) hS.2.2 (by decide +kernel) hlk)
      | succ z ih =>
        intro i ls H locs hi hl hP hD hS
        refine lv_iload_n hx hb (k := 3) (i := 3) (x := iI (i : Int)) (by decide +kernel) rfl (lv_at hl 0 rfl) ?_
        refine lv_iload_n hx hb (k := 1) (i := 1) (x := iI (N : Int)) (by decide +kernel) rfl (lv_at hl 2 rfl) ?_
        refine lv_icmp_ge hx hb (off := 18) (tgt := 44) (by decide +kernel) (by decide) (fun h => absurd ((iI_le ⟨by omega, by omega⟩ ⟨by omega, by omega⟩).mp h) (by omega)) (fun _ => ?_)
        refine lv_iload_n hx hb (k := 2) (i := 2) (x := iI (sm (fun k => cel (τ 4) (0 + (k : Int) * 6 + 4)) i)) (by decide +kernel) rfl (lv_at hl 1 rfl) ?_
        refine lv_aload_n hx hb (k := 0) (i := 0) (x := ad 21) (by decide +kernel) rfl (lv_at hl 3 rfl) ?_
        refine lv_iload_n hx hb (k := 3) (i := 3) (x := iI (i : Int)) (by decide +kernel) rfl (lv_at hl 0 rfl) ?_
        refine lv_iconst hx hb (n := 4) (v := 4) (by decide +kernel) rfl ?_
        refine lcall (d := 1) (j := m8_of) (a := 21) (as := [.inr (iI (i : Int)), .inr 4]) (X := X) (own := RX8) (x := 70) (rest := [.int (iI (sm (fun k => cel (τ 4) (0 + (k : Int) * 6 + 4)) i))]) hl0 (t1 i (by omega)) (by decide) rfl rfl hx hts hb hown hP hD hK hWX hA hS (hl.1.trans hml.symm) (dm 2 rfl) (dm 3 rfl) (dm 4 rfl) ⟨by decide, by decide, by decide +kernel, by decide +kernel⟩ (by show (1 : Nat) ≤ 8; decide) (by decide +kernel) rfl (fun E τ e => by cases e) (fun v τ9 e H locs hP hS => ?_)
        cases e
        refine W.widen (k := 0) (n := 0) (by decide +kernel) (by decide +kernel) ?_
        refine W.eq (g2 := F0 m 36 ls [.int (iI (cel (τ 4) (0 + (i : Int) * 6 + 4))), .int (iI (sm (fun k => cel (τ 4) (0 + (k : Int) * 6 + 4)) i))]) rfl ?_
        refine lv_iadd hx hb (by decide +kernel) ?_
        rw [iI_add]
        refine lv_istore_n hx hb (k := 2) (i := 2) (lv' := [(2, .int (iI (sm (fun k => cel (τ 4) (0 + (k : Int) * 6 + 4)) (i + 1)))), (3, .int (iI (i : Int))), (1, .int (iI (N : Int))), (0, .ref (ad 21))]) (by decide +kernel) rfl hl (by decide) rfl (fun ls hl => ?_)
        refine lv_iinc hx hb (i := 3) (n := 1) (v := iI ((i + 1 : Nat) : Int)) (lv' := [(3, .int (iI ((i + 1 : Nat) : Int))), (2, .int (iI (sm (fun k => cel (τ 4) (0 + (k : Int) * 6 + 4)) (i + 1)))), (1, .int (iI (N : Int))), (0, .ref (ad 21))]) (by decide +kernel) hl (k := 1) rfl (by rw [Int.natCast_add]; exact iI_add _ _) (by decide) rfl (fun ls hl => ?_)
        refine lv_goto hx hb (off := -17) (tgt := 24) (by decide +kernel) (by decide) ?_
        exact ih (i + 1) ls H locs (by omega) hl hP hD hS
    exact loop N 0 ls H locs (by omega) hl hP hD hS
  refine lv_if_ne hx hb (off := 7) (tgt := 16) (by decide +kernel) (by decide) (fun hz => ?_) (fun hz => ?_)
  · refine lv_iconst hx hb (n := 0) (v := 0) (by decide +kernel) rfl ?_
    exact go 0 (by rw [if_neg (fun h => hz (by rw [h]; rfl))]; rfl)
  · refine lv_iconst hx hb (n := 1) (v := 1) (by decide +kernel) rfl ?_
    refine lv_goto hx hb (off := 4) (tgt := 17) (by decide +kernel) (by decide) ?_
    have hN0 : N = 0 := by
      have h9 := congrArg Int32.toInt hz
      rw [iI_toInt ⟨by omega, by omega⟩, show (0 : Int32).toInt = 0 from rfl] at h9
      omega
    exact go 1 (by rw [if_pos hN0]; rfl)
end DBM
