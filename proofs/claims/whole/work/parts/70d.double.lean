/-! the calls of doubles: the wrappers' contracts -/
section DBX
variable {l : Launch} {D : va_G} {A : Nat → Prop} {ad adV : Nat → Nat} {cA : Nat → ClassId}
def wW : List (Nat × Jvm.Cond) := [(1170, .methodLink RL 114 yX7_meanJumps), (1171, .instanceMethod yX7_meanJumps), (1172, .selects yX7_meanJumps.cls yX7_meanJumps yX7_meanJumps), (1173, .code yX7_meanJumps cX7_meanJumps 2 (some .double)), (1156, .classLink RL 118 AEx),
  (1182, .methodLink RL 120 yX7_kingShare), (1183, .instanceMethod yX7_kingShare), (1184, .selects yX7_kingShare.cls yX7_kingShare yX7_kingShare), (1185, .code yX7_kingShare cX7_kingShare 2 (some .float))]
theorem wW_in : wW.all (fun q => decide (lw_tbl[q.1]? = some q.2)) = true := by decide +kernel
theorem wq (k : Nat) {n : Nat} {w : Jvm.Cond} (h : wW[k]? = some (n, w)) : w ∈ lw_tbl := List.mem_of_getElem? (of_decide_eq_true (List.all_eq_true.mp wW_in _ (List.mem_of_getElem? h)))
theorem cast_in : Jvm.Cond.castable AEx AEx ∈ lw_tbl := by decide +kernel
def DG (ad : Nat → Nat) (cA : Nat → ClassId) (qo qd : Nat) (σ : Sg) (fo : Nat → Int64) (fd : Nat → UInt64) (N : Nat) (v : UInt64) (k : Int32) (W' : va_W) : Prop :=
  (N = 0 ∧ k = 1 ∧ W' = LV ad cA qo qd σ fo fd) ∨ (¬ N = 0 ∧ k = 0 ∧ ∃ fd', fd' 0 = v ∧ W' = LV ad cA qo qd σ fo fd')
set_option maxHeartbeats 2000000 in
theorem w_mean (hl0 : l.stackTraces = false) {τ : SZ} {N qo qd : Nat} {fo : Nat → Int64} {fd : Nat → UInt64} (hN : cel (τ 4) 107 = (N : Int)) (h8 : N ≤ 8) (hB : Bd (τ 4)) : LM l D A ad adV cA ⟨RL, "meanJumps", "(LFerryDraughts;[D)I"⟩ method_31_code 3 [(0, 7, 10, 118)] [.ref (ad 0), .ref qd] (LV ad cA qo qd (sz τ) fo fd) (DG ad cA qo qd (sz τ) fo fd N (FP.ddiv (FP.i2d (iI (sm (fun k => cel (τ 4) (0 + (k : Int) * 6 + 4)) N))) (FP.i2d (iI (N : Int))))) := by
  refine lm_of (by decide) ?_ (Nat.le_of_ble_eq_true rfl)
  rintro p e R s m args below meth c rfl hx hb hml hown hts hlk hrt htab ⟨hP, hK, hD, hWX, hA, hN9⟩ ls hl
  have hl : lv_has ls 3 [(0, .ref (ad 0)), (1, .ref qd)] := hl
  have hS : va_S A s.heap s.heap [] := va_S.rf
  have hown : s.vm.findClass RL = some m.cls := hown
  refine lv_aload_n hx hb (k := 1) (i := 1) (x := qd) (by decide +kernel) rfl (lv_at hl 1 rfl) ?_
  refine lv_iconst hx hb (n := 0) (v := 0) (by decide +kernel) rfl ?_
  refine lv_aload_n hx hb (k := 0) (i := 0) (x := ad 0) (by decide +kernel) rfl (lv_at hl 0 rfl) ?_
  refine dc_call (n := 0) (a := 0) (j := 0) (x := 114) (own := RL) (rest := [.int 0, .ref qd]) (ci := 7) (dc_mean (X := [(qo, .inl (cA 2, 1, .inr (.inl fo))), (qd, .inl (cA 3, 1, .inr (.inr (.inr (.inl fd)))))]) hl0 hN h8 hB) rfl (by decide) rfl rfl hx hts hb hown hP hD hK hWX hA hN9 hS (hl.1.trans hml.symm) (wq 0 rfl) (wq 1 rfl) (wq 2 rfl) (wq 3 rfl) (by decide +kernel) ⟨by decide, by decide, by decide, by decide⟩ (by show (2 : Nat) ≤ 8; decide) (by decide +kernel) rfl (fun hX ce q9 H locs hP hS h1 h2 h3 => ?_) (fun v V' hG H locs hP hD hS => ?_)
  · refine vx_catch (name := AEx) hown [] ⟨0, 7, 10, 118⟩ [] (htab.trans rfl) (fun z hz => by cases hz) rfl (by decide) (ts_of hts (wq 4 rfl) rfl) (va_Nw.use rfl (hWX.2.1 _ cast_in rfl)) h1 h2 h3 ?_
    refine lv_astore_n hx hb (k := 2) (i := 2) (by decide +kernel) rfl hl (by decide) rfl (fun ls hl => ?_)
    refine lv_iconst hx hb (n := 1) (v := 1) (by decide +kernel) rfl ?_
    refine W.widen (k := 2) (n := 12) (by decide) (by decide) ?_
    exact vx_ret (W.zret hx hb hrt rfl (fun t ht hW => ⟨_, _, rfl, Or.inl ⟨hX, rfl, rfl⟩, by rw [ht]; exact hP, hD, hS.F ht⟩) hS.2.2 (by decide +kernel) hlk)
  · obtain ⟨hN0, rfl, rfl⟩ := hG
    refine va_dast hx hb hK hP hD hS (31 + 1) 3 (wOX_get (j := 1) rfl) rfl vp01 (by decide +kernel) (fun H locs hP hD hS => ?_)
    rw [wOX_set (j := 1)] at hP hD
    refine lv_goto hx hb (off := 6) (tgt := 13) (by decide +kernel) (by decide) ?_
    refine lv_iconst hx hb (n := 0) (v := 0) (by decide +kernel) rfl ?_
    refine W.widen (k := 2) (n := 12) (by decide) (by decide) ?_
    exact vx_ret (W.zret hx hb hrt rfl (fun t ht hW => ⟨_, _, rfl, Or.inr ⟨hN0, rfl, _, rfl, rfl⟩, by rw [ht]; exact hP, hD, hS.F ht⟩) hS.2.2 (by decide +kernel) hlk)
set_option maxHeartbeats 2000000 in
theorem w_king (hl0 : l.stackTraces = false) {τ : SZ} {N qo qd : Nat} {fo : Nat → Int64} {fd : Nat → UInt64} (hN : cel (τ 4) 107 = (N : Int)) (h8 : N ≤ 8) (hB : Bd (τ 4)) : LM l D A ad adV cA ⟨RL, "kingShare", "(LFerryDraughts;[D)I"⟩ method_32_code 3 [(0, 8, 11, 118)] [.ref (ad 0), .ref qd] (LV ad cA qo qd (sz τ) fo fd) (DG ad cA qo qd (sz τ) fo fd N (FP.f2d (FP.fdiv (FP.i2f (iI (sm (fun k => cel (τ 4) (0 + (k : Int) * 6 + 3)) N))) (FP.i2f (iI (N : Int)))))) := by
  refine lm_of (by decide) ?_ (Nat.le_of_ble_eq_true rfl)
  rintro p e R s m args below meth c rfl hx hb hml hown hts hlk hrt htab ⟨hP, hK, hD, hWX, hA, hN9⟩ ls hl
  have hl : lv_has ls 3 [(0, .ref (ad 0)), (1, .ref qd)] := hl
  have hS : va_S A s.heap s.heap [] := va_S.rf
  have hown : s.vm.findClass RL = some m.cls := hown
  refine lv_aload_n hx hb (k := 1) (i := 1) (x := qd) (by decide +kernel) rfl (lv_at hl 1 rfl) ?_
  refine lv_iconst hx hb (n := 0) (v := 0) (by decide +kernel) rfl ?_
  refine lv_aload_n hx hb (k := 0) (i := 0) (x := ad 0) (by decide +kernel) rfl (lv_at hl 0 rfl) ?_
  refine dc_call (n := 0) (a := 0) (j := 0) (x := 120) (own := RL) (rest := [.int 0, .ref qd]) (ci := 7) (dc_king (X := [(qo, .inl (cA 2, 1, .inr (.inl fo))), (qd, .inl (cA 3, 1, .inr (.inr (.inr (.inl fd)))))]) hl0 hN h8 hB) rfl (by decide) rfl rfl hx hts hb hown hP hD hK hWX hA hN9 hS (hl.1.trans hml.symm) (wq 5 rfl) (wq 6 rfl) (wq 7 rfl) (wq 8 rfl) (by decide +kernel) ⟨by decide, by decide, by decide, by decide⟩ (by show (2 : Nat) ≤ 8; decide) (by decide +kernel) rfl (fun hX ce q9 H locs hP hS h1 h2 h3 => ?_) (fun v V' hG H locs hP hD hS => ?_)
  · refine vx_catch (name := AEx) hown [] ⟨0, 8, 11, 118⟩ [] (htab.trans rfl) (fun z hz => by cases hz) rfl (by decide) (ts_of hts (wq 4 rfl) rfl) (va_Nw.use rfl (hWX.2.1 _ cast_in rfl)) h1 h2 h3 ?_
    refine lv_astore_n hx hb (k := 2) (i := 2) (by decide +kernel) rfl hl (by decide) rfl (fun ls hl => ?_)
    refine lv_iconst hx hb (n := 1) (v := 1) (by decide +kernel) rfl ?_
    refine W.widen (k := 2) (n := 12) (by decide) (by decide) ?_
    exact vx_ret (W.zret hx hb hrt rfl (fun t ht hW => ⟨_, _, rfl, Or.inl ⟨hX, rfl, rfl⟩, by rw [ht]; exact hP, hD, hS.F ht⟩) hS.2.2 (by decide +kernel) hlk)
  · obtain ⟨hN0, rfl, rfl⟩ := hG
    have hz : iI (N : Int) ≠ 0 := fun h => by
      have h9 := congrArg Int32.toInt h
      rw [iI_toInt ⟨by omega, by omega⟩, show (0 : Int32).toInt = 0 from rfl] at h9
      omega
    refine lv_f2d hx hb (by decide +kernel) (Jvm.Free.Fl.f2d_out (Jvm.Free.Fl.fdiv_out (Jvm.Free.Fl.i2f_fin _).noNaN (Jvm.Free.Fl.i2f_fin _) (Jvm.Free.Fl.i2f_nz hz))) ?_
    refine va_dast hx hb hK hP hD hS (31 + 1) 3 (wOX_get (j := 1) rfl) rfl vp01 (by decide +kernel) (fun H locs hP hD hS => ?_)
    rw [wOX_set (j := 1)] at hP hD
    refine lv_goto hx hb (off := 6) (tgt := 14) (by decide +kernel) (by decide) ?_
    refine lv_iconst hx hb (n := 0) (v := 0) (by decide +kernel) rfl ?_
    refine W.widen (k := 2) (n := 12) (by decide) (by decide) ?_
    exact vx_ret (W.zret hx hb hrt rfl (fun t ht hW => ⟨_, _, rfl, Or.inr ⟨hN0, rfl, _, rfl, rfl⟩, by rw [ht]; exact hP, hD, hS.F ht⟩) hS.2.2 (by decide +kernel) hlk)
end DBX
