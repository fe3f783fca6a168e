/-! constructors, by program: wip/whole/dbC.py -/
section CTS
variable {l : Launch} {D : va_G} {A : Nat → Prop} {ad adV : Nat → Nat} {cA : Nat → ClassId}
def ctW : List Jvm.Cond := [.methodLink RX1 3 Lib.objectInit,
  .instanceMethod Lib.objectInit,
  .code Lib.objectInit ⟨#[0xb1]⟩ 1 none,
  .fieldLink RX1 9 RX1 (TX1 0).2.1 (TX1 0).2.2.1,
  .methodLink RX0 3 Lib.objectInit,
  .fieldLink RX0 9 RX0 (TX0 0).2.1 (TX0 0).2.2.1,
  .fieldLink RX0 15 RX0 (TX0 1).2.1 (TX0 1).2.2.1,
  .fieldLink RX0 19 RX0 (TX0 2).2.1 (TX0 2).2.2.1,
  .methodLink RX2 3 Lib.objectInit,
  .arrayClass .int,
  .fieldLink RX2 9 RX2 (TX2 0).2.1 (TX2 0).2.2.1,
  .methodLink RX3 3 Lib.objectInit,
  .arrayClass .char,
  .fieldLink RX3 9 RX3 (TX3 0).2.1 (TX3 0).2.2.1,
  .methodLink RX4 3 Lib.objectInit,
  .fieldLink RX4 9 RX4 (TX4 0).2.1 (TX4 0).2.2.1,
  .fieldLink RX4 15 RX4 (TX4 1).2.1 (TX4 1).2.2.1,
  .methodLink RX6 3 Lib.objectInit,
  .fieldLink RX6 9 RX6 (TX6 0).2.1 (TX6 0).2.2.1,
  .fieldLink RX6 15 RX6 (TX6 2).2.1 (TX6 2).2.2.1,
  .fieldLink RX6 19 RX6 (TX6 4).2.1 (TX6 4).2.2.1,
  .fieldLink RX5 9 RX5 (TX5 0).2.1 (TX5 0).2.2.1,
  .methodLink RX5 3 Lib.objectInit,
  .methodLink RX5 15 yX5_setCell,
  .instanceMethod yX5_setCell,
  .selects yX5_setCell.cls yX5_setCell yX5_setCell,
  .initialized RX5,
  .code yX5_setCell cX5_setCell 3 none,
  .methodLink RX7 3 Lib.objectInit,
  .classLink RX7 9 RX5,
  .instantiable RX5 1,
  .methodLink RX7 11 yX5_init,
  .instanceMethod yX5_init,
  .code yX5_init cX5_init 2 none,
  .fieldLink RX7 12 RX7 (TX7 0).2.1 (TX7 0).2.2.1,
  .classLink RX7 16 RX1,
  .instantiable RX1 1,
  .initialized RX1,
  .methodLink RX7 18 yX1_init,
  .instanceMethod yX1_init,
  .code yX1_init cX1_init 2 none,
  .fieldLink RX7 21 RX7 (TX7 1).2.1 (TX7 1).2.2.1,
  .fieldLink RX7 25 RX7 (TX7 2).2.1 (TX7 2).2.2.1,
  .fieldLink RX7 28 RX7 (TX7 3).2.1 (TX7 3).2.2.1,
  .classLink RX7 31 RX4,
  .instantiable RX4 3,
  .initialized RX4,
  .methodLinkNest RX7 33 yX4_init "FerryDraughts",
  .instanceMethod yX4_init,
  .code yX4_init cX4_init 1 none,
  .fieldLink RX7 34 RX7 (TX7 4).2.1 (TX7 4).2.2.1,
  .classLink RX7 38 RX0,
  .instantiable RX0 3,
  .initialized RX0,
  .methodLink RX7 40 yX0_init,
  .instanceMethod yX0_init,
  .code yX0_init cX0_init 4 none,
  .fieldLink RX7 43 RX7 (TX7 5).2.1 (TX7 5).2.2.1,
  .fieldLink RX7 47 RX7 (TX7 6).2.1 (TX7 6).2.2.1,
  .classLink RX7 50 RX2,
  .instantiable RX2 3,
  .initialized RX2,
  .methodLinkNest RX7 52 yX2_init "FerryDraughts",
  .instanceMethod yX2_init,
  .code yX2_init cX2_init 1 none,
  .fieldLink RX7 53 RX7 (TX7 7).2.1 (TX7 7).2.2.1,
  .fieldLink RX7 57 RX7 (TX7 8).2.1 (TX7 8).2.2.1,
  .classLink RX7 60 RX6,
  .instantiable RX6 5,
  .initialized RX6,
  .methodLinkNest RX7 62 yX6_init "FerryDraughts",
  .instanceMethod yX6_init,
  .code yX6_init cX6_init 1 none,
  .fieldLink RX7 63 RX7 (TX7 10).2.1 (TX7 10).2.2.1,
  .classLink RX7 67 RX3,
  .instantiable RX3 2,
  .initialized RX3,
  .methodLinkNest RX7 69 yX3_init "FerryDraughts",
  .instanceMethod yX3_init,
  .code yX3_init cX3_init 1 none,
  .fieldLink RX7 70 RX7 (TX7 11).2.1 (TX7 11).2.2.1]
theorem ct_in : ∀ w ∈ ctW, w ∈ lw_tbl := by decide +kernel
theorem ct (k : Nat) {w : Jvm.Cond} (h : ctW[k]? = some w) : w ∈ lw_tbl := ct_in w (List.mem_of_getElem? h)
/-- a row of the spots: nobody from 48 on, below i -/
def f48 (i : Nat) : Nat → Int32 := fun j => if 48 ≤ j ∧ j < i then -1 else 0
theorem f48_next {i : Nat} (h : 48 ≤ i) : upd (f48 i) i (-1) = f48 (i + 1) := by
  funext j
  unfold upd f48
  by_cases e : j = i
  · subst e
    rw [if_pos rfl, if_pos (by omega)]
  · rw [if_neg e]
    by_cases g : 48 ≤ j ∧ j < i
    · rw [if_pos g, if_pos (by omega)]
    · rw [if_neg g, if_neg (by omega)]
/-- Game(rivers) -/
theorem k_game {ws : va_W} {n h0 : Nat} (hn : ws[n]? = some (h0, .inr (1, [.null]))) (r : Nat) : CtI l D A ad adV cA yX1_init cX1_init 2 1 [.ref h0, .ref r] ws (fun ws' => ws' = ws.set n (h0, .inr (1, [.ref r])) ++ []) 0 0 := by
  have hlt : n < ws.length := (List.getElem?_eq_some_iff.mp hn).1
  refine ci_of (by decide) rfl ?_ (Nat.le_of_ble_eq_true rfl)
  rintro p e R s m args below meth c rfl hx hb hml hown hts hlk hrt hin ⟨hP, hK, hD, hWX, hA⟩ ls hl
  have hl : lv_has ls 2 [(0, .ref h0), (1, .ref r)] := hl
  rw [ws_self hn] at hP hD
  have hS : va_S A s.heap s.heap [] := va_S.rf
  refine lv_aload_n hx hb (k := 0) (i := 0) (x := h0) (by decide +kernel) rfl (lv_at hl 0 rfl) ?_
  refine W.objInit hx hb hown (ts_of' hts (ct 0 rfl) rfl) (ts_of' hts (ct 1 rfl) rfl) (ts_of' hts (ct 2 rfl) rfl) rfl (by rw [hml]; exact hl.1) rfl (show decode cX1_init 1 = .ok (.invokespecial 3, 3) from by decide +kernel) (Nat.le_of_ble_eq_true rfl) (Nat.le_of_ble_eq_true rfl) ?_
  refine W.eq (g2 := F0 m 4 ls []) rfl ?_
  refine lv_aload_n hx hb (k := 0) (i := 0) (x := h0) (by decide +kernel) rfl (lv_at hl 0 rfl) ?_
  refine lv_aload_n hx hb (k := 1) (i := 1) (x := r) (by decide +kernel) rfl (lv_at hl 1 rfl) ?_
  refine va_putF (D := D) (ci := 1) (v := .ref r) (ty := tyX1 0) (C := RX1) (T := TX1) (N := 1) hx hb hts (c_uws (c := 1) (by decide)) tyX1 tyX1_ok nmX1 hown hK hP hD hS n (ws_get hlt) rfl 0 (by decide) (ts_of' hts (ct 3 rfl) rfl) (fun _ h9 => h9) rfl hin rfl (tyX1_ok 0 (by decide)) rfl rfl (Nat.le_of_ble_eq_true rfl) (by decide +kernel) (fun H locs hP hD hS => ?_)
  rw [ws_put hlt] at hP hD
  have hP : va_P D cls9 (ws.set n (h0, .inr (1, [.ref r])) ++ []) H := hP
  have hD : va_D A (ws.set n (h0, .inr (1, [.ref r])) ++ []) := hD
  refine W.widen (k := 0) (n := 0) (Nat.le_of_ble_eq_true rfl) (Nat.le_of_ble_eq_true rfl) ?_
  exact W.vret hx hb hrt (fun t ht hW => ⟨rfl, ⟨_, rfl, by rw [ht]; exact hP, hD⟩, hS.F ht⟩) hS.2.2 (by decide +kernel) hlk
/-- Desk(rivers, game, reasons) -/
theorem k_desk {ws : va_W} {n h0 : Nat} (hn : ws[n]? = some (h0, .inr (0, [.null, .null, .null]))) (r : Nat) (b : Nat) (d : Nat) : CtI l D A ad adV cA yX0_init cX0_init 4 1 [.ref h0, .ref r, .ref b, .ref d] ws (fun ws' => ws' = ws.set n (h0, .inr (0, [.ref r, .ref b, .ref d])) ++ []) 0 0 := by
  have hlt : n < ws.length := (List.getElem?_eq_some_iff.mp hn).1
  refine ci_of (by decide) rfl ?_ (Nat.le_of_ble_eq_true rfl)
  rintro p e R s m args below meth c rfl hx hb hml hown hts hlk hrt hin ⟨hP, hK, hD, hWX, hA⟩ ls hl
  have hl : lv_has ls 4 [(0, .ref h0), (1, .ref r), (2, .ref b), (3, .ref d)] := hl
  rw [ws_self hn] at hP hD
  have hS : va_S A s.heap s.heap [] := va_S.rf
  refine lv_aload_n hx hb (k := 0) (i := 0) (x := h0) (by decide +kernel) rfl (lv_at hl 0 rfl) ?_
  refine W.objInit hx hb hown (ts_of' hts (ct 4 rfl) rfl) (ts_of' hts (ct 1 rfl) rfl) (ts_of' hts (ct 2 rfl) rfl) rfl (by rw [hml]; exact hl.1) rfl (show decode cX0_init 1 = .ok (.invokespecial 3, 3) from by decide +kernel) (Nat.le_of_ble_eq_true rfl) (Nat.le_of_ble_eq_true rfl) ?_
  refine W.eq (g2 := F0 m 4 ls []) rfl ?_
  refine lv_aload_n hx hb (k := 0) (i := 0) (x := h0) (by decide +kernel) rfl (lv_at hl 0 rfl) ?_
  refine lv_aload_n hx hb (k := 1) (i := 1) (x := r) (by decide +kernel) rfl (lv_at hl 1 rfl) ?_
  refine va_putF (D := D) (ci := 0) (v := .ref r) (ty := tyX0 0) (C := RX0) (T := TX0) (N := 3) hx hb hts (c_uws (c := 0) (by decide)) tyX0 tyX0_ok nmX0 hown hK hP hD hS n (ws_get hlt) rfl 0 (by decide) (ts_of' hts (ct 5 rfl) rfl) (fun _ h9 => h9) rfl hin rfl (tyX0_ok 0 (by decide)) rfl rfl (Nat.le_of_ble_eq_true rfl) (by decide +kernel) (fun H locs hP hD hS => ?_)
  rw [ws_put hlt] at hP hD
  have hP : va_P D cls9 (ws.set n (h0, .inr (0, [.ref r, .null, .null])) ++ []) H := hP
  have hD : va_D A (ws.set n (h0, .inr (0, [.ref r, .null, .null])) ++ []) := hD
  refine lv_aload_n hx hb (k := 0) (i := 0) (x := h0) (by decide +kernel) rfl (lv_at hl 0 rfl) ?_
  refine lv_aload_n hx hb (k := 2) (i := 2) (x := b) (by decide +kernel) rfl (lv_at hl 2 rfl) ?_
  refine va_putF (D := D) (ci := 0) (v := .ref b) (ty := tyX0 1) (C := RX0) (T := TX0) (N := 3) hx hb hts (c_uws (c := 0) (by decide)) tyX0 tyX0_ok nmX0 hown hK hP hD hS n (ws_get hlt) rfl 1 (by decide) (ts_of' hts (ct 6 rfl) rfl) (fun _ h9 => h9) rfl hin rfl (tyX0_ok 1 (by decide)) rfl rfl (Nat.le_of_ble_eq_true rfl) (by decide +kernel) (fun H locs hP hD hS => ?_)
  rw [ws_put hlt] at hP hD
  have hP : va_P D cls9 (ws.set n (h0, .inr (0, [.ref r, .ref b, .null])) ++ []) H := hP
  have hD : va_D A (ws.set n (h0, .inr (0, [.ref r, .ref b, .null])) ++ []) := hD
  refine lv_aload_n hx hb (k := 0) (i := 0) (x := h0) (by decide +kernel) rfl (lv_at hl 0 rfl) ?_
  refine lv_aload_n hx hb (k := 3) (i := 3) (x := d) (by decide +kernel) rfl (lv_at hl 3 rfl) ?_
  refine va_putF (D := D) (ci := 0) (v := .ref d) (ty := tyX0 2) (C := RX0) (T := TX0) (N := 3) hx hb hts (c_uws (c := 0) (by decide)) tyX0 tyX0_ok nmX0 hown hK hP hD hS n (ws_get hlt) rfl 2 (by decide) (ts_of' hts (ct 7 rfl) rfl) (fun _ h9 => h9) rfl hin rfl (tyX0_ok 2 (by decide)) rfl rfl (Nat.le_of_ble_eq_true rfl) (by decide +kernel) (fun H locs hP hD hS => ?_)
  rw [ws_put hlt] at hP hD
  have hP : va_P D cls9 (ws.set n (h0, .inr (0, [.ref r, .ref b, .ref d])) ++ []) H := hP
  have hD : va_D A (ws.set n (h0, .inr (0, [.ref r, .ref b, .ref d])) ++ []) := hD
  refine W.widen (k := 0) (n := 0) (Nat.le_of_ble_eq_true rfl) (Nat.le_of_ble_eq_true rfl) ?_
  exact W.vret hx hb hrt (fun t ht hW => ⟨rfl, ⟨_, rfl, by rw [ht]; exact hP, hD⟩, hS.F ht⟩) hS.2.2 (by decide +kernel) hlk
/-- History() -/
theorem k_history {ws : va_W} {n h0 : Nat} (hn : ws[n]? = some (h0, .inr (2, [.null, .int 0, .int 0]))) : CtI l D A ad adV cA yX2_init cX2_init 1 1 [.ref h0] ws (fun ws' => ∃ q1, ws' = ws.set n (h0, .inr (2, [.ref q1, .int 0, .int 0])) ++ [(q1, .inl (cA 0, 872, .inl (fun _ => 0)))]) 1 872 := by
  have hlt : n < ws.length := (List.getElem?_eq_some_iff.mp hn).1
  refine ci_of (by decide) rfl ?_ (Nat.le_of_ble_eq_true rfl)
  rintro p e R s m args below meth c rfl hx hb hml hown hts hlk hrt hin ⟨hP, hK, hD, hWX, hA⟩ ls hl
  have hl : lv_has ls 1 [(0, .ref h0)] := hl
  rw [ws_self hn] at hP hD
  have hS : va_S A s.heap s.heap [] := va_S.rf
  refine lv_aload_n hx hb (k := 0) (i := 0) (x := h0) (by decide +kernel) rfl (lv_at hl 0 rfl) ?_
  refine W.objInit hx hb hown (ts_of' hts (ct 8 rfl) rfl) (ts_of' hts (ct 1 rfl) rfl) (ts_of' hts (ct 2 rfl) rfl) rfl (by rw [hml]; exact hl.1) rfl (show decode cX2_init 1 = .ok (.invokespecial 3, 3) from by decide +kernel) (Nat.le_of_ble_eq_true rfl) (Nat.le_of_ble_eq_true rfl) ?_
  refine W.eq (g2 := F0 m 4 ls []) rfl ?_
  refine lv_aload_n hx hb (k := 0) (i := 0) (x := h0) (by decide +kernel) rfl (lv_at hl 0 rfl) ?_
  refine lv_sipush hx hb (n := 872) (v := 872) (by decide +kernel) rfl ?_
  refine va_newa (atype := .int) (ty := .int) (N' := 872) (a0 := (872, .inl (fun _ => 0))) hx hb (ts_of' hts (ct 9 rfl) rfl) rfl hK hP hD hS hA (fun _ => rfl) (by decide) (by decide) (by decide) (Nat.le_of_ble_eq_true rfl) (Nat.le_of_ble_eq_true rfl) (by decide +kernel) (fun q1 c1 H hK1 hP hD hS => ?_)
  cases cA_is hK (t := 0) rfl (Or.inl rfl) hK1
  rw [List.append_assoc] at hP hD
  have hP : va_P D cls9 (ws.set n (h0, .inr (2, [.null, .int 0, .int 0])) ++ [(q1, .inl (cA 0, 872, .inl (fun _ => 0)))]) H := hP
  have hD : va_D A (ws.set n (h0, .inr (2, [.null, .int 0, .int 0])) ++ [(q1, .inl (cA 0, 872, .inl (fun _ => 0)))]) := hD
  refine va_putF (D := D) (ci := 2) (v := .ref q1) (ty := tyX2 0) (C := RX2) (T := TX2) (N := 3) hx hb hts (c_uws (c := 2) (by decide)) tyX2 tyX2_ok nmX2 hown hK hP hD hS n (ws_get hlt) rfl 0 (by decide) (ts_of' hts (ct 10 rfl) rfl) (fun _ h9 => h9) rfl hin rfl (tyX2_ok 0 (by decide)) rfl rfl (Nat.le_of_ble_eq_true rfl) (by decide +kernel) (fun H locs hP hD hS => ?_)
  rw [ws_put hlt] at hP hD
  have hP : va_P D cls9 (ws.set n (h0, .inr (2, [.ref q1, .int 0, .int 0])) ++ [(q1, .inl (cA 0, 872, .inl (fun _ => 0)))]) H := hP
  have hD : va_D A (ws.set n (h0, .inr (2, [.ref q1, .int 0, .int 0])) ++ [(q1, .inl (cA 0, 872, .inl (fun _ => 0)))]) := hD
  refine W.widen (k := 1) (n := 872) (Nat.le_of_ble_eq_true rfl) (Nat.le_of_ble_eq_true rfl) ?_
  exact W.vret hx hb hrt (fun t ht hW => ⟨rfl, ⟨_, ⟨q1, rfl⟩, by rw [ht]; exact hP, hD⟩, hS.F ht⟩) hS.2.2 (by decide +kernel) hlk
/-- Line() -/
theorem k_line {ws : va_W} {n h0 : Nat} (hn : ws[n]? = some (h0, .inr (3, [.null, .int 0]))) : CtI l D A ad adV cA yX3_init cX3_init 1 1 [.ref h0] ws (fun ws' => ∃ q1, ws' = ws.set n (h0, .inr (3, [.ref q1, .int 0])) ++ [(q1, .inl (cA 1, 12, .inl (fun _ => 0)))]) 1 12 := by
  have hlt : n < ws.length := (List.getElem?_eq_some_iff.mp hn).1
  refine ci_of (by decide) rfl ?_ (Nat.le_of_ble_eq_true rfl)
  rintro p e R s m args below meth c rfl hx hb hml hown hts hlk hrt hin ⟨hP, hK, hD, hWX, hA⟩ ls hl
  have hl : lv_has ls 1 [(0, .ref h0)] := hl
  rw [ws_self hn] at hP hD
  have hS : va_S A s.heap s.heap [] := va_S.rf
  refine lv_aload_n hx hb (k := 0) (i := 0) (x := h0) (by decide +kernel) rfl (lv_at hl 0 rfl) ?_
  refine W.objInit hx hb hown (ts_of' hts (ct 11 rfl) rfl) (ts_of' hts (ct 1 rfl) rfl) (ts_of' hts (ct 2 rfl) rfl) rfl (by rw [hml]; exact hl.1) rfl (show decode cX3_init 1 = .ok (.invokespecial 3, 3) from by decide +kernel) (Nat.le_of_ble_eq_true rfl) (Nat.le_of_ble_eq_true rfl) ?_
  refine W.eq (g2 := F0 m 4 ls []) rfl ?_
  refine lv_aload_n hx hb (k := 0) (i := 0) (x := h0) (by decide +kernel) rfl (lv_at hl 0 rfl) ?_
  refine lv_bipush hx hb (n := 12) (v := 12) (by decide +kernel) rfl ?_
  refine va_newa (atype := .char) (ty := .char) (N' := 12) (a0 := (12, .inl (fun _ => 0))) hx hb (ts_of' hts (ct 12 rfl) rfl) rfl hK hP hD hS hA (fun _ => rfl) (by decide) (by decide) (by decide) (Nat.le_of_ble_eq_true rfl) (Nat.le_of_ble_eq_true rfl) (by decide +kernel) (fun q1 c1 H hK1 hP hD hS => ?_)
  cases cA_is hK (t := 1) rfl (Or.inr rfl) hK1
  rw [List.append_assoc] at hP hD
  have hP : va_P D cls9 (ws.set n (h0, .inr (3, [.null, .int 0])) ++ [(q1, .inl (cA 1, 12, .inl (fun _ => 0)))]) H := hP
  have hD : va_D A (ws.set n (h0, .inr (3, [.null, .int 0])) ++ [(q1, .inl (cA 1, 12, .inl (fun _ => 0)))]) := hD
  refine va_putF (D := D) (ci := 3) (v := .ref q1) (ty := tyX3 0) (C := RX3) (T := TX3) (N := 2) hx hb hts (c_uws (c := 3) (by decide)) tyX3 tyX3_ok nmX3 hown hK hP hD hS n (ws_get hlt) rfl 0 (by decide) (ts_of' hts (ct 13 rfl) rfl) (fun _ h9 => h9) rfl hin rfl (tyX3_ok 0 (by decide)) rfl rfl (Nat.le_of_ble_eq_true rfl) (by decide +kernel) (fun H locs hP hD hS => ?_)
  rw [ws_put hlt] at hP hD
  have hP : va_P D cls9 (ws.set n (h0, .inr (3, [.ref q1, .int 0])) ++ [(q1, .inl (cA 1, 12, .inl (fun _ => 0)))]) H := hP
  have hD : va_D A (ws.set n (h0, .inr (3, [.ref q1, .int 0])) ++ [(q1, .inl (cA 1, 12, .inl (fun _ => 0)))]) := hD
  refine W.widen (k := 1) (n := 12) (Nat.le_of_ble_eq_true rfl) (Nat.le_of_ble_eq_true rfl) ?_
  exact W.vret hx hb hrt (fun t ht hW => ⟨rfl, ⟨_, ⟨q1, rfl⟩, by rw [ht]; exact hP, hD⟩, hS.F ht⟩) hS.2.2 (by decide +kernel) hlk
/-- Reasons() -/
theorem k_reasons {ws : va_W} {n h0 : Nat} (hn : ws[n]? = some (h0, .inr (4, [.null, .null, .int 0]))) : CtI l D A ad adV cA yX4_init cX4_init 1 1 [.ref h0] ws (fun ws' => ∃ q1, ∃ q2, ws' = ws.set n (h0, .inr (4, [.ref q1, .ref q2, .int 0])) ++ [(q1, .inl (cA 0, 3, .inl (fun _ => 0))), (q2, .inl (cA 0, 3, .inl (fun _ => 0)))]) 2 6 := by
  have hlt : n < ws.length := (List.getElem?_eq_some_iff.mp hn).1
  refine ci_of (by decide) rfl ?_ (Nat.le_of_ble_eq_true rfl)
  rintro p e R s m args below meth c rfl hx hb hml hown hts hlk hrt hin ⟨hP, hK, hD, hWX, hA⟩ ls hl
  have hl : lv_has ls 1 [(0, .ref h0)] := hl
  rw [ws_self hn] at hP hD
  have hS : va_S A s.heap s.heap [] := va_S.rf
  refine lv_aload_n hx hb (k := 0) (i := 0) (x := h0) (by decide +kernel) rfl (lv_at hl 0 rfl) ?_
  refine W.objInit hx hb hown (ts_of' hts (ct 14 rfl) rfl) (ts_of' hts (ct 1 rfl) rfl) (ts_of' hts (ct 2 rfl) rfl) rfl (by rw [hml]; exact hl.1) rfl (show decode cX4_init 1 = .ok (.invokespecial 3, 3) from by decide +kernel) (Nat.le_of_ble_eq_true rfl) (Nat.le_of_ble_eq_true rfl) ?_
  refine W.eq (g2 := F0 m 4 ls []) rfl ?_
  refine lv_aload_n hx hb (k := 0) (i := 0) (x := h0) (by decide +kernel) rfl (lv_at hl 0 rfl) ?_
  refine lv_iconst hx hb (n := 3) (v := 3) (by decide +kernel) rfl ?_
  refine va_newa (atype := .int) (ty := .int) (N' := 3) (a0 := (3, .inl (fun _ => 0))) hx hb (ts_of' hts (ct 9 rfl) rfl) rfl hK hP hD hS hA (fun _ => rfl) (by decide) (by decide) (by decide) (Nat.le_of_ble_eq_true rfl) (Nat.le_of_ble_eq_true rfl) (by decide +kernel) (fun q1 c1 H hK1 hP hD hS => ?_)
  cases cA_is hK (t := 0) rfl (Or.inl rfl) hK1
  rw [List.append_assoc] at hP hD
  have hP : va_P D cls9 (ws.set n (h0, .inr (4, [.null, .null, .int 0])) ++ [(q1, .inl (cA 0, 3, .inl (fun _ => 0)))]) H := hP
  have hD : va_D A (ws.set n (h0, .inr (4, [.null, .null, .int 0])) ++ [(q1, .inl (cA 0, 3, .inl (fun _ => 0)))]) := hD
  refine va_putF (D := D) (ci := 4) (v := .ref q1) (ty := tyX4 0) (C := RX4) (T := TX4) (N := 3) hx hb hts (c_uws (c := 4) (by decide)) tyX4 tyX4_ok nmX4 hown hK hP hD hS n (ws_get hlt) rfl 0 (by decide) (ts_of' hts (ct 15 rfl) rfl) (fun _ h9 => h9) rfl hin rfl (tyX4_ok 0 (by decide)) rfl rfl (Nat.le_of_ble_eq_true rfl) (by decide +kernel) (fun H locs hP hD hS => ?_)
  rw [ws_put hlt] at hP hD
  have hP : va_P D cls9 (ws.set n (h0, .inr (4, [.ref q1, .null, .int 0])) ++ [(q1, .inl (cA 0, 3, .inl (fun _ => 0)))]) H := hP
  have hD : va_D A (ws.set n (h0, .inr (4, [.ref q1, .null, .int 0])) ++ [(q1, .inl (cA 0, 3, .inl (fun _ => 0)))]) := hD
  refine lv_aload_n hx hb (k := 0) (i := 0) (x := h0) (by decide +kernel) rfl (lv_at hl 0 rfl) ?_
  refine lv_iconst hx hb (n := 3) (v := 3) (by decide +kernel) rfl ?_
  refine va_newa (atype := .int) (ty := .int) (N' := 3) (a0 := (3, .inl (fun _ => 0))) hx hb (ts_of' hts (ct 9 rfl) rfl) rfl hK hP hD hS hA (fun _ => rfl) (by decide) (by decide) (by decide) (Nat.le_of_ble_eq_true rfl) (Nat.le_of_ble_eq_true rfl) (by decide +kernel) (fun q2 c2 H hK2 hP hD hS => ?_)
  cases cA_is hK (t := 0) rfl (Or.inl rfl) hK2
  rw [List.append_assoc] at hP hD
  have hP : va_P D cls9 (ws.set n (h0, .inr (4, [.ref q1, .null, .int 0])) ++ [(q1, .inl (cA 0, 3, .inl (fun _ => 0))), (q2, .inl (cA 0, 3, .inl (fun _ => 0)))]) H := hP
  have hD : va_D A (ws.set n (h0, .inr (4, [.ref q1, .null, .int 0])) ++ [(q1, .inl (cA 0, 3, .inl (fun _ => 0))), (q2, .inl (cA 0, 3, .inl (fun _ => 0)))]) := hD
  refine va_putF (D := D) (ci := 4) (v := .ref q2) (ty := tyX4 1) (C := RX4) (T := TX4) (N := 3) hx hb hts (c_uws (c := 4) (by decide)) tyX4 tyX4_ok nmX4 hown hK hP hD hS n (ws_get hlt) rfl 1 (by decide) (ts_of' hts (ct 16 rfl) rfl) (fun _ h9 => h9) rfl hin rfl (tyX4_ok 1 (by decide)) rfl rfl (Nat.le_of_ble_eq_true rfl) (by decide +kernel) (fun H locs hP hD hS => ?_)
  rw [ws_put hlt] at hP hD
  have hP : va_P D cls9 (ws.set n (h0, .inr (4, [.ref q1, .ref q2, .int 0])) ++ [(q1, .inl (cA 0, 3, .inl (fun _ => 0))), (q2, .inl (cA 0, 3, .inl (fun _ => 0)))]) H := hP
  have hD : va_D A (ws.set n (h0, .inr (4, [.ref q1, .ref q2, .int 0])) ++ [(q1, .inl (cA 0, 3, .inl (fun _ => 0))), (q2, .inl (cA 0, 3, .inl (fun _ => 0)))]) := hD
  refine W.widen (k := 2) (n := 6) (Nat.le_of_ble_eq_true rfl) (Nat.le_of_ble_eq_true rfl) ?_
  exact W.vret hx hb hrt (fun t ht hW => ⟨rfl, ⟨_, ⟨q1, q2, rfl⟩, by rw [ht]; exact hP, hD⟩, hS.F ht⟩) hS.2.2 (by decide +kernel) hlk
/-- Text() -/
theorem k_text {ws : va_W} {n h0 : Nat} (hn : ws[n]? = some (h0, .inr (6, [.null, .int 0, .null, .int 0, .int 0]))) : CtI l D A ad adV cA yX6_init cX6_init 1 1 [.ref h0] ws (fun ws' => ∃ q1, ∃ q2, ws' = ws.set n (h0, .inr (6, [.ref q1, .int 0, .ref q2, .int 0, .int (-1)])) ++ [(q1, .inl (cA 1, 60, .inl (fun _ => 0))), (q2, .inl (cA 0, 52, .inl (fun _ => 0)))]) 2 112 := by
  have hlt : n < ws.length := (List.getElem?_eq_some_iff.mp hn).1
  refine ci_of (by decide) rfl ?_ (Nat.le_of_ble_eq_true rfl)
  rintro p e R s m args below meth c rfl hx hb hml hown hts hlk hrt hin ⟨hP, hK, hD, hWX, hA⟩ ls hl
  have hl : lv_has ls 1 [(0, .ref h0)] := hl
  rw [ws_self hn] at hP hD
  have hS : va_S A s.heap s.heap [] := va_S.rf
  refine lv_aload_n hx hb (k := 0) (i := 0) (x := h0) (by decide +kernel) rfl (lv_at hl 0 rfl) ?_
  refine W.objInit hx hb hown (ts_of' hts (ct 17 rfl) rfl) (ts_of' hts (ct 1 rfl) rfl) (ts_of' hts (ct 2 rfl) rfl) rfl (by rw [hml]; exact hl.1) rfl (show decode cX6_init 1 = .ok (.invokespecial 3, 3) from by decide +kernel) (Nat.le_of_ble_eq_true rfl) (Nat.le_of_ble_eq_true rfl) ?_
  refine W.eq (g2 := F0 m 4 ls []) rfl ?_
  refine lv_aload_n hx hb (k := 0) (i := 0) (x := h0) (by decide +kernel) rfl (lv_at hl 0 rfl) ?_
  refine lv_bipush hx hb (n := 60) (v := 60) (by decide +kernel) rfl ?_
  refine va_newa (atype := .char) (ty := .char) (N' := 60) (a0 := (60, .inl (fun _ => 0))) hx hb (ts_of' hts (ct 12 rfl) rfl) rfl hK hP hD hS hA (fun _ => rfl) (by decide) (by decide) (by decide) (Nat.le_of_ble_eq_true rfl) (Nat.le_of_ble_eq_true rfl) (by decide +kernel) (fun q1 c1 H hK1 hP hD hS => ?_)
  cases cA_is hK (t := 1) rfl (Or.inr rfl) hK1
  rw [List.append_assoc] at hP hD
  have hP : va_P D cls9 (ws.set n (h0, .inr (6, [.null, .int 0, .null, .int 0, .int 0])) ++ [(q1, .inl (cA 1, 60, .inl (fun _ => 0)))]) H := hP
  have hD : va_D A (ws.set n (h0, .inr (6, [.null, .int 0, .null, .int 0, .int 0])) ++ [(q1, .inl (cA 1, 60, .inl (fun _ => 0)))]) := hD
  refine va_putF (D := D) (ci := 6) (v := .ref q1) (ty := tyX6 0) (C := RX6) (T := TX6) (N := 5) hx hb hts (c_uws (c := 6) (by decide)) tyX6 tyX6_ok nmX6 hown hK hP hD hS n (ws_get hlt) rfl 0 (by decide) (ts_of' hts (ct 18 rfl) rfl) (fun _ h9 => h9) rfl hin rfl (tyX6_ok 0 (by decide)) rfl rfl (Nat.le_of_ble_eq_true rfl) (by decide +kernel) (fun H locs hP hD hS => ?_)
  rw [ws_put hlt] at hP hD
  have hP : va_P D cls9 (ws.set n (h0, .inr (6, [.ref q1, .int 0, .null, .int 0, .int 0])) ++ [(q1, .inl (cA 1, 60, .inl (fun _ => 0)))]) H := hP
  have hD : va_D A (ws.set n (h0, .inr (6, [.ref q1, .int 0, .null, .int 0, .int 0])) ++ [(q1, .inl (cA 1, 60, .inl (fun _ => 0)))]) := hD
  refine lv_aload_n hx hb (k := 0) (i := 0) (x := h0) (by decide +kernel) rfl (lv_at hl 0 rfl) ?_
  refine lv_bipush hx hb (n := 52) (v := 52) (by decide +kernel) rfl ?_
  refine va_newa (atype := .int) (ty := .int) (N' := 52) (a0 := (52, .inl (fun _ => 0))) hx hb (ts_of' hts (ct 9 rfl) rfl) rfl hK hP hD hS hA (fun _ => rfl) (by decide) (by decide) (by decide) (Nat.le_of_ble_eq_true rfl) (Nat.le_of_ble_eq_true rfl) (by decide +kernel) (fun q2 c2 H hK2 hP hD hS => ?_)
  cases cA_is hK (t := 0) rfl (Or.inl rfl) hK2
  rw [List.append_assoc] at hP hD
  have hP : va_P D cls9 (ws.set n (h0, .inr (6, [.ref q1, .int 0, .null, .int 0, .int 0])) ++ [(q1, .inl (cA 1, 60, .inl (fun _ => 0))), (q2, .inl (cA 0, 52, .inl (fun _ => 0)))]) H := hP
  have hD : va_D A (ws.set n (h0, .inr (6, [.ref q1, .int 0, .null, .int 0, .int 0])) ++ [(q1, .inl (cA 1, 60, .inl (fun _ => 0))), (q2, .inl (cA 0, 52, .inl (fun _ => 0)))]) := hD
  refine va_putF (D := D) (ci := 6) (v := .ref q2) (ty := tyX6 2) (C := RX6) (T := TX6) (N := 5) hx hb hts (c_uws (c := 6) (by decide)) tyX6 tyX6_ok nmX6 hown hK hP hD hS n (ws_get hlt) rfl 2 (by decide) (ts_of' hts (ct 19 rfl) rfl) (fun _ h9 => h9) rfl hin rfl (tyX6_ok 2 (by decide)) rfl rfl (Nat.le_of_ble_eq_true rfl) (by decide +kernel) (fun H locs hP hD hS => ?_)
  rw [ws_put hlt] at hP hD
  have hP : va_P D cls9 (ws.set n (h0, .inr (6, [.ref q1, .int 0, .ref q2, .int 0, .int 0])) ++ [(q1, .inl (cA 1, 60, .inl (fun _ => 0))), (q2, .inl (cA 0, 52, .inl (fun _ => 0)))]) H := hP
  have hD : va_D A (ws.set n (h0, .inr (6, [.ref q1, .int 0, .ref q2, .int 0, .int 0])) ++ [(q1, .inl (cA 1, 60, .inl (fun _ => 0))), (q2, .inl (cA 0, 52, .inl (fun _ => 0)))]) := hD
  refine lv_aload_n hx hb (k := 0) (i := 0) (x := h0) (by decide +kernel) rfl (lv_at hl 0 rfl) ?_
  refine lv_iconst hx hb (n := -1) (v := -1) (by decide +kernel) rfl ?_
  refine va_put (D := D) (ci := 6) (v := .int (-1)) (ty := tyX6 4) (C := RX6) (T := TX6) (N := 5) hx hb hts (c_uws (c := 6) (by decide)) tyX6 tyX6_ok nmX6 hown hK hP hD hS n (ws_get hlt) rfl 4 (by decide) (ts_of' hts (ct 20 rfl) rfl) (fun _ h9 => h9) rfl (tyX6_ok 4 (by decide)) rfl rfl (Nat.le_of_ble_eq_true rfl) (by decide +kernel) (fun H locs hP hD hS => ?_)
  rw [ws_put hlt] at hP hD
  have hP : va_P D cls9 (ws.set n (h0, .inr (6, [.ref q1, .int 0, .ref q2, .int 0, .int (-1)])) ++ [(q1, .inl (cA 1, 60, .inl (fun _ => 0))), (q2, .inl (cA 0, 52, .inl (fun _ => 0)))]) H := hP
  have hD : va_D A (ws.set n (h0, .inr (6, [.ref q1, .int 0, .ref q2, .int 0, .int (-1)])) ++ [(q1, .inl (cA 1, 60, .inl (fun _ => 0))), (q2, .inl (cA 0, 52, .inl (fun _ => 0)))]) := hD
  refine W.widen (k := 2) (n := 112) (Nat.le_of_ble_eq_true rfl) (Nat.le_of_ble_eq_true rfl) ?_
  exact W.vret hx hb hrt (fun t ht hW => ⟨rfl, ⟨_, ⟨q1, q2, rfl⟩, by rw [ht]; exact hP, hD⟩, hS.F ht⟩) hS.2.2 (by decide +kernel) hlk
theorem cv_of {y : MethodName} {bc : ByteArray} {nL d mc ms : Nat} {as : List Value} {ws : va_W} {G : va_W → Prop} (hy : plainName y.cls = true)
    (body : ∀ (p : Program) (e : Env) (R : Room) (s : State) (m : MethodId) (args : Array Value) (below : List Frame) (meth : Method) (c : Code), R = rmC d mc ms → p.tables.exec = Jvm.exec → c.code = bc → c.maxLocals = nL → s.vm.findClass y.cls = some m.cls → (∀ w ∈ TS, w.before args s = true) → meth.locks = false → meth.sig.returnType = none → IW D A ad adV cA ws s →
      ∀ ls : Array Slot, lv_has ls nL (lv_args 0 as) → W p l e R s m args below meth c s.heap [] 0 0 (MQ below (IQ D A G) args s mc ms A) (F0 m 0 ls [])) (has : (lg_sl as).length ≤ nL) : CtI l D A ad adV cA y bc nL d as ws G mc ms := by
  refine Met.ofW (cc := bc) (maxL := nL) (ret := none) hy rfl ?_
  intro p e s m args below meth c s₁ B hml hv
  obtain ⟨rfl, hI⟩ := hv
  have hts0 := atoms_spec B.pre
  have hown := findClass_of_methodNamed B.named
  rw [lg_entry_eq]
  exact body p e _ s m _ below meth c rfl B.exec B.bytes hml hown (fun w hw => hts0 w (List.mem_cons_of_mem _ hw)) B.notSynchronized B.returns hI _ (lv_entry as has)
section CVV
variable {p : Program} {e : Env} {R : Room} {s : State} {m : MethodId} {args : Array Value} {below : List Frame} {meth : Method} {c : Code} {H : Heap} {locs : List Loc} {cells slots : Nat} {Q : State → Prop}
/-- a call of a private method of a class that is being made -/
theorem cv_V {y : MethodName} {bc cc : ByteArray} {nL n d x pc mc ms : Nat} {As rest : List Value} {b : Nat} {own : String} {ls : Array Slot} {ws : va_W} {G : va_W → Prop} (hM : CtI l D A ad adV cA y bc nL d (.ref b :: As) ws G mc ms) (hx : p.tables.exec = Jvm.exec) (hts : ∀ w ∈ TS, w.before args s = true) (hb : c.code = cc) (hown : s.vm.findClass own = some m.cls)
    (hw : va_P D cls9 ws H) (hD : va_D A ws) (hK : va_K D cls9 (tyW cA) s) (hWX : WX A ad adV s s.heap) (hA : ∀ q, s.heap.size ≤ q → A q) (hS : va_S A s.heap H locs) (hl : ls.size = c.maxLocals) (hlink : Jvm.Cond.methodLink own x y ∈ lw_tbl)
    (h1 : Jvm.Cond.instanceMethod y ∈ lw_tbl) (h2 : Jvm.Cond.selects y.cls y y ∈ lw_tbl) (h3 : Jvm.Cond.initialized y.cls ∈ lw_tbl) (h4 : Jvm.Cond.code y bc nL none ∈ lw_tbl) (hrec : ∃ cell : Cell, H[b]? = some cell ∧ cell.vm.isStatics = false ∧ s.vm.findClass y.cls = some cell.cls)
    (hy : y.cls ≠ "java/lang/invoke/MethodHandle" ∧ y.cls ≠ "java/lang/invoke/VarHandle" ∧ (parseMethodDescriptor y.desc).map (fun d => d.parameters.length) = some n) (hn : As.length = n)
    (hR : d + 1 ≤ R.frames ∧ 8 + (nL + 11) + 40 * d ≤ R.locals ∧ cells + mc ≤ R.cells ∧ slots + ms ≤ R.slots) (h8 : (rest.map fun v => v.category).sum ≤ 8) (hd : decode cc pc = .ok (.invokevirtual x, 3))
    {st0 : List Value} (hst : st0 = As.reverse ++ .ref b :: rest) (kk : ∀ (ws' : va_W) (H1 : Heap) (locs1 : List Loc), G ws' → va_P D cls9 ws' H1 → va_D A ws' → va_S A s.heap H1 locs1 → W p l e R s m args below meth c H1 locs1 (cells + mc) (slots + ms) Q (F0 m (pc + 3) ls rest)) : W p l e R s m args below meth c H locs cells slots Q (F0 m pc ls st0) := by
  have hg : GoodIn TS (wsV own x y.cls y (Jvm.Cond.code y bc nL none :: TS)) := by
    intro w hw9
    unfold wsV at hw9
    rcases List.mem_append.mp hw9 with hw9 | hw9
    · simp only [List.mem_cons, List.not_mem_nil, or_false] at hw9
      rcases hw9 with rfl | rfl | rfl | rfl
      · exact good_TS (TS_mem hlink rfl)
      · exact good_TS (TS_mem h1 rfl)
      · exact good_TS (TS_mem h2 rfl)
      · exact good_TS (TS_mem h3 rfl)
    · exact good_C h4 w hw9
  exact ci_ran (va_runV (Ts := TS) (C := y.cls) (As := As) ⟨hx, hb, rfl, hown, hts⟩ hM (cwV n hts hg rfl rfl rfl ⟨rfl, hy.1, hy.2.1, hy.2.2⟩ ⟨hR.1, hR.2.1⟩) ⟨ci_blind, hrec, ci_pre hw hD hK hWX hA hS⟩ rfl hn hl hst (lv_room h8) hd hR.2.2) hS kk
end CVV
/-- setCell in a world that is being made -/
theorem k_setC {ws : va_W} {n n2 h0 q : Nat} {f : Nat → Int32} {k : Nat} {v : Int32} (hn : ws[n]? = some (h0, .inr (5, [.ref q]))) (hq : ws[n2]? = some (q, .inl (cA 0, 109, .inl f))) (hk : k < 109) : CtI l D A ad adV cA yX5_setCell cX5_setCell 3 0 [.ref h0, .int (nI k), .int v] ws (fun ws' => ws' = ws.set n2 (q, .inl (cA 0, 109, .inl (upd f k v)))) 0 0 := by
  refine cv_of (by decide) ?_ (Nat.le_of_ble_eq_true rfl)
  rintro p e R s m args below meth c rfl hx hb hml hown hts hlk hrt ⟨hP, hK, hD, hWX, hA⟩ ls hl
  have hl : lv_has ls 3 [(0, .ref h0), (1, .int (nI k)), (2, .int v)] := hl
  have hS : va_S A s.heap s.heap [] := va_S.rf
  have hi : vp_in (nI k) 109 := vp_in_nI hk (by decide)
  refine lv_iload_n hx hb (k := 1) (i := 1) (x := nI k) (by decide +kernel) rfl (lv_at hl 1 rfl) ?_
  refine lv_if_lt hx hb (off := 19) (tgt := 20) (by decide +kernel) (by decide) (fun h => absurd (Or.inl h) hi) (fun _ => ?_)
  refine lv_iload_n hx hb (k := 1) (i := 1) (x := nI k) (by decide +kernel) rfl (lv_at hl 1 rfl) ?_
  refine lv_aload_n hx hb (k := 0) (i := 0) (x := h0) (by decide +kernel) rfl (lv_at hl 0 rfl) ?_
  refine va_get (D := D) (ci := 5) (v := .ref q) (C := RX5) (T := TX5) (N := 1) hx hb hts (c_uws (c := 5) (by decide)) hown hK hP n hn rfl 0 (by decide) (ts_of' hts (ct 21 rfl) rfl) (fun _ h9 => h9) rfl (by decide +kernel) ?_
  refine va_alen hx hb hK hP n2 0 hq rfl (v := nI 109) rfl (by decide +kernel) ?_
  refine lv_icmp_ge hx hb (off := 10) (tgt := 20) (by decide +kernel) (by decide) (fun h => absurd (show nI 109 ≤ nI k from h) (nI_ge hk (by decide))) (fun _ => ?_)
  refine lv_aload_n hx hb (k := 0) (i := 0) (x := h0) (by decide +kernel) rfl (lv_at hl 0 rfl) ?_
  refine va_get (D := D) (ci := 5) (v := .ref q) (C := RX5) (T := TX5) (N := 1) hx hb hts (c_uws (c := 5) (by decide)) hown hK hP n hn rfl 0 (by decide) (ts_of' hts (ct 21 rfl) rfl) (fun _ h9 => h9) rfl (by decide +kernel) ?_
  refine lv_iload_n hx hb (k := 1) (i := 1) (x := nI k) (by decide +kernel) rfl (lv_at hl 1 rfl) ?_
  refine lv_iload_n hx hb (k := 2) (i := 2) (x := v) (by decide +kernel) rfl (lv_at hl 2 rfl) ?_
  refine va_iast hx hb hK hP hD hS n2 0 hq rfl hi (by decide +kernel) (fun H locs hP hD hS => ?_)
  rw [nI_clamp (by omega)] at hP hD
  exact W.vret hx hb hrt (fun t ht hW => ⟨rfl, ⟨_, rfl, by rw [ht]; exact hP, hD⟩, hS.F ht⟩) hS.2.2 (by decide +kernel) hlk
/-- Rivers() -/
theorem k_rivers {ws : va_W} {n h0 : Nat} (hn : ws[n]? = some (h0, .inr (5, [.null]))) : CtI l D A ad adV cA yX5_init cX5_init 2 1 [.ref h0] ws (fun ws' => ∃ q1, ws' = ws.set n (h0, .inr (5, [.ref q1])) ++ [(q1, .inl (cA 0, 109, .inl (f48 72)))]) 1 109 := by
  have hlt : n < ws.length := (List.getElem?_eq_some_iff.mp hn).1
  refine ci_of (by decide) rfl ?_ (Nat.le_of_ble_eq_true rfl)
  rintro p e R s m args below meth c rfl hx hb hml hown hts hlk hrt hin ⟨hP, hK, hD, hWX, hA⟩ ls hl
  have hl : lv_has ls 2 [(0, .ref h0)] := hl
  rw [ws_self hn] at hP hD
  have hS : va_S A s.heap s.heap [] := va_S.rf
  refine lv_aload_n hx hb (k := 0) (i := 0) (x := h0) (by decide +kernel) rfl (lv_at hl 0 rfl) ?_
  refine W.objInit hx hb hown (ts_of' hts (ct 22 rfl) rfl) (ts_of' hts (ct 1 rfl) rfl) (ts_of' hts (ct 2 rfl) rfl) rfl (by rw [hml]; exact hl.1) rfl (show decode cX5_init 1 = .ok (.invokespecial 3, 3) from by decide +kernel) (Nat.le_of_ble_eq_true rfl) (Nat.le_of_ble_eq_true rfl) ?_
  refine W.eq (g2 := F0 m 4 ls []) rfl ?_
  refine lv_aload_n hx hb (k := 0) (i := 0) (x := h0) (by decide +kernel) rfl (lv_at hl 0 rfl) ?_
  refine lv_bipush hx hb (n := 109) (v := 109) (by decide +kernel) rfl ?_
  refine va_newa (atype := .int) (ty := .int) (N' := 109) (a0 := (109, .inl (fun _ => 0))) hx hb (ts_of' hts (ct 9 rfl) rfl) rfl hK hP hD hS hA (fun _ => rfl) (by decide) (by decide) (by decide) (Nat.le_of_ble_eq_true rfl) (Nat.le_of_ble_eq_true rfl) (by decide +kernel) (fun q1 c1 H hK1 hP hD hS => ?_)
  cases cA_is hK (t := 0) rfl (Or.inl rfl) hK1
  rw [List.append_assoc] at hP hD
  have hP : va_P D cls9 (ws.set n (h0, .inr (5, [.null])) ++ [(q1, .inl (cA 0, 109, .inl (fun _ => 0)))]) H := hP
  have hD : va_D A (ws.set n (h0, .inr (5, [.null])) ++ [(q1, .inl (cA 0, 109, .inl (fun _ => 0)))]) := hD
  refine va_putF (D := D) (ci := 5) (v := .ref q1) (ty := tyX5 0) (C := RX5) (T := TX5) (N := 1) hx hb hts (c_uws (c := 5) (by decide)) tyX5 tyX5_ok nmX5 hown hK hP hD hS n (ws_get hlt) rfl 0 (by decide) (ts_of' hts (ct 21 rfl) rfl) (fun _ h9 => h9) rfl hin rfl (tyX5_ok 0 (by decide)) rfl rfl (Nat.le_of_ble_eq_true rfl) (by decide +kernel) (fun H locs hP hD hS => ?_)
  rw [ws_put hlt] at hP hD
  have hP : va_P D cls9 (ws.set n (h0, .inr (5, [.ref q1])) ++ [(q1, .inl (cA 0, 109, .inl (fun _ => 0)))]) H := hP
  have hD : va_D A (ws.set n (h0, .inr (5, [.ref q1])) ++ [(q1, .inl (cA 0, 109, .inl (fun _ => 0)))]) := hD
  refine lv_bipush hx hb (n := 48) (v := 48) (by decide +kernel) rfl ?_
  refine lv_istore_n hx hb (k := 1) (i := 1) (lv' := [(1, .int (nI 48)), (0, .ref h0)]) (by decide +kernel) rfl hl (by decide) rfl (fun ls hl => ?_)
  have hz : (fun _ => 0 : Nat → Int32) = f48 48 := funext fun j => (if_neg (by omega)).symm
  rw [hz] at hP hD
  have loop : ∀ (k i : Nat) (ls : Array Slot) (H : Heap) (locs : List Loc), i + k = 72 → 48 ≤ i → lv_has ls 2 [(1, .int (nI i)), (0, .ref h0)] → va_P D cls9 (ws.set n (h0, .inr (5, [.ref q1])) ++ [(q1, .inl (cA 0, 109, .inl (f48 i)))]) H → va_D A (ws.set n (h0, .inr (5, [.ref q1])) ++ [(q1, .inl (cA 0, 109, .inl (f48 i)))]) → va_S A s.heap H locs →
      W p l e (rmC 1 1 109) s m args below meth c H locs 1 109 (MQ below (IQ D A (fun ws' => ∃ q1, ws' = ws.set n (h0, .inr (5, [.ref q1])) ++ [(q1, .inl (cA 0, 109, .inl (f48 72)))])) args s 1 109 A) (F0 m 15 ls []) := by
    intro k
    induction k with
    | zero =>
      intro i ls H locs hk h48 hl hP hD hS
      have e : i = 72 := by omega
      subst e
      refine lv_iload_n hx hb (k := 1) (i := 1) (x := nI 72) (by decide +kernel) rfl (lv_at hl 0 rfl) ?_
      refine lv_bipush hx hb (n := 72) (v := 72) (by decide +kernel) rfl ?_
      refine lv_icmp_ge hx hb (off := 15) (tgt := 33) (by decide +kernel) (by decide) (fun _ => ?_) (fun h => absurd (show (72 : Int32) ≤ nI 72 by decide) h)
      exact W.vret hx hb hrt (fun t ht hW => ⟨rfl, ⟨_, ⟨q1, rfl⟩, by rw [ht]; exact hP, hD⟩, hS.F ht⟩) hS.2.2 (by decide +kernel) hlk
    | succ k ih =>
      intro i ls H locs hk h48 hl hP hD hS
      refine lv_iload_n hx hb (k := 1) (i := 1) (x := nI i) (by decide +kernel) rfl (lv_at hl 0 rfl) ?_
      refine lv_bipush hx hb (n := 72) (v := nI 72) (by decide +kernel) rfl ?_
      refine lv_icmp_ge hx hb (off := 15) (tgt := 33) (by decide +kernel) (by decide) (fun h => absurd (show nI 72 ≤ nI i from h) (nI_ge (by omega) (by decide))) (fun _ => ?_)
      refine lv_aload_n hx hb (k := 0) (i := 0) (x := h0) (by decide +kernel) rfl (lv_at hl 1 rfl) ?_
      refine lv_iload_n hx hb (k := 1) (i := 1) (x := nI i) (by decide +kernel) rfl (lv_at hl 0 rfl) ?_
      refine lv_iconst hx hb (n := -1) (v := -1) (by decide +kernel) rfl ?_
      refine cv_V (own := RX5) (n := 2) (As := [.int (nI i), .int (-1)]) (rest := []) (k_setC (ws := ws.set n (h0, .inr (5, [.ref q1])) ++ [(q1, .inl (cA 0, 109, .inl (f48 i)))]) (n := n) (n2 := ws.length + 0) (k := i) (v := -1) (ws_get hlt) (ws_get2.trans rfl) (by omega)) hx hts hb hown hP hD hK hWX hA hS (hl.1.trans hml.symm) (ct 23 rfl) (ct 24 rfl) (ct 25 rfl) (ct 26 rfl) (ct 27 rfl) (va_recv (q := (RX5, TX5, 1)) hK hP rfl (ws_get hlt)) ⟨by decide, by decide, by decide +kernel⟩ rfl ⟨Nat.le_of_ble_eq_true rfl, Nat.le_of_ble_eq_true rfl, Nat.le_of_ble_eq_true rfl, Nat.le_of_ble_eq_true rfl⟩ (Nat.le_of_ble_eq_true rfl) (by decide +kernel) rfl (fun ws' H locs hG hP hD hS => ?_)
      subst hG
      rw [ws_put2] at hP hD
      refine lv_iinc hx hb (i := 1) (n := 1) (v := nI (i + 1)) (lv' := [(1, .int (nI (i + 1))), (0, .ref h0)]) (by decide +kernel) hl (k := 0) rfl (nI_succ i).symm (by decide) rfl (fun ls hl => ?_)
      refine lv_goto hx hb (off := -15) (tgt := 15) (by decide +kernel) (by decide) ?_
      rw [List.set_cons_zero, f48_next h48] at hP hD
      exact ih (i + 1) ls H locs (by omega) (by omega) hl hP hD hS
  exact loop 24 48 ls _ _ rfl (Nat.le_refl _) hl hP hD hS
/-- FerryDraughts() -/
theorem k_all {ws : va_W} {n h0 : Nat} (hn : ws[n]? = some (h0, .inr (7, [.null, .null, .null, .null, .null, .null, .null, .null, .null, .int 0, .null, .null]))) : CtI l D A ad adV cA yX7_init cX7_init 1 2 [.ref h0] ws (fun ws' => ∃ q1, ∃ q2, ∃ q3, ∃ q4, ∃ q5, ∃ q6, ∃ q7, ∃ q8, ∃ q9, ∃ q10, ∃ q11, ∃ q12, ∃ q13, ∃ q14, ∃ q15, ∃ q16, ∃ q17, ∃ q18, ∃ q19, ∃ q20, ws' = ws.set n (h0, .inr (7, [.ref q1, .ref q3, .ref q4, .ref q6, .ref q7, .ref q10, .ref q11, .ref q12, .ref q14, .int 0, .ref q16, .ref q19])) ++ [(q1, .inr (5, [.ref q2])), (q2, .inl (cA 0, 109, .inl (f48 72))), (q3, .inr (1, [.ref q1])), (q4, .inr (5, [.ref q5])), (q5, .inl (cA 0, 109, .inl (f48 72))), (q6, .inr (1, [.ref q4])), (q7, .inr (4, [.ref q8, .ref q9, .int 0])), (q8, .inl (cA 0, 3, .inl (fun _ => 0))), (q9, .inl (cA 0, 3, .inl (fun _ => 0))), (q10, .inr (0, [.ref q1, .ref q3, .ref q7])), (q11, .inr (0, [.ref q4, .ref q6, .ref q7])), (q12, .inr (2, [.ref q13, .int 0, .int 0])), (q13, .inl (cA 0, 872, .inl (fun _ => 0))), (q14, .inr (5, [.ref q15])), (q15, .inl (cA 0, 109, .inl (f48 72))), (q16, .inr (6, [.ref q17, .int 0, .ref q18, .int 0, .int (-1)])), (q17, .inl (cA 1, 60, .inl (fun _ => 0))), (q18, .inl (cA 0, 52, .inl (fun _ => 0))), (q19, .inr (3, [.ref q20, .int 0])), (q20, .inl (cA 1, 12, .inl (fun _ => 0)))]) 20 1353 := by
  have hlt : n < ws.length := (List.getElem?_eq_some_iff.mp hn).1
  refine ci_of (by decide) rfl ?_ (Nat.le_of_ble_eq_true rfl)
  rintro p e R s m args below meth c rfl hx hb hml hown hts hlk hrt hin ⟨hP, hK, hD, hWX, hA⟩ ls hl
  have hl : lv_has ls 1 [(0, .ref h0)] := hl
  rw [ws_self hn] at hP hD
  have hS : va_S A s.heap s.heap [] := va_S.rf
  refine lv_aload_n hx hb (k := 0) (i := 0) (x := h0) (by decide +kernel) rfl (lv_at hl 0 rfl) ?_
  refine W.objInit hx hb hown (ts_of' hts (ct 28 rfl) rfl) (ts_of' hts (ct 1 rfl) rfl) (ts_of' hts (ct 2 rfl) rfl) rfl (by rw [hml]; exact hl.1) rfl (show decode cX7_init 1 = .ok (.invokespecial 3, 3) from by decide +kernel) (Nat.le_of_ble_eq_true rfl) (Nat.le_of_ble_eq_true rfl) ?_
  refine W.eq (g2 := F0 m 4 ls []) rfl ?_
  refine lv_aload_n hx hb (k := 0) (i := 0) (x := h0) (by decide +kernel) rfl (lv_at hl 0 rfl) ?_
  refine va_new (ci := 5) (fs := [.null]) (C := RX5) (T := TX5) (N := 1) hx hb hts (c_uws (c := 5) (by decide)) tyX5 tyX5_ok hown (ts_of' hts (ct 29 rfl) rfl) (ts_of' hts (ct 30 rfl) rfl) (ts_of' hts (ct 26 rfl) rfl) hK hP hD hS hA rfl (by decide +kernel) (Nat.le_of_ble_eq_true rfl) (Nat.le_of_ble_eq_true rfl) (by decide +kernel) (fun q1 H hP hD hS => ?_)
  rw [List.append_assoc] at hP hD
  have hP : va_P D cls9 (ws.set n (h0, .inr (7, [.null, .null, .null, .null, .null, .null, .null, .null, .null, .int 0, .null, .null])) ++ [(q1, .inr (5, [.null]))]) H := hP
  have hD : va_D A (ws.set n (h0, .inr (7, [.null, .null, .null, .null, .null, .null, .null, .null, .null, .int 0, .null, .null])) ++ [(q1, .inr (5, [.null]))]) := hD
  refine lv_dup hx hb (by decide +kernel) rfl ?_
  refine ci_I (own := RX7) (n := 0) (As := []) (rest := [.ref q1, .ref h0]) (k_rivers (ws := ws.set n (h0, .inr (7, [.null, .null, .null, .null, .null, .null, .null, .null, .null, .int 0, .null, .null])) ++ [(q1, .inr (5, [.null]))]) (n := ws.length + 0) (h0 := q1) (ws_get2.trans rfl)) hx hts hb hown hP hD hK hWX hA hS (hl.1.trans hml.symm) (ct 31 rfl) (ct 32 rfl) (ct 26 rfl) (ct 33 rfl) rfl ⟨by decide, by decide, by decide +kernel⟩ rfl ⟨Nat.le_of_ble_eq_true rfl, Nat.le_of_ble_eq_true rfl, Nat.le_of_ble_eq_true rfl, Nat.le_of_ble_eq_true rfl⟩ (Nat.le_of_ble_eq_true rfl) (by decide +kernel) rfl (fun ws' H locs hG hP hD hS => ?_)
  obtain ⟨q2, rfl⟩ := hG
  rw [ws_put2, List.append_assoc] at hP hD
  have hP : va_P D cls9 (ws.set n (h0, .inr (7, [.null, .null, .null, .null, .null, .null, .null, .null, .null, .int 0, .null, .null])) ++ [(q1, .inr (5, [.ref q2])), (q2, .inl (cA 0, 109, .inl (f48 72)))]) H := hP
  have hD : va_D A (ws.set n (h0, .inr (7, [.null, .null, .null, .null, .null, .null, .null, .null, .null, .int 0, .null, .null])) ++ [(q1, .inr (5, [.ref q2])), (q2, .inl (cA 0, 109, .inl (f48 72)))]) := hD
  refine va_putF (D := D) (ci := 7) (v := .ref q1) (ty := tyX7 0) (C := RX7) (T := TX7) (N := 12) hx hb hts (c_uws (c := 7) (by decide)) tyX7 tyX7_ok nmX7 hown hK hP hD hS n (ws_get hlt) rfl 0 (by decide) (ts_of' hts (ct 34 rfl) rfl) (fun _ h9 => h9) rfl hin rfl (tyX7_ok 0 (by decide)) rfl rfl (Nat.le_of_ble_eq_true rfl) (by decide +kernel) (fun H locs hP hD hS => ?_)
  rw [ws_put hlt] at hP hD
  have hP : va_P D cls9 (ws.set n (h0, .inr (7, [.ref q1, .null, .null, .null, .null, .null, .null, .null, .null, .int 0, .null, .null])) ++ [(q1, .inr (5, [.ref q2])), (q2, .inl (cA 0, 109, .inl (f48 72)))]) H := hP
  have hD : va_D A (ws.set n (h0, .inr (7, [.ref q1, .null, .null, .null, .null, .null, .null, .null, .null, .int 0, .null, .null])) ++ [(q1, .inr (5, [.ref q2])), (q2, .inl (cA 0, 109, .inl (f48 72)))]) := hD
  refine lv_aload_n hx hb (k := 0) (i := 0) (x := h0) (by decide +kernel) rfl (lv_at hl 0 rfl) ?_
  refine va_new (ci := 1) (fs := [.null]) (C := RX1) (T := TX1) (N := 1) hx hb hts (c_uws (c := 1) (by decide)) tyX1 tyX1_ok hown (ts_of' hts (ct 35 rfl) rfl) (ts_of' hts (ct 36 rfl) rfl) (ts_of' hts (ct 37 rfl) rfl) hK hP hD hS hA rfl (by decide +kernel) (Nat.le_of_ble_eq_true rfl) (Nat.le_of_ble_eq_true rfl) (by decide +kernel) (fun q3 H hP hD hS => ?_)
  rw [List.append_assoc] at hP hD
  have hP : va_P D cls9 (ws.set n (h0, .inr (7, [.ref q1, .null, .null, .null, .null, .null, .null, .null, .null, .int 0, .null, .null])) ++ [(q1, .inr (5, [.ref q2])), (q2, .inl (cA 0, 109, .inl (f48 72))), (q3, .inr (1, [.null]))]) H := hP
  have hD : va_D A (ws.set n (h0, .inr (7, [.ref q1, .null, .null, .null, .null, .null, .null, .null, .null, .int 0, .null, .null])) ++ [(q1, .inr (5, [.ref q2])), (q2, .inl (cA 0, 109, .inl (f48 72))), (q3, .inr (1, [.null]))]) := hD
  refine lv_dup hx hb (by decide +kernel) rfl ?_
  refine lv_aload_n hx hb (k := 0) (i := 0) (x := h0) (by decide +kernel) rfl (lv_at hl 0 rfl) ?_
  refine va_get (D := D) (ci := 7) (v := .ref q1) (C := RX7) (T := TX7) (N := 12) hx hb hts (c_uws (c := 7) (by decide)) hown hK hP n (ws_get hlt) rfl 0 (by decide) (ts_of' hts (ct 34 rfl) rfl) (fun _ h9 => h9) rfl (by decide +kernel) ?_
  refine ci_I (own := RX7) (n := 1) (As := [.ref q1]) (rest := [.ref q3, .ref h0]) (k_game (ws := ws.set n (h0, .inr (7, [.ref q1, .null, .null, .null, .null, .null, .null, .null, .null, .int 0, .null, .null])) ++ [(q1, .inr (5, [.ref q2])), (q2, .inl (cA 0, 109, .inl (f48 72))), (q3, .inr (1, [.null]))]) (n := ws.length + 2) (h0 := q3) (ws_get2.trans rfl) q1) hx hts hb hown hP hD hK hWX hA hS (hl.1.trans hml.symm) (ct 38 rfl) (ct 39 rfl) (ct 37 rfl) (ct 40 rfl) rfl ⟨by decide, by decide, by decide +kernel⟩ rfl ⟨Nat.le_of_ble_eq_true rfl, Nat.le_of_ble_eq_true rfl, Nat.le_of_ble_eq_true rfl, Nat.le_of_ble_eq_true rfl⟩ (Nat.le_of_ble_eq_true rfl) (by decide +kernel) rfl (fun ws' H locs hG hP hD hS => ?_)
  subst hG
  rw [ws_put2, List.append_nil] at hP hD
  have hP : va_P D cls9 (ws.set n (h0, .inr (7, [.ref q1, .null, .null, .null, .null, .null, .null, .null, .null, .int 0, .null, .null])) ++ [(q1, .inr (5, [.ref q2])), (q2, .inl (cA 0, 109, .inl (f48 72))), (q3, .inr (1, [.ref q1]))]) H := hP
  have hD : va_D A (ws.set n (h0, .inr (7, [.ref q1, .null, .null, .null, .null, .null, .null, .null, .null, .int 0, .null, .null])) ++ [(q1, .inr (5, [.ref q2])), (q2, .inl (cA 0, 109, .inl (f48 72))), (q3, .inr (1, [.ref q1]))]) := hD
  refine va_putF (D := D) (ci := 7) (v := .ref q3) (ty := tyX7 1) (C := RX7) (T := TX7) (N := 12) hx hb hts (c_uws (c := 7) (by decide)) tyX7 tyX7_ok nmX7 hown hK hP hD hS n (ws_get hlt) rfl 1 (by decide) (ts_of' hts (ct 41 rfl) rfl) (fun _ h9 => h9) rfl hin rfl (tyX7_ok 1 (by decide)) rfl rfl (Nat.le_of_ble_eq_true rfl) (by decide +kernel) (fun H locs hP hD hS => ?_)
  rw [ws_put hlt] at hP hD
  have hP : va_P D cls9 (ws.set n (h0, .inr (7, [.ref q1, .ref q3, .null, .null, .null, .null, .null, .null, .null, .int 0, .null, .null])) ++ [(q1, .inr (5, [.ref q2])), (q2, .inl (cA 0, 109, .inl (f48 72))), (q3, .inr (1, [.ref q1]))]) H := hP
  have hD : va_D A (ws.set n (h0, .inr (7, [.ref q1, .ref q3, .null, .null, .null, .null, .null, .null, .null, .int 0, .null, .null])) ++ [(q1, .inr (5, [.ref q2])), (q2, .inl (cA 0, 109, .inl (f48 72))), (q3, .inr (1, [.ref q1]))]) := hD
  refine lv_aload_n hx hb (k := 0) (i := 0) (x := h0) (by decide +kernel) rfl (lv_at hl 0 rfl) ?_
  refine va_new (ci := 5) (fs := [.null]) (C := RX5) (T := TX5) (N := 1) hx hb hts (c_uws (c := 5) (by decide)) tyX5 tyX5_ok hown (ts_of' hts (ct 29 rfl) rfl) (ts_of' hts (ct 30 rfl) rfl) (ts_of' hts (ct 26 rfl) rfl) hK hP hD hS hA rfl (by decide +kernel) (Nat.le_of_ble_eq_true rfl) (Nat.le_of_ble_eq_true rfl) (by decide +kernel) (fun q4 H hP hD hS => ?_)
  rw [List.append_assoc] at hP hD
  have hP : va_P D cls9 (ws.set n (h0, .inr (7, [.ref q1, .ref q3, .null, .null, .null, .null, .null, .null, .null, .int 0, .null, .null])) ++ [(q1, .inr (5, [.ref q2])), (q2, .inl (cA 0, 109, .inl (f48 72))), (q3, .inr (1, [.ref q1])), (q4, .inr (5, [.null]))]) H := hP
  have hD : va_D A (ws.set n (h0, .inr (7, [.ref q1, .ref q3, .null, .null, .null, .null, .null, .null, .null, .int 0, .null, .null])) ++ [(q1, .inr (5, [.ref q2])), (q2, .inl (cA 0, 109, .inl (f48 72))), (q3, .inr (1, [.ref q1])), (q4, .inr (5, [.null]))]) := hD
  refine lv_dup hx hb (by decide +kernel) rfl ?_
  refine ci_I (own := RX7) (n := 0) (As := []) (rest := [.ref q4, .ref h0]) (k_rivers (ws := ws.set n (h0, .inr (7, [.ref q1, .ref q3, .null, .null, .null, .null, .null, .null, .null, .int 0, .null, .null])) ++ [(q1, .inr (5, [.ref q2])), (q2, .inl (cA 0, 109, .inl (f48 72))), (q3, .inr (1, [.ref q1])), (q4, .inr (5, [.null]))]) (n := ws.length + 3) (h0 := q4) (ws_get2.trans rfl)) hx hts hb hown hP hD hK hWX hA hS (hl.1.trans hml.symm) (ct 31 rfl) (ct 32 rfl) (ct 26 rfl) (ct 33 rfl) rfl ⟨by decide, by decide, by decide +kernel⟩ rfl ⟨Nat.le_of_ble_eq_true rfl, Nat.le_of_ble_eq_true rfl, Nat.le_of_ble_eq_true rfl, Nat.le_of_ble_eq_true rfl⟩ (Nat.le_of_ble_eq_true rfl) (by decide +kernel) rfl (fun ws' H locs hG hP hD hS => ?_)
  obtain ⟨q5, rfl⟩ := hG
  rw [ws_put2, List.append_assoc] at hP hD
  have hP : va_P D cls9 (ws.set n (h0, .inr (7, [.ref q1, .ref q3, .null, .null, .null, .null, .null, .null, .null, .int 0, .null, .null])) ++ [(q1, .inr (5, [.ref q2])), (q2, .inl (cA 0, 109, .inl (f48 72))), (q3, .inr (1, [.ref q1])), (q4, .inr (5, [.ref q5])), (q5, .inl (cA 0, 109, .inl (f48 72)))]) H := hP
  have hD : va_D A (ws.set n (h0, .inr (7, [.ref q1, .ref q3, .null, .null, .null, .null, .null, .null, .null, .int 0, .null, .null])) ++ [(q1, .inr (5, [.ref q2])), (q2, .inl (cA 0, 109, .inl (f48 72))), (q3, .inr (1, [.ref q1])), (q4, .inr (5, [.ref q5])), (q5, .inl (cA 0, 109, .inl (f48 72)))]) := hD
  refine va_putF (D := D) (ci := 7) (v := .ref q4) (ty := tyX7 2) (C := RX7) (T := TX7) (N := 12) hx hb hts (c_uws (c := 7) (by decide)) tyX7 tyX7_ok nmX7 hown hK hP hD hS n (ws_get hlt) rfl 2 (by decide) (ts_of' hts (ct 42 rfl) rfl) (fun _ h9 => h9) rfl hin rfl (tyX7_ok 2 (by decide)) rfl rfl (Nat.le_of_ble_eq_true rfl) (by decide +kernel) (fun H locs hP hD hS => ?_)
  rw [ws_put hlt] at hP hD
  have hP : va_P D cls9 (ws.set n (h0, .inr (7, [.ref q1, .ref q3, .ref q4, .null, .null, .null, .null, .null, .null, .int 0, .null, .null])) ++ [(q1, .inr (5, [.ref q2])), (q2, .inl (cA 0, 109, .inl (f48 72))), (q3, .inr (1, [.ref q1])), (q4, .inr (5, [.ref q5])), (q5, .inl (cA 0, 109, .inl (f48 72)))]) H := hP
  have hD : va_D A (ws.set n (h0, .inr (7, [.ref q1, .ref q3, .ref q4, .null, .null, .null, .null, .null, .null, .int 0, .null, .null])) ++ [(q1, .inr (5, [.ref q2])), (q2, .inl (cA 0, 109, .inl (f48 72))), (q3, .inr (1, [.ref q1])), (q4, .inr (5, [.ref q5])), (q5, .inl (cA 0, 109, .inl (f48 72)))]) := hD
  refine lv_aload_n hx hb (k := 0) (i := 0) (x := h0) (by decide +kernel) rfl (lv_at hl 0 rfl) ?_
  refine va_new (ci := 1) (fs := [.null]) (C := RX1) (T := TX1) (N := 1) hx hb hts (c_uws (c := 1) (by decide)) tyX1 tyX1_ok hown (ts_of' hts (ct 35 rfl) rfl) (ts_of' hts (ct 36 rfl) rfl) (ts_of' hts (ct 37 rfl) rfl) hK hP hD hS hA rfl (by decide +kernel) (Nat.le_of_ble_eq_true rfl) (Nat.le_of_ble_eq_true rfl) (by decide +kernel) (fun q6 H hP hD hS => ?_)
  rw [List.append_assoc] at hP hD
  have hP : va_P D cls9 (ws.set n (h0, .inr (7, [.ref q1, .ref q3, .ref q4, .null, .null, .null, .null, .null, .null, .int 0, .null, .null])) ++ [(q1, .inr (5, [.ref q2])), (q2, .inl (cA 0, 109, .inl (f48 72))), (q3, .inr (1, [.ref q1])), (q4, .inr (5, [.ref q5])), (q5, .inl (cA 0, 109, .inl (f48 72))), (q6, .inr (1, [.null]))]) H := hP
  have hD : va_D A (ws.set n (h0, .inr (7, [.ref q1, .ref q3, .ref q4, .null, .null, .null, .null, .null, .null, .int 0, .null, .null])) ++ [(q1, .inr (5, [.ref q2])), (q2, .inl (cA 0, 109, .inl (f48 72))), (q3, .inr (1, [.ref q1])), (q4, .inr (5, [.ref q5])), (q5, .inl (cA 0, 109, .inl (f48 72))), (q6, .inr (1, [.null]))]) := hD
  refine lv_dup hx hb (by decide +kernel) rfl ?_
  refine lv_aload_n hx hb (k := 0) (i := 0) (x := h0) (by decide +kernel) rfl (lv_at hl 0 rfl) ?_
  refine va_get (D := D) (ci := 7) (v := .ref q4) (C := RX7) (T := TX7) (N := 12) hx hb hts (c_uws (c := 7) (by decide)) hown hK hP n (ws_get hlt) rfl 2 (by decide) (ts_of' hts (ct 42 rfl) rfl) (fun _ h9 => h9) rfl (by decide +kernel) ?_
  refine ci_I (own := RX7) (n := 1) (As := [.ref q4]) (rest := [.ref q6, .ref h0]) (k_game (ws := ws.set n (h0, .inr (7, [.ref q1, .ref q3, .ref q4, .null, .null, .null, .null, .null, .null, .int 0, .null, .null])) ++ [(q1, .inr (5, [.ref q2])), (q2, .inl (cA 0, 109, .inl (f48 72))), (q3, .inr (1, [.ref q1])), (q4, .inr (5, [.ref q5])), (q5, .inl (cA 0, 109, .inl (f48 72))), (q6, .inr (1, [.null]))]) (n := ws.length + 5) (h0 := q6) (ws_get2.trans rfl) q4) hx hts hb hown hP hD hK hWX hA hS (hl.1.trans hml.symm) (ct 38 rfl) (ct 39 rfl) (ct 37 rfl) (ct 40 rfl) rfl ⟨by decide, by decide, by decide +kernel⟩ rfl ⟨Nat.le_of_ble_eq_true rfl, Nat.le_of_ble_eq_true rfl, Nat.le_of_ble_eq_true rfl, Nat.le_of_ble_eq_true rfl⟩ (Nat.le_of_ble_eq_true rfl) (by decide +kernel) rfl (fun ws' H locs hG hP hD hS => ?_)
  subst hG
  rw [ws_put2, List.append_nil] at hP hD
  have hP : va_P D cls9 (ws.set n (h0, .inr (7, [.ref q1, .ref q3, .ref q4, .null, .null, .null, .null, .null, .null, .int 0, .null, .null])) ++ [(q1, .inr (5, [.ref q2])), (q2, .inl (cA 0, 109, .inl (f48 72))), (q3, .inr (1, [.ref q1])), (q4, .inr (5, [.ref q5])), (q5, .inl (cA 0, 109, .inl (f48 72))), (q6, .inr (1, [.ref q4]))]) H := hP
  have hD : va_D A (ws.set n (h0, .inr (7, [.ref q1, .ref q3, .ref q4, .null, .null, .null, .null, .null, .null, .int 0, .null, .null])) ++ [(q1, .inr (5, [.ref q2])), (q2, .inl (cA 0, 109, .inl (f48 72))), (q3, .inr (1, [.ref q1])), (q4, .inr (5, [.ref q5])), (q5, .inl (cA 0, 109, .inl (f48 72))), (q6, .inr (1, [.ref q4]))]) := hD
  refine va_putF (D := D) (ci := 7) (v := .ref q6) (ty := tyX7 3) (C := RX7) (T := TX7) (N := 12) hx hb hts (c_uws (c := 7) (by decide)) tyX7 tyX7_ok nmX7 hown hK hP hD hS n (ws_get hlt) rfl 3 (by decide) (ts_of' hts (ct 43 rfl) rfl) (fun _ h9 => h9) rfl hin rfl (tyX7_ok 3 (by decide)) rfl rfl (Nat.le_of_ble_eq_true rfl) (by decide +kernel) (fun H locs hP hD hS => ?_)
  rw [ws_put hlt] at hP hD
  have hP : va_P D cls9 (ws.set n (h0, .inr (7, [.ref q1, .ref q3, .ref q4, .ref q6, .null, .null, .null, .null, .null, .int 0, .null, .null])) ++ [(q1, .inr (5, [.ref q2])), (q2, .inl (cA 0, 109, .inl (f48 72))), (q3, .inr (1, [.ref q1])), (q4, .inr (5, [.ref q5])), (q5, .inl (cA 0, 109, .inl (f48 72))), (q6, .inr (1, [.ref q4]))]) H := hP
  have hD : va_D A (ws.set n (h0, .inr (7, [.ref q1, .ref q3, .ref q4, .ref q6, .null, .null, .null, .null, .null, .int 0, .null, .null])) ++ [(q1, .inr (5, [.ref q2])), (q2, .inl (cA 0, 109, .inl (f48 72))), (q3, .inr (1, [.ref q1])), (q4, .inr (5, [.ref q5])), (q5, .inl (cA 0, 109, .inl (f48 72))), (q6, .inr (1, [.ref q4]))]) := hD
  refine lv_aload_n hx hb (k := 0) (i := 0) (x := h0) (by decide +kernel) rfl (lv_at hl 0 rfl) ?_
  refine va_new (ci := 4) (fs := [.null, .null, .int 0]) (C := RX4) (T := TX4) (N := 3) hx hb hts (c_uws (c := 4) (by decide)) tyX4 tyX4_ok hown (ts_of' hts (ct 44 rfl) rfl) (ts_of' hts (ct 45 rfl) rfl) (ts_of' hts (ct 46 rfl) rfl) hK hP hD hS hA rfl (by decide +kernel) (Nat.le_of_ble_eq_true rfl) (Nat.le_of_ble_eq_true rfl) (by decide +kernel) (fun q7 H hP hD hS => ?_)
  rw [List.append_assoc] at hP hD
  have hP : va_P D cls9 (ws.set n (h0, .inr (7, [.ref q1, .ref q3, .ref q4, .ref q6, .null, .null, .null, .null, .null, .int 0, .null, .null])) ++ [(q1, .inr (5, [.ref q2])), (q2, .inl (cA 0, 109, .inl (f48 72))), (q3, .inr (1, [.ref q1])), (q4, .inr (5, [.ref q5])), (q5, .inl (cA 0, 109, .inl (f48 72))), (q6, .inr (1, [.ref q4])), (q7, .inr (4, [.null, .null, .int 0]))]) H := hP
  have hD : va_D A (ws.set n (h0, .inr (7, [.ref q1, .ref q3, .ref q4, .ref q6, .null, .null, .null, .null, .null, .int 0, .null, .null])) ++ [(q1, .inr (5, [.ref q2])), (q2, .inl (cA 0, 109, .inl (f48 72))), (q3, .inr (1, [.ref q1])), (q4, .inr (5, [.ref q5])), (q5, .inl (cA 0, 109, .inl (f48 72))), (q6, .inr (1, [.ref q4])), (q7, .inr (4, [.null, .null, .int 0]))]) := hD
  refine lv_dup hx hb (by decide +kernel) rfl ?_
  refine ci_IN (own := RX7) (n := 0) (As := []) (rest := [.ref q7, .ref h0]) (k_reasons (ws := ws.set n (h0, .inr (7, [.ref q1, .ref q3, .ref q4, .ref q6, .null, .null, .null, .null, .null, .int 0, .null, .null])) ++ [(q1, .inr (5, [.ref q2])), (q2, .inl (cA 0, 109, .inl (f48 72))), (q3, .inr (1, [.ref q1])), (q4, .inr (5, [.ref q5])), (q5, .inl (cA 0, 109, .inl (f48 72))), (q6, .inr (1, [.ref q4])), (q7, .inr (4, [.null, .null, .int 0]))]) (n := ws.length + 6) (h0 := q7) (ws_get2.trans rfl)) hx hts hb hown hP hD hK hWX hA hS (hl.1.trans hml.symm) (ct 47 rfl) (ct 48 rfl) (ct 46 rfl) (ct 49 rfl) rfl ⟨by decide, by decide, by decide +kernel⟩ rfl ⟨Nat.le_of_ble_eq_true rfl, Nat.le_of_ble_eq_true rfl, Nat.le_of_ble_eq_true rfl, Nat.le_of_ble_eq_true rfl⟩ (Nat.le_of_ble_eq_true rfl) (by decide +kernel) rfl (fun ws' H locs hG hP hD hS => ?_)
  obtain ⟨q8, q9, rfl⟩ := hG
  rw [ws_put2, List.append_assoc] at hP hD
  have hP : va_P D cls9 (ws.set n (h0, .inr (7, [.ref q1, .ref q3, .ref q4, .ref q6, .null, .null, .null, .null, .null, .int 0, .null, .null])) ++ [(q1, .inr (5, [.ref q2])), (q2, .inl (cA 0, 109, .inl (f48 72))), (q3, .inr (1, [.ref q1])), (q4, .inr (5, [.ref q5])), (q5, .inl (cA 0, 109, .inl (f48 72))), (q6, .inr (1, [.ref q4])), (q7, .inr (4, [.ref q8, .ref q9, .int 0])), (q8, .inl (cA 0, 3, .inl (fun _ => 0))), (q9, .inl (cA 0, 3, .inl (fun _ => 0)))]) H := hP
  have hD : va_D A (ws.set n (h0, .inr (7, [.ref q1, .ref q3, .ref q4, .ref q6, .null, .null, .null, .null, .null, .int 0, .null, .null])) ++ [(q1, .inr (5, [.ref q2])), (q2, .inl (cA 0, 109, .inl (f48 72))), (q3, .inr (1, [.ref q1])), (q4, .inr (5, [.ref q5])), (q5, .inl (cA 0, 109, .inl (f48 72))), (q6, .inr (1, [.ref q4])), (q7, .inr (4, [.ref q8, .ref q9, .int 0])), (q8, .inl (cA 0, 3, .inl (fun _ => 0))), (q9, .inl (cA 0, 3, .inl (fun _ => 0)))]) := hD
  refine va_putF (D := D) (ci := 7) (v := .ref q7) (ty := tyX7 4) (C := RX7) (T := TX7) (N := 12) hx hb hts (c_uws (c := 7) (by decide)) tyX7 tyX7_ok nmX7 hown hK hP hD hS n (ws_get hlt) rfl 4 (by decide) (ts_of' hts (ct 50 rfl) rfl) (fun _ h9 => h9) rfl hin rfl (tyX7_ok 4 (by decide)) rfl rfl (Nat.le_of_ble_eq_true rfl) (by decide +kernel) (fun H locs hP hD hS => ?_)
  rw [ws_put hlt] at hP hD
  have hP : va_P D cls9 (ws.set n (h0, .inr (7, [.ref q1, .ref q3, .ref q4, .ref q6, .ref q7, .null, .null, .null, .null, .int 0, .null, .null])) ++ [(q1, .inr (5, [.ref q2])), (q2, .inl (cA 0, 109, .inl (f48 72))), (q3, .inr (1, [.ref q1])), (q4, .inr (5, [.ref q5])), (q5, .inl (cA 0, 109, .inl (f48 72))), (q6, .inr (1, [.ref q4])), (q7, .inr (4, [.ref q8, .ref q9, .int 0])), (q8, .inl (cA 0, 3, .inl (fun _ => 0))), (q9, .inl (cA 0, 3, .inl (fun _ => 0)))]) H := hP
  have hD : va_D A (ws.set n (h0, .inr (7, [.ref q1, .ref q3, .ref q4, .ref q6, .ref q7, .null, .null, .null, .null, .int 0, .null, .null])) ++ [(q1, .inr (5, [.ref q2])), (q2, .inl (cA 0, 109, .inl (f48 72))), (q3, .inr (1, [.ref q1])), (q4, .inr (5, [.ref q5])), (q5, .inl (cA 0, 109, .inl (f48 72))), (q6, .inr (1, [.ref q4])), (q7, .inr (4, [.ref q8, .ref q9, .int 0])), (q8, .inl (cA 0, 3, .inl (fun _ => 0))), (q9, .inl (cA 0, 3, .inl (fun _ => 0)))]) := hD
  refine lv_aload_n hx hb (k := 0) (i := 0) (x := h0) (by decide +kernel) rfl (lv_at hl 0 rfl) ?_
  refine va_new (ci := 0) (fs := [.null, .null, .null]) (C := RX0) (T := TX0) (N := 3) hx hb hts (c_uws (c := 0) (by decide)) tyX0 tyX0_ok hown (ts_of' hts (ct 51 rfl) rfl) (ts_of' hts (ct 52 rfl) rfl) (ts_of' hts (ct 53 rfl) rfl) hK hP hD hS hA rfl (by decide +kernel) (Nat.le_of_ble_eq_true rfl) (Nat.le_of_ble_eq_true rfl) (by decide +kernel) (fun q10 H hP hD hS => ?_)
  rw [List.append_assoc] at hP hD
  have hP : va_P D cls9 (ws.set n (h0, .inr (7, [.ref q1, .ref q3, .ref q4, .ref q6, .ref q7, .null, .null, .null, .null, .int 0, .null, .null])) ++ [(q1, .inr (5, [.ref q2])), (q2, .inl (cA 0, 109, .inl (f48 72))), (q3, .inr (1, [.ref q1])), (q4, .inr (5, [.ref q5])), (q5, .inl (cA 0, 109, .inl (f48 72))), (q6, .inr (1, [.ref q4])), (q7, .inr (4, [.ref q8, .ref q9, .int 0])), (q8, .inl (cA 0, 3, .inl (fun _ => 0))), (q9, .inl (cA 0, 3, .inl (fun _ => 0))), (q10, .inr (0, [.null, .null, .null]))]) H := hP
  have hD : va_D A (ws.set n (h0, .inr (7, [.ref q1, .ref q3, .ref q4, .ref q6, .ref q7, .null, .null, .null, .null, .int 0, .null, .null])) ++ [(q1, .inr (5, [.ref q2])), (q2, .inl (cA 0, 109, .inl (f48 72))), (q3, .inr (1, [.ref q1])), (q4, .inr (5, [.ref q5])), (q5, .inl (cA 0, 109, .inl (f48 72))), (q6, .inr (1, [.ref q4])), (q7, .inr (4, [.ref q8, .ref q9, .int 0])), (q8, .inl (cA 0, 3, .inl (fun _ => 0))), (q9, .inl (cA 0, 3, .inl (fun _ => 0))), (q10, .inr (0, [.null, .null, .null]))]) := hD
  refine lv_dup hx hb (by decide +kernel) rfl ?_
  refine lv_aload_n hx hb (k := 0) (i := 0) (x := h0) (by decide +kernel) rfl (lv_at hl 0 rfl) ?_
  refine va_get (D := D) (ci := 7) (v := .ref q1) (C := RX7) (T := TX7) (N := 12) hx hb hts (c_uws (c := 7) (by decide)) hown hK hP n (ws_get hlt) rfl 0 (by decide) (ts_of' hts (ct 34 rfl) rfl) (fun _ h9 => h9) rfl (by decide +kernel) ?_
  refine lv_aload_n hx hb (k := 0) (i := 0) (x := h0) (by decide +kernel) rfl (lv_at hl 0 rfl) ?_
  refine va_get (D := D) (ci := 7) (v := .ref q3) (C := RX7) (T := TX7) (N := 12) hx hb hts (c_uws (c := 7) (by decide)) hown hK hP n (ws_get hlt) rfl 1 (by decide) (ts_of' hts (ct 41 rfl) rfl) (fun _ h9 => h9) rfl (by decide +kernel) ?_
  refine lv_aload_n hx hb (k := 0) (i := 0) (x := h0) (by decide +kernel) rfl (lv_at hl 0 rfl) ?_
  refine va_get (D := D) (ci := 7) (v := .ref q7) (C := RX7) (T := TX7) (N := 12) hx hb hts (c_uws (c := 7) (by decide)) hown hK hP n (ws_get hlt) rfl 4 (by decide) (ts_of' hts (ct 50 rfl) rfl) (fun _ h9 => h9) rfl (by decide +kernel) ?_
  refine ci_I (own := RX7) (n := 3) (As := [.ref q1, .ref q3, .ref q7]) (rest := [.ref q10, .ref h0]) (k_desk (ws := ws.set n (h0, .inr (7, [.ref q1, .ref q3, .ref q4, .ref q6, .ref q7, .null, .null, .null, .null, .int 0, .null, .null])) ++ [(q1, .inr (5, [.ref q2])), (q2, .inl (cA 0, 109, .inl (f48 72))), (q3, .inr (1, [.ref q1])), (q4, .inr (5, [.ref q5])), (q5, .inl (cA 0, 109, .inl (f48 72))), (q6, .inr (1, [.ref q4])), (q7, .inr (4, [.ref q8, .ref q9, .int 0])), (q8, .inl (cA 0, 3, .inl (fun _ => 0))), (q9, .inl (cA 0, 3, .inl (fun _ => 0))), (q10, .inr (0, [.null, .null, .null]))]) (n := ws.length + 9) (h0 := q10) (ws_get2.trans rfl) q1 q3 q7) hx hts hb hown hP hD hK hWX hA hS (hl.1.trans hml.symm) (ct 54 rfl) (ct 55 rfl) (ct 53 rfl) (ct 56 rfl) rfl ⟨by decide, by decide, by decide +kernel⟩ rfl ⟨Nat.le_of_ble_eq_true rfl, Nat.le_of_ble_eq_true rfl, Nat.le_of_ble_eq_true rfl, Nat.le_of_ble_eq_true rfl⟩ (Nat.le_of_ble_eq_true rfl) (by decide +kernel) rfl (fun ws' H locs hG hP hD hS => ?_)
  subst hG
  rw [ws_put2, List.append_nil] at hP hD
  have hP : va_P D cls9 (ws.set n (h0, .inr (7, [.ref q1, .ref q3, .ref q4, .ref q6, .ref q7, .null, .null, .null, .null, .int 0, .null, .null])) ++ [(q1, .inr (5, [.ref q2])), (q2, .inl (cA 0, 109, .inl (f48 72))), (q3, .inr (1, [.ref q1])), (q4, .inr (5, [.ref q5])), (q5, .inl (cA 0, 109, .inl (f48 72))), (q6, .inr (1, [.ref q4])), (q7, .inr (4, [.ref q8, .ref q9, .int 0])), (q8, .inl (cA 0, 3, .inl (fun _ => 0))), (q9, .inl (cA 0, 3, .inl (fun _ => 0))), (q10, .inr (0, [.ref q1, .ref q3, .ref q7]))]) H := hP
  have hD : va_D A (ws.set n (h0, .inr (7, [.ref q1, .ref q3, .ref q4, .ref q6, .ref q7, .null, .null, .null, .null, .int 0, .null, .null])) ++ [(q1, .inr (5, [.ref q2])), (q2, .inl (cA 0, 109, .inl (f48 72))), (q3, .inr (1, [.ref q1])), (q4, .inr (5, [.ref q5])), (q5, .inl (cA 0, 109, .inl (f48 72))), (q6, .inr (1, [.ref q4])), (q7, .inr (4, [.ref q8, .ref q9, .int 0])), (q8, .inl (cA 0, 3, .inl (fun _ => 0))), (q9, .inl (cA 0, 3, .inl (fun _ => 0))), (q10, .inr (0, [.ref q1, .ref q3, .ref q7]))]) := hD
  refine va_putF (D := D) (ci := 7) (v := .ref q10) (ty := tyX7 5) (C := RX7) (T := TX7) (N := 12) hx hb hts (c_uws (c := 7) (by decide)) tyX7 tyX7_ok nmX7 hown hK hP hD hS n (ws_get hlt) rfl 5 (by decide) (ts_of' hts (ct 57 rfl) rfl) (fun _ h9 => h9) rfl hin rfl (tyX7_ok 5 (by decide)) rfl rfl (Nat.le_of_ble_eq_true rfl) (by decide +kernel) (fun H locs hP hD hS => ?_)
  rw [ws_put hlt] at hP hD
  have hP : va_P D cls9 (ws.set n (h0, .inr (7, [.ref q1, .ref q3, .ref q4, .ref q6, .ref q7, .ref q10, .null, .null, .null, .int 0, .null, .null])) ++ [(q1, .inr (5, [.ref q2])), (q2, .inl (cA 0, 109, .inl (f48 72))), (q3, .inr (1, [.ref q1])), (q4, .inr (5, [.ref q5])), (q5, .inl (cA 0, 109, .inl (f48 72))), (q6, .inr (1, [.ref q4])), (q7, .inr (4, [.ref q8, .ref q9, .int 0])), (q8, .inl (cA 0, 3, .inl (fun _ => 0))), (q9, .inl (cA 0, 3, .inl (fun _ => 0))), (q10, .inr (0, [.ref q1, .ref q3, .ref q7]))]) H := hP
  have hD : va_D A (ws.set n (h0, .inr (7, [.ref q1, .ref q3, .ref q4, .ref q6, .ref q7, .ref q10, .null, .null, .null, .int 0, .null, .null])) ++ [(q1, .inr (5, [.ref q2])), (q2, .inl (cA 0, 109, .inl (f48 72))), (q3, .inr (1, [.ref q1])), (q4, .inr (5, [.ref q5])), (q5, .inl (cA 0, 109, .inl (f48 72))), (q6, .inr (1, [.ref q4])), (q7, .inr (4, [.ref q8, .ref q9, .int 0])), (q8, .inl (cA 0, 3, .inl (fun _ => 0))), (q9, .inl (cA 0, 3, .inl (fun _ => 0))), (q10, .inr (0, [.ref q1, .ref q3, .ref q7]))]) := hD
  refine lv_aload_n hx hb (k := 0) (i := 0) (x := h0) (by decide +kernel) rfl (lv_at hl 0 rfl) ?_
  refine va_new (ci := 0) (fs := [.null, .null, .null]) (C := RX0) (T := TX0) (N := 3) hx hb hts (c_uws (c := 0) (by decide)) tyX0 tyX0_ok hown (ts_of' hts (ct 51 rfl) rfl) (ts_of' hts (ct 52 rfl) rfl) (ts_of' hts (ct 53 rfl) rfl) hK hP hD hS hA rfl (by decide +kernel) (Nat.le_of_ble_eq_true rfl) (Nat.le_of_ble_eq_true rfl) (by decide +kernel) (fun q11 H hP hD hS => ?_)
  rw [List.append_assoc] at hP hD
  have hP : va_P D cls9 (ws.set n (h0, .inr (7, [.ref q1, .ref q3, .ref q4, .ref q6, .ref q7, .ref q10, .null, .null, .null, .int 0, .null, .null])) ++ [(q1, .inr (5, [.ref q2])), (q2, .inl (cA 0, 109, .inl (f48 72))), (q3, .inr (1, [.ref q1])), (q4, .inr (5, [.ref q5])), (q5, .inl (cA 0, 109, .inl (f48 72))), (q6, .inr (1, [.ref q4])), (q7, .inr (4, [.ref q8, .ref q9, .int 0])), (q8, .inl (cA 0, 3, .inl (fun _ => 0))), (q9, .inl (cA 0, 3, .inl (fun _ => 0))), (q10, .inr (0, [.ref q1, .ref q3, .ref q7])), (q11, .inr (0, [.null, .null, .null]))]) H := hP
  have hD : va_D A (ws.set n (h0, .inr (7, [.ref q1, .ref q3, .ref q4, .ref q6, .ref q7, .ref q10, .null, .null, .null, .int 0, .null, .null])) ++ [(q1, .inr (5, [.ref q2])), (q2, .inl (cA 0, 109, .inl (f48 72))), (q3, .inr (1, [.ref q1])), (q4, .inr (5, [.ref q5])), (q5, .inl (cA 0, 109, .inl (f48 72))), (q6, .inr (1, [.ref q4])), (q7, .inr (4, [.ref q8, .ref q9, .int 0])), (q8, .inl (cA 0, 3, .inl (fun _ => 0))), (q9, .inl (cA 0, 3, .inl (fun _ => 0))), (q10, .inr (0, [.ref q1, .ref q3, .ref q7])), (q11, .inr (0, [.null, .null, .null]))]) := hD
  refine lv_dup hx hb (by decide +kernel) rfl ?_
  refine lv_aload_n hx hb (k := 0) (i := 0) (x := h0) (by decide +kernel) rfl (lv_at hl 0 rfl) ?_
  refine va_get (D := D) (ci := 7) (v := .ref q4) (C := RX7) (T := TX7) (N := 12) hx hb hts (c_uws (c := 7) (by decide)) hown hK hP n (ws_get hlt) rfl 2 (by decide) (ts_of' hts (ct 42 rfl) rfl) (fun _ h9 => h9) rfl (by decide +kernel) ?_
  refine lv_aload_n hx hb (k := 0) (i := 0) (x := h0) (by decide +kernel) rfl (lv_at hl 0 rfl) ?_
  refine va_get (D := D) (ci := 7) (v := .ref q6) (C := RX7) (T := TX7) (N := 12) hx hb hts (c_uws (c := 7) (by decide)) hown hK hP n (ws_get hlt) rfl 3 (by decide) (ts_of' hts (ct 43 rfl) rfl) (fun _ h9 => h9) rfl (by decide +kernel) ?_
  refine lv_aload_n hx hb (k := 0) (i := 0) (x := h0) (by decide +kernel) rfl (lv_at hl 0 rfl) ?_
  refine va_get (D := D) (ci := 7) (v := .ref q7) (C := RX7) (T := TX7) (N := 12) hx hb hts (c_uws (c := 7) (by decide)) hown hK hP n (ws_get hlt) rfl 4 (by decide) (ts_of' hts (ct 50 rfl) rfl) (fun _ h9 => h9) rfl (by decide +kernel) ?_
  refine ci_I (own := RX7) (n := 3) (As := [.ref q4, .ref q6, .ref q7]) (rest := [.ref q11, .ref h0]) (k_desk (ws := ws.set n (h0, .inr (7, [.ref q1, .ref q3, .ref q4, .ref q6, .ref q7, .ref q10, .null, .null, .null, .int 0, .null, .null])) ++ [(q1, .inr (5, [.ref q2])), (q2, .inl (cA 0, 109, .inl (f48 72))), (q3, .inr (1, [.ref q1])), (q4, .inr (5, [.ref q5])), (q5, .inl (cA 0, 109, .inl (f48 72))), (q6, .inr (1, [.ref q4])), (q7, .inr (4, [.ref q8, .ref q9, .int 0])), (q8, .inl (cA 0, 3, .inl (fun _ => 0))), (q9, .inl (cA 0, 3, .inl (fun _ => 0))), (q10, .inr (0, [.ref q1, .ref q3, .ref q7])), (q11, .inr (0, [.null, .null, .null]))]) (n := ws.length + 10) (h0 := q11) (ws_get2.trans rfl) q4 q6 q7) hx hts hb hown hP hD hK hWX hA hS (hl.1.trans hml.symm) (ct 54 rfl) (ct 55 rfl) (ct 53 rfl) (ct 56 rfl) rfl ⟨by decide, by decide, by decide +kernel⟩ rfl ⟨Nat.le_of_ble_eq_true rfl, Nat.le_of_ble_eq_true rfl, Nat.le_of_ble_eq_true rfl, Nat.le_of_ble_eq_true rfl⟩ (Nat.le_of_ble_eq_true rfl) (by decide +kernel) rfl (fun ws' H locs hG hP hD hS => ?_)
  subst hG
  rw [ws_put2, List.append_nil] at hP hD
  have hP : va_P D cls9 (ws.set n (h0, .inr (7, [.ref q1, .ref q3, .ref q4, .ref q6, .ref q7, .ref q10, .null, .null, .null, .int 0, .null, .null])) ++ [(q1, .inr (5, [.ref q2])), (q2, .inl (cA 0, 109, .inl (f48 72))), (q3, .inr (1, [.ref q1])), (q4, .inr (5, [.ref q5])), (q5, .inl (cA 0, 109, .inl (f48 72))), (q6, .inr (1, [.ref q4])), (q7, .inr (4, [.ref q8, .ref q9, .int 0])), (q8, .inl (cA 0, 3, .inl (fun _ => 0))), (q9, .inl (cA 0, 3, .inl (fun _ => 0))), (q10, .inr (0, [.ref q1, .ref q3, .ref q7])), (q11, .inr (0, [.ref q4, .ref q6, .ref q7]))]) H := hP
  have hD : va_D A (ws.set n (h0, .inr (7, [.ref q1, .ref q3, .ref q4, .ref q6, .ref q7, .ref q10, .null, .null, .null, .int 0, .null, .null])) ++ [(q1, .inr (5, [.ref q2])), (q2, .inl (cA 0, 109, .inl (f48 72))), (q3, .inr (1, [.ref q1])), (q4, .inr (5, [.ref q5])), (q5, .inl (cA 0, 109, .inl (f48 72))), (q6, .inr (1, [.ref q4])), (q7, .inr (4, [.ref q8, .ref q9, .int 0])), (q8, .inl (cA 0, 3, .inl (fun _ => 0))), (q9, .inl (cA 0, 3, .inl (fun _ => 0))), (q10, .inr (0, [.ref q1, .ref q3, .ref q7])), (q11, .inr (0, [.ref q4, .ref q6, .ref q7]))]) := hD
  refine va_putF (D := D) (ci := 7) (v := .ref q11) (ty := tyX7 6) (C := RX7) (T := TX7) (N := 12) hx hb hts (c_uws (c := 7) (by decide)) tyX7 tyX7_ok nmX7 hown hK hP hD hS n (ws_get hlt) rfl 6 (by decide) (ts_of' hts (ct 58 rfl) rfl) (fun _ h9 => h9) rfl hin rfl (tyX7_ok 6 (by decide)) rfl rfl (Nat.le_of_ble_eq_true rfl) (by decide +kernel) (fun H locs hP hD hS => ?_)
  rw [ws_put hlt] at hP hD
  have hP : va_P D cls9 (ws.set n (h0, .inr (7, [.ref q1, .ref q3, .ref q4, .ref q6, .ref q7, .ref q10, .ref q11, .null, .null, .int 0, .null, .null])) ++ [(q1, .inr (5, [.ref q2])), (q2, .inl (cA 0, 109, .inl (f48 72))), (q3, .inr (1, [.ref q1])), (q4, .inr (5, [.ref q5])), (q5, .inl (cA 0, 109, .inl (f48 72))), (q6, .inr (1, [.ref q4])), (q7, .inr (4, [.ref q8, .ref q9, .int 0])), (q8, .inl (cA 0, 3, .inl (fun _ => 0))), (q9, .inl (cA 0, 3, .inl (fun _ => 0))), (q10, .inr (0, [.ref q1, .ref q3, .ref q7])), (q11, .inr (0, [.ref q4, .ref q6, .ref q7]))]) H := hP
  have hD : va_D A (ws.set n (h0, .inr (7, [.ref q1, .ref q3, .ref q4, .ref q6, .ref q7, .ref q10, .ref q11, .null, .null, .int 0, .null, .null])) ++ [(q1, .inr (5, [.ref q2])), (q2, .inl (cA 0, 109, .inl (f48 72))), (q3, .inr (1, [.ref q1])), (q4, .inr (5, [.ref q5])), (q5, .inl (cA 0, 109, .inl (f48 72))), (q6, .inr (1, [.ref q4])), (q7, .inr (4, [.ref q8, .ref q9, .int 0])), (q8, .inl (cA 0, 3, .inl (fun _ => 0))), (q9, .inl (cA 0, 3, .inl (fun _ => 0))), (q10, .inr (0, [.ref q1, .ref q3, .ref q7])), (q11, .inr (0, [.ref q4, .ref q6, .ref q7]))]) := hD
  refine lv_aload_n hx hb (k := 0) (i := 0) (x := h0) (by decide +kernel) rfl (lv_at hl 0 rfl) ?_
  refine va_new (ci := 2) (fs := [.null, .int 0, .int 0]) (C := RX2) (T := TX2) (N := 3) hx hb hts (c_uws (c := 2) (by decide)) tyX2 tyX2_ok hown (ts_of' hts (ct 59 rfl) rfl) (ts_of' hts (ct 60 rfl) rfl) (ts_of' hts (ct 61 rfl) rfl) hK hP hD hS hA rfl (by decide +kernel) (Nat.le_of_ble_eq_true rfl) (Nat.le_of_ble_eq_true rfl) (by decide +kernel) (fun q12 H hP hD hS => ?_)
  rw [List.append_assoc] at hP hD
  have hP : va_P D cls9 (ws.set n (h0, .inr (7, [.ref q1, .ref q3, .ref q4, .ref q6, .ref q7, .ref q10, .ref q11, .null, .null, .int 0, .null, .null])) ++ [(q1, .inr (5, [.ref q2])), (q2, .inl (cA 0, 109, .inl (f48 72))), (q3, .inr (1, [.ref q1])), (q4, .inr (5, [.ref q5])), (q5, .inl (cA 0, 109, .inl (f48 72))), (q6, .inr (1, [.ref q4])), (q7, .inr (4, [.ref q8, .ref q9, .int 0])), (q8, .inl (cA 0, 3, .inl (fun _ => 0))), (q9, .inl (cA 0, 3, .inl (fun _ => 0))), (q10, .inr (0, [.ref q1, .ref q3, .ref q7])), (q11, .inr (0, [.ref q4, .ref q6, .ref q7])), (q12, .inr (2, [.null, .int 0, .int 0]))]) H := hP
  have hD : va_D A (ws.set n (h0, .inr (7, [.ref q1, .ref q3, .ref q4, .ref q6, .ref q7, .ref q10, .ref q11, .null, .null, .int 0, .null, .null])) ++ [(q1, .inr (5, [.ref q2])), (q2, .inl (cA 0, 109, .inl (f48 72))), (q3, .inr (1, [.ref q1])), (q4, .inr (5, [.ref q5])), (q5, .inl (cA 0, 109, .inl (f48 72))), (q6, .inr (1, [.ref q4])), (q7, .inr (4, [.ref q8, .ref q9, .int 0])), (q8, .inl (cA 0, 3, .inl (fun _ => 0))), (q9, .inl (cA 0, 3, .inl (fun _ => 0))), (q10, .inr (0, [.ref q1, .ref q3, .ref q7])), (q11, .inr (0, [.ref q4, .ref q6, .ref q7])), (q12, .inr (2, [.null, .int 0, .int 0]))]) := hD
  refine lv_dup hx hb (by decide +kernel) rfl ?_
  refine ci_IN (own := RX7) (n := 0) (As := []) (rest := [.ref q12, .ref h0]) (k_history (ws := ws.set n (h0, .inr (7, [.ref q1, .ref q3, .ref q4, .ref q6, .ref q7, .ref q10, .ref q11, .null, .null, .int 0, .null, .null])) ++ [(q1, .inr (5, [.ref q2])), (q2, .inl (cA 0, 109, .inl (f48 72))), (q3, .inr (1, [.ref q1])), (q4, .inr (5, [.ref q5])), (q5, .inl (cA 0, 109, .inl (f48 72))), (q6, .inr (1, [.ref q4])), (q7, .inr (4, [.ref q8, .ref q9, .int 0])), (q8, .inl (cA 0, 3, .inl (fun _ => 0))), (q9, .inl (cA 0, 3, .inl (fun _ => 0))), (q10, .inr (0, [.ref q1, .ref q3, .ref q7])), (q11, .inr (0, [.ref q4, .ref q6, .ref q7])), (q12, .inr (2, [.null, .int 0, .int 0]))]) (n := ws.length + 11) (h0 := q12) (ws_get2.trans rfl)) hx hts hb hown hP hD hK hWX hA hS (hl.1.trans hml.symm) (ct 62 rfl) (ct 63 rfl) (ct 61 rfl) (ct 64 rfl) rfl ⟨by decide, by decide, by decide +kernel⟩ rfl ⟨Nat.le_of_ble_eq_true rfl, Nat.le_of_ble_eq_true rfl, Nat.le_of_ble_eq_true rfl, Nat.le_of_ble_eq_true rfl⟩ (Nat.le_of_ble_eq_true rfl) (by decide +kernel) rfl (fun ws' H locs hG hP hD hS => ?_)
  obtain ⟨q13, rfl⟩ := hG
  rw [ws_put2, List.append_assoc] at hP hD
  have hP : va_P D cls9 (ws.set n (h0, .inr (7, [.ref q1, .ref q3, .ref q4, .ref q6, .ref q7, .ref q10, .ref q11, .null, .null, .int 0, .null, .null])) ++ [(q1, .inr (5, [.ref q2])), (q2, .inl (cA 0, 109, .inl (f48 72))), (q3, .inr (1, [.ref q1])), (q4, .inr (5, [.ref q5])), (q5, .inl (cA 0, 109, .inl (f48 72))), (q6, .inr (1, [.ref q4])), (q7, .inr (4, [.ref q8, .ref q9, .int 0])), (q8, .inl (cA 0, 3, .inl (fun _ => 0))), (q9, .inl (cA 0, 3, .inl (fun _ => 0))), (q10, .inr (0, [.ref q1, .ref q3, .ref q7])), (q11, .inr (0, [.ref q4, .ref q6, .ref q7])), (q12, .inr (2, [.ref q13, .int 0, .int 0])), (q13, .inl (cA 0, 872, .inl (fun _ => 0)))]) H := hP
  have hD : va_D A (ws.set n (h0, .inr (7, [.ref q1, .ref q3, .ref q4, .ref q6, .ref q7, .ref q10, .ref q11, .null, .null, .int 0, .null, .null])) ++ [(q1, .inr (5, [.ref q2])), (q2, .inl (cA 0, 109, .inl (f48 72))), (q3, .inr (1, [.ref q1])), (q4, .inr (5, [.ref q5])), (q5, .inl (cA 0, 109, .inl (f48 72))), (q6, .inr (1, [.ref q4])), (q7, .inr (4, [.ref q8, .ref q9, .int 0])), (q8, .inl (cA 0, 3, .inl (fun _ => 0))), (q9, .inl (cA 0, 3, .inl (fun _ => 0))), (q10, .inr (0, [.ref q1, .ref q3, .ref q7])), (q11, .inr (0, [.ref q4, .ref q6, .ref q7])), (q12, .inr (2, [.ref q13, .int 0, .int 0])), (q13, .inl (cA 0, 872, .inl (fun _ => 0)))]) := hD
  refine va_putF (D := D) (ci := 7) (v := .ref q12) (ty := tyX7 7) (C := RX7) (T := TX7) (N := 12) hx hb hts (c_uws (c := 7) (by decide)) tyX7 tyX7_ok nmX7 hown hK hP hD hS n (ws_get hlt) rfl 7 (by decide) (ts_of' hts (ct 65 rfl) rfl) (fun _ h9 => h9) rfl hin rfl (tyX7_ok 7 (by decide)) rfl rfl (Nat.le_of_ble_eq_true rfl) (by decide +kernel) (fun H locs hP hD hS => ?_)
  rw [ws_put hlt] at hP hD
  have hP : va_P D cls9 (ws.set n (h0, .inr (7, [.ref q1, .ref q3, .ref q4, .ref q6, .ref q7, .ref q10, .ref q11, .ref q12, .null, .int 0, .null, .null])) ++ [(q1, .inr (5, [.ref q2])), (q2, .inl (cA 0, 109, .inl (f48 72))), (q3, .inr (1, [.ref q1])), (q4, .inr (5, [.ref q5])), (q5, .inl (cA 0, 109, .inl (f48 72))), (q6, .inr (1, [.ref q4])), (q7, .inr (4, [.ref q8, .ref q9, .int 0])), (q8, .inl (cA 0, 3, .inl (fun _ => 0))), (q9, .inl (cA 0, 3, .inl (fun _ => 0))), (q10, .inr (0, [.ref q1, .ref q3, .ref q7])), (q11, .inr (0, [.ref q4, .ref q6, .ref q7])), (q12, .inr (2, [.ref q13, .int 0, .int 0])), (q13, .inl (cA 0, 872, .inl (fun _ => 0)))]) H := hP
  have hD : va_D A (ws.set n (h0, .inr (7, [.ref q1, .ref q3, .ref q4, .ref q6, .ref q7, .ref q10, .ref q11, .ref q12, .null, .int 0, .null, .null])) ++ [(q1, .inr (5, [.ref q2])), (q2, .inl (cA 0, 109, .inl (f48 72))), (q3, .inr (1, [.ref q1])), (q4, .inr (5, [.ref q5])), (q5, .inl (cA 0, 109, .inl (f48 72))), (q6, .inr (1, [.ref q4])), (q7, .inr (4, [.ref q8, .ref q9, .int 0])), (q8, .inl (cA 0, 3, .inl (fun _ => 0))), (q9, .inl (cA 0, 3, .inl (fun _ => 0))), (q10, .inr (0, [.ref q1, .ref q3, .ref q7])), (q11, .inr (0, [.ref q4, .ref q6, .ref q7])), (q12, .inr (2, [.ref q13, .int 0, .int 0])), (q13, .inl (cA 0, 872, .inl (fun _ => 0)))]) := hD
  refine lv_aload_n hx hb (k := 0) (i := 0) (x := h0) (by decide +kernel) rfl (lv_at hl 0 rfl) ?_
  refine va_new (ci := 5) (fs := [.null]) (C := RX5) (T := TX5) (N := 1) hx hb hts (c_uws (c := 5) (by decide)) tyX5 tyX5_ok hown (ts_of' hts (ct 29 rfl) rfl) (ts_of' hts (ct 30 rfl) rfl) (ts_of' hts (ct 26 rfl) rfl) hK hP hD hS hA rfl (by decide +kernel) (Nat.le_of_ble_eq_true rfl) (Nat.le_of_ble_eq_true rfl) (by decide +kernel) (fun q14 H hP hD hS => ?_)
  rw [List.append_assoc] at hP hD
  have hP : va_P D cls9 (ws.set n (h0, .inr (7, [.ref q1, .ref q3, .ref q4, .ref q6, .ref q7, .ref q10, .ref q11, .ref q12, .null, .int 0, .null, .null])) ++ [(q1, .inr (5, [.ref q2])), (q2, .inl (cA 0, 109, .inl (f48 72))), (q3, .inr (1, [.ref q1])), (q4, .inr (5, [.ref q5])), (q5, .inl (cA 0, 109, .inl (f48 72))), (q6, .inr (1, [.ref q4])), (q7, .inr (4, [.ref q8, .ref q9, .int 0])), (q8, .inl (cA 0, 3, .inl (fun _ => 0))), (q9, .inl (cA 0, 3, .inl (fun _ => 0))), (q10, .inr (0, [.ref q1, .ref q3, .ref q7])), (q11, .inr (0, [.ref q4, .ref q6, .ref q7])), (q12, .inr (2, [.ref q13, .int 0, .int 0])), (q13, .inl (cA 0, 872, .inl (fun _ => 0))), (q14, .inr (5, [.null]))]) H := hP
  have hD : va_D A (ws.set n (h0, .inr (7, [.ref q1, .ref q3, .ref q4, .ref q6, .ref q7, .ref q10, .ref q11, .ref q12, .null, .int 0, .null, .null])) ++ [(q1, .inr (5, [.ref q2])), (q2, .inl (cA 0, 109, .inl (f48 72))), (q3, .inr (1, [.ref q1])), (q4, .inr (5, [.ref q5])), (q5, .inl (cA 0, 109, .inl (f48 72))), (q6, .inr (1, [.ref q4])), (q7, .inr (4, [.ref q8, .ref q9, .int 0])), (q8, .inl (cA 0, 3, .inl (fun _ => 0))), (q9, .inl (cA 0, 3, .inl (fun _ => 0))), (q10, .inr (0, [.ref q1, .ref q3, .ref q7])), (q11, .inr (0, [.ref q4, .ref q6, .ref q7])), (q12, .inr (2, [.ref q13, .int 0, .int 0])), (q13, .inl (cA 0, 872, .inl (fun _ => 0))), (q14, .inr (5, [.null]))]) := hD
  refine lv_dup hx hb (by decide +kernel) rfl ?_
  refine ci_I (own := RX7) (n := 0) (As := []) (rest := [.ref q14, .ref h0]) (k_rivers (ws := ws.set n (h0, .inr (7, [.ref q1, .ref q3, .ref q4, .ref q6, .ref q7, .ref q10, .ref q11, .ref q12, .null, .int 0, .null, .null])) ++ [(q1, .inr (5, [.ref q2])), (q2, .inl (cA 0, 109, .inl (f48 72))), (q3, .inr (1, [.ref q1])), (q4, .inr (5, [.ref q5])), (q5, .inl (cA 0, 109, .inl (f48 72))), (q6, .inr (1, [.ref q4])), (q7, .inr (4, [.ref q8, .ref q9, .int 0])), (q8, .inl (cA 0, 3, .inl (fun _ => 0))), (q9, .inl (cA 0, 3, .inl (fun _ => 0))), (q10, .inr (0, [.ref q1, .ref q3, .ref q7])), (q11, .inr (0, [.ref q4, .ref q6, .ref q7])), (q12, .inr (2, [.ref q13, .int 0, .int 0])), (q13, .inl (cA 0, 872, .inl (fun _ => 0))), (q14, .inr (5, [.null]))]) (n := ws.length + 13) (h0 := q14) (ws_get2.trans rfl)) hx hts hb hown hP hD hK hWX hA hS (hl.1.trans hml.symm) (ct 31 rfl) (ct 32 rfl) (ct 26 rfl) (ct 33 rfl) rfl ⟨by decide, by decide, by decide +kernel⟩ rfl ⟨Nat.le_of_ble_eq_true rfl, Nat.le_of_ble_eq_true rfl, Nat.le_of_ble_eq_true rfl, Nat.le_of_ble_eq_true rfl⟩ (Nat.le_of_ble_eq_true rfl) (by decide +kernel) rfl (fun ws' H locs hG hP hD hS => ?_)
  obtain ⟨q15, rfl⟩ := hG
  rw [ws_put2, List.append_assoc] at hP hD
  have hP : va_P D cls9 (ws.set n (h0, .inr (7, [.ref q1, .ref q3, .ref q4, .ref q6, .ref q7, .ref q10, .ref q11, .ref q12, .null, .int 0, .null, .null])) ++ [(q1, .inr (5, [.ref q2])), (q2, .inl (cA 0, 109, .inl (f48 72))), (q3, .inr (1, [.ref q1])), (q4, .inr (5, [.ref q5])), (q5, .inl (cA 0, 109, .inl (f48 72))), (q6, .inr (1, [.ref q4])), (q7, .inr (4, [.ref q8, .ref q9, .int 0])), (q8, .inl (cA 0, 3, .inl (fun _ => 0))), (q9, .inl (cA 0, 3, .inl (fun _ => 0))), (q10, .inr (0, [.ref q1, .ref q3, .ref q7])), (q11, .inr (0, [.ref q4, .ref q6, .ref q7])), (q12, .inr (2, [.ref q13, .int 0, .int 0])), (q13, .inl (cA 0, 872, .inl (fun _ => 0))), (q14, .inr (5, [.ref q15])), (q15, .inl (cA 0, 109, .inl (f48 72)))]) H := hP
  have hD : va_D A (ws.set n (h0, .inr (7, [.ref q1, .ref q3, .ref q4, .ref q6, .ref q7, .ref q10, .ref q11, .ref q12, .null, .int 0, .null, .null])) ++ [(q1, .inr (5, [.ref q2])), (q2, .inl (cA 0, 109, .inl (f48 72))), (q3, .inr (1, [.ref q1])), (q4, .inr (5, [.ref q5])), (q5, .inl (cA 0, 109, .inl (f48 72))), (q6, .inr (1, [.ref q4])), (q7, .inr (4, [.ref q8, .ref q9, .int 0])), (q8, .inl (cA 0, 3, .inl (fun _ => 0))), (q9, .inl (cA 0, 3, .inl (fun _ => 0))), (q10, .inr (0, [.ref q1, .ref q3, .ref q7])), (q11, .inr (0, [.ref q4, .ref q6, .ref q7])), (q12, .inr (2, [.ref q13, .int 0, .int 0])), (q13, .inl (cA 0, 872, .inl (fun _ => 0))), (q14, .inr (5, [.ref q15])), (q15, .inl (cA 0, 109, .inl (f48 72)))]) := hD
  refine va_putF (D := D) (ci := 7) (v := .ref q14) (ty := tyX7 8) (C := RX7) (T := TX7) (N := 12) hx hb hts (c_uws (c := 7) (by decide)) tyX7 tyX7_ok nmX7 hown hK hP hD hS n (ws_get hlt) rfl 8 (by decide) (ts_of' hts (ct 66 rfl) rfl) (fun _ h9 => h9) rfl hin rfl (tyX7_ok 8 (by decide)) rfl rfl (Nat.le_of_ble_eq_true rfl) (by decide +kernel) (fun H locs hP hD hS => ?_)
  rw [ws_put hlt] at hP hD
  have hP : va_P D cls9 (ws.set n (h0, .inr (7, [.ref q1, .ref q3, .ref q4, .ref q6, .ref q7, .ref q10, .ref q11, .ref q12, .ref q14, .int 0, .null, .null])) ++ [(q1, .inr (5, [.ref q2])), (q2, .inl (cA 0, 109, .inl (f48 72))), (q3, .inr (1, [.ref q1])), (q4, .inr (5, [.ref q5])), (q5, .inl (cA 0, 109, .inl (f48 72))), (q6, .inr (1, [.ref q4])), (q7, .inr (4, [.ref q8, .ref q9, .int 0])), (q8, .inl (cA 0, 3, .inl (fun _ => 0))), (q9, .inl (cA 0, 3, .inl (fun _ => 0))), (q10, .inr (0, [.ref q1, .ref q3, .ref q7])), (q11, .inr (0, [.ref q4, .ref q6, .ref q7])), (q12, .inr (2, [.ref q13, .int 0, .int 0])), (q13, .inl (cA 0, 872, .inl (fun _ => 0))), (q14, .inr (5, [.ref q15])), (q15, .inl (cA 0, 109, .inl (f48 72)))]) H := hP
  have hD : va_D A (ws.set n (h0, .inr (7, [.ref q1, .ref q3, .ref q4, .ref q6, .ref q7, .ref q10, .ref q11, .ref q12, .ref q14, .int 0, .null, .null])) ++ [(q1, .inr (5, [.ref q2])), (q2, .inl (cA 0, 109, .inl (f48 72))), (q3, .inr (1, [.ref q1])), (q4, .inr (5, [.ref q5])), (q5, .inl (cA 0, 109, .inl (f48 72))), (q6, .inr (1, [.ref q4])), (q7, .inr (4, [.ref q8, .ref q9, .int 0])), (q8, .inl (cA 0, 3, .inl (fun _ => 0))), (q9, .inl (cA 0, 3, .inl (fun _ => 0))), (q10, .inr (0, [.ref q1, .ref q3, .ref q7])), (q11, .inr (0, [.ref q4, .ref q6, .ref q7])), (q12, .inr (2, [.ref q13, .int 0, .int 0])), (q13, .inl (cA 0, 872, .inl (fun _ => 0))), (q14, .inr (5, [.ref q15])), (q15, .inl (cA 0, 109, .inl (f48 72)))]) := hD
  refine lv_aload_n hx hb (k := 0) (i := 0) (x := h0) (by decide +kernel) rfl (lv_at hl 0 rfl) ?_
  refine va_new (ci := 6) (fs := [.null, .int 0, .null, .int 0, .int 0]) (C := RX6) (T := TX6) (N := 5) hx hb hts (c_uws (c := 6) (by decide)) tyX6 tyX6_ok hown (ts_of' hts (ct 67 rfl) rfl) (ts_of' hts (ct 68 rfl) rfl) (ts_of' hts (ct 69 rfl) rfl) hK hP hD hS hA rfl (by decide +kernel) (Nat.le_of_ble_eq_true rfl) (Nat.le_of_ble_eq_true rfl) (by decide +kernel) (fun q16 H hP hD hS => ?_)
  rw [List.append_assoc] at hP hD
  have hP : va_P D cls9 (ws.set n (h0, .inr (7, [.ref q1, .ref q3, .ref q4, .ref q6, .ref q7, .ref q10, .ref q11, .ref q12, .ref q14, .int 0, .null, .null])) ++ [(q1, .inr (5, [.ref q2])), (q2, .inl (cA 0, 109, .inl (f48 72))), (q3, .inr (1, [.ref q1])), (q4, .inr (5, [.ref q5])), (q5, .inl (cA 0, 109, .inl (f48 72))), (q6, .inr (1, [.ref q4])), (q7, .inr (4, [.ref q8, .ref q9, .int 0])), (q8, .inl (cA 0, 3, .inl (fun _ => 0))), (q9, .inl (cA 0, 3, .inl (fun _ => 0))), (q10, .inr (0, [.ref q1, .ref q3, .ref q7])), (q11, .inr (0, [.ref q4, .ref q6, .ref q7])), (q12, .inr (2, [.ref q13, .int 0, .int 0])), (q13, .inl (cA 0, 872, .inl (fun _ => 0))), (q14, .inr (5, [.ref q15])), (q15, .inl (cA 0, 109, .inl (f48 72))), (q16, .inr (6, [.null, .int 0, .null, .int 0, .int 0]))]) H := hP
  have hD : va_D A (ws.set n (h0, .inr (7, [.ref q1, .ref q3, .ref q4, .ref q6, .ref q7, .ref q10, .ref q11, .ref q12, .ref q14, .int 0, .null, .null])) ++ [(q1, .inr (5, [.ref q2])), (q2, .inl (cA 0, 109, .inl (f48 72))), (q3, .inr (1, [.ref q1])), (q4, .inr (5, [.ref q5])), (q5, .inl (cA 0, 109, .inl (f48 72))), (q6, .inr (1, [.ref q4])), (q7, .inr (4, [.ref q8, .ref q9, .int 0])), (q8, .inl (cA 0, 3, .inl (fun _ => 0))), (q9, .inl (cA 0, 3, .inl (fun _ => 0))), (q10, .inr (0, [.ref q1, .ref q3, .ref q7])), (q11, .inr (0, [.ref q4, .ref q6, .ref q7])), (q12, .inr (2, [.ref q13, .int 0, .int 0])), (q13, .inl (cA 0, 872, .inl (fun _ => 0))), (q14, .inr (5, [.ref q15])), (q15, .inl (cA 0, 109, .inl (f48 72))), (q16, .inr (6, [.null, .int 0, .null, .int 0, .int 0]))]) := hD
  refine lv_dup hx hb (by decide +kernel) rfl ?_
  refine ci_IN (own := RX7) (n := 0) (As := []) (rest := [.ref q16, .ref h0]) (k_text (ws := ws.set n (h0, .inr (7, [.ref q1, .ref q3, .ref q4, .ref q6, .ref q7, .ref q10, .ref q11, .ref q12, .ref q14, .int 0, .null, .null])) ++ [(q1, .inr (5, [.ref q2])), (q2, .inl (cA 0, 109, .inl (f48 72))), (q3, .inr (1, [.ref q1])), (q4, .inr (5, [.ref q5])), (q5, .inl (cA 0, 109, .inl (f48 72))), (q6, .inr (1, [.ref q4])), (q7, .inr (4, [.ref q8, .ref q9, .int 0])), (q8, .inl (cA 0, 3, .inl (fun _ => 0))), (q9, .inl (cA 0, 3, .inl (fun _ => 0))), (q10, .inr (0, [.ref q1, .ref q3, .ref q7])), (q11, .inr (0, [.ref q4, .ref q6, .ref q7])), (q12, .inr (2, [.ref q13, .int 0, .int 0])), (q13, .inl (cA 0, 872, .inl (fun _ => 0))), (q14, .inr (5, [.ref q15])), (q15, .inl (cA 0, 109, .inl (f48 72))), (q16, .inr (6, [.null, .int 0, .null, .int 0, .int 0]))]) (n := ws.length + 15) (h0 := q16) (ws_get2.trans rfl)) hx hts hb hown hP hD hK hWX hA hS (hl.1.trans hml.symm) (ct 70 rfl) (ct 71 rfl) (ct 69 rfl) (ct 72 rfl) rfl ⟨by decide, by decide, by decide +kernel⟩ rfl ⟨Nat.le_of_ble_eq_true rfl, Nat.le_of_ble_eq_true rfl, Nat.le_of_ble_eq_true rfl, Nat.le_of_ble_eq_true rfl⟩ (Nat.le_of_ble_eq_true rfl) (by decide +kernel) rfl (fun ws' H locs hG hP hD hS => ?_)
  obtain ⟨q17, q18, rfl⟩ := hG
  rw [ws_put2, List.append_assoc] at hP hD
  have hP : va_P D cls9 (ws.set n (h0, .inr (7, [.ref q1, .ref q3, .ref q4, .ref q6, .ref q7, .ref q10, .ref q11, .ref q12, .ref q14, .int 0, .null, .null])) ++ [(q1, .inr (5, [.ref q2])), (q2, .inl (cA 0, 109, .inl (f48 72))), (q3, .inr (1, [.ref q1])), (q4, .inr (5, [.ref q5])), (q5, .inl (cA 0, 109, .inl (f48 72))), (q6, .inr (1, [.ref q4])), (q7, .inr (4, [.ref q8, .ref q9, .int 0])), (q8, .inl (cA 0, 3, .inl (fun _ => 0))), (q9, .inl (cA 0, 3, .inl (fun _ => 0))), (q10, .inr (0, [.ref q1, .ref q3, .ref q7])), (q11, .inr (0, [.ref q4, .ref q6, .ref q7])), (q12, .inr (2, [.ref q13, .int 0, .int 0])), (q13, .inl (cA 0, 872, .inl (fun _ => 0))), (q14, .inr (5, [.ref q15])), (q15, .inl (cA 0, 109, .inl (f48 72))), (q16, .inr (6, [.ref q17, .int 0, .ref q18, .int 0, .int (-1)])), (q17, .inl (cA 1, 60, .inl (fun _ => 0))), (q18, .inl (cA 0, 52, .inl (fun _ => 0)))]) H := hP
  have hD : va_D A (ws.set n (h0, .inr (7, [.ref q1, .ref q3, .ref q4, .ref q6, .ref q7, .ref q10, .ref q11, .ref q12, .ref q14, .int 0, .null, .null])) ++ [(q1, .inr (5, [.ref q2])), (q2, .inl (cA 0, 109, .inl (f48 72))), (q3, .inr (1, [.ref q1])), (q4, .inr (5, [.ref q5])), (q5, .inl (cA 0, 109, .inl (f48 72))), (q6, .inr (1, [.ref q4])), (q7, .inr (4, [.ref q8, .ref q9, .int 0])), (q8, .inl (cA 0, 3, .inl (fun _ => 0))), (q9, .inl (cA 0, 3, .inl (fun _ => 0))), (q10, .inr (0, [.ref q1, .ref q3, .ref q7])), (q11, .inr (0, [.ref q4, .ref q6, .ref q7])), (q12, .inr (2, [.ref q13, .int 0, .int 0])), (q13, .inl (cA 0, 872, .inl (fun _ => 0))), (q14, .inr (5, [.ref q15])), (q15, .inl (cA 0, 109, .inl (f48 72))), (q16, .inr (6, [.ref q17, .int 0, .ref q18, .int 0, .int (-1)])), (q17, .inl (cA 1, 60, .inl (fun _ => 0))), (q18, .inl (cA 0, 52, .inl (fun _ => 0)))]) := hD
  refine va_putF (D := D) (ci := 7) (v := .ref q16) (ty := tyX7 10) (C := RX7) (T := TX7) (N := 12) hx hb hts (c_uws (c := 7) (by decide)) tyX7 tyX7_ok nmX7 hown hK hP hD hS n (ws_get hlt) rfl 10 (by decide) (ts_of' hts (ct 73 rfl) rfl) (fun _ h9 => h9) rfl hin rfl (tyX7_ok 10 (by decide)) rfl rfl (Nat.le_of_ble_eq_true rfl) (by decide +kernel) (fun H locs hP hD hS => ?_)
  rw [ws_put hlt] at hP hD
  have hP : va_P D cls9 (ws.set n (h0, .inr (7, [.ref q1, .ref q3, .ref q4, .ref q6, .ref q7, .ref q10, .ref q11, .ref q12, .ref q14, .int 0, .ref q16, .null])) ++ [(q1, .inr (5, [.ref q2])), (q2, .inl (cA 0, 109, .inl (f48 72))), (q3, .inr (1, [.ref q1])), (q4, .inr (5, [.ref q5])), (q5, .inl (cA 0, 109, .inl (f48 72))), (q6, .inr (1, [.ref q4])), (q7, .inr (4, [.ref q8, .ref q9, .int 0])), (q8, .inl (cA 0, 3, .inl (fun _ => 0))), (q9, .inl (cA 0, 3, .inl (fun _ => 0))), (q10, .inr (0, [.ref q1, .ref q3, .ref q7])), (q11, .inr (0, [.ref q4, .ref q6, .ref q7])), (q12, .inr (2, [.ref q13, .int 0, .int 0])), (q13, .inl (cA 0, 872, .inl (fun _ => 0))), (q14, .inr (5, [.ref q15])), (q15, .inl (cA 0, 109, .inl (f48 72))), (q16, .inr (6, [.ref q17, .int 0, .ref q18, .int 0, .int (-1)])), (q17, .inl (cA 1, 60, .inl (fun _ => 0))), (q18, .inl (cA 0, 52, .inl (fun _ => 0)))]) H := hP
  have hD : va_D A (ws.set n (h0, .inr (7, [.ref q1, .ref q3, .ref q4, .ref q6, .ref q7, .ref q10, .ref q11, .ref q12, .ref q14, .int 0, .ref q16, .null])) ++ [(q1, .inr (5, [.ref q2])), (q2, .inl (cA 0, 109, .inl (f48 72))), (q3, .inr (1, [.ref q1])), (q4, .inr (5, [.ref q5])), (q5, .inl (cA 0, 109, .inl (f48 72))), (q6, .inr (1, [.ref q4])), (q7, .inr (4, [.ref q8, .ref q9, .int 0])), (q8, .inl (cA 0, 3, .inl (fun _ => 0))), (q9, .inl (cA 0, 3, .inl (fun _ => 0))), (q10, .inr (0, [.ref q1, .ref q3, .ref q7])), (q11, .inr (0, [.ref q4, .ref q6, .ref q7])), (q12, .inr (2, [.ref q13, .int 0, .int 0])), (q13, .inl (cA 0, 872, .inl (fun _ => 0))), (q14, .inr (5, [.ref q15])), (q15, .inl (cA 0, 109, .inl (f48 72))), (q16, .inr (6, [.ref q17, .int 0, .ref q18, .int 0, .int (-1)])), (q17, .inl (cA 1, 60, .inl (fun _ => 0))), (q18, .inl (cA 0, 52, .inl (fun _ => 0)))]) := hD
  refine lv_aload_n hx hb (k := 0) (i := 0) (x := h0) (by decide +kernel) rfl (lv_at hl 0 rfl) ?_
  refine va_new (ci := 3) (fs := [.null, .int 0]) (C := RX3) (T := TX3) (N := 2) hx hb hts (c_uws (c := 3) (by decide)) tyX3 tyX3_ok hown (ts_of' hts (ct 74 rfl) rfl) (ts_of' hts (ct 75 rfl) rfl) (ts_of' hts (ct 76 rfl) rfl) hK hP hD hS hA rfl (by decide +kernel) (Nat.le_of_ble_eq_true rfl) (Nat.le_of_ble_eq_true rfl) (by decide +kernel) (fun q19 H hP hD hS => ?_)
  rw [List.append_assoc] at hP hD
  have hP : va_P D cls9 (ws.set n (h0, .inr (7, [.ref q1, .ref q3, .ref q4, .ref q6, .ref q7, .ref q10, .ref q11, .ref q12, .ref q14, .int 0, .ref q16, .null])) ++ [(q1, .inr (5, [.ref q2])), (q2, .inl (cA 0, 109, .inl (f48 72))), (q3, .inr (1, [.ref q1])), (q4, .inr (5, [.ref q5])), (q5, .inl (cA 0, 109, .inl (f48 72))), (q6, .inr (1, [.ref q4])), (q7, .inr (4, [.ref q8, .ref q9, .int 0])), (q8, .inl (cA 0, 3, .inl (fun _ => 0))), (q9, .inl (cA 0, 3, .inl (fun _ => 0))), (q10, .inr (0, [.ref q1, .ref q3, .ref q7])), (q11, .inr (0, [.ref q4, .ref q6, .ref q7])), (q12, .inr (2, [.ref q13, .int 0, .int 0])), (q13, .inl (cA 0, 872, .inl (fun _ => 0))), (q14, .inr (5, [.ref q15])), (q15, .inl (cA 0, 109, .inl (f48 72))), (q16, .inr (6, [.ref q17, .int 0, .ref q18, .int 0, .int (-1)])), (q17, .inl (cA 1, 60, .inl (fun _ => 0))), (q18, .inl (cA 0, 52, .inl (fun _ => 0))), (q19, .inr (3, [.null, .int 0]))]) H := hP
  have hD : va_D A (ws.set n (h0, .inr (7, [.ref q1, .ref q3, .ref q4, .ref q6, .ref q7, .ref q10, .ref q11, .ref q12, .ref q14, .int 0, .ref q16, .null])) ++ [(q1, .inr (5, [.ref q2])), (q2, .inl (cA 0, 109, .inl (f48 72))), (q3, .inr (1, [.ref q1])), (q4, .inr (5, [.ref q5])), (q5, .inl (cA 0, 109, .inl (f48 72))), (q6, .inr (1, [.ref q4])), (q7, .inr (4, [.ref q8, .ref q9, .int 0])), (q8, .inl (cA 0, 3, .inl (fun _ => 0))), (q9, .inl (cA 0, 3, .inl (fun _ => 0))), (q10, .inr (0, [.ref q1, .ref q3, .ref q7])), (q11, .inr (0, [.ref q4, .ref q6, .ref q7])), (q12, .inr (2, [.ref q13, .int 0, .int 0])), (q13, .inl (cA 0, 872, .inl (fun _ => 0))), (q14, .inr (5, [.ref q15])), (q15, .inl (cA 0, 109, .inl (f48 72))), (q16, .inr (6, [.ref q17, .int 0, .ref q18, .int 0, .int (-1)])), (q17, .inl (cA 1, 60, .inl (fun _ => 0))), (q18, .inl (cA 0, 52, .inl (fun _ => 0))), (q19, .inr (3, [.null, .int 0]))]) := hD
  refine lv_dup hx hb (by decide +kernel) rfl ?_
  refine ci_IN (own := RX7) (n := 0) (As := []) (rest := [.ref q19, .ref h0]) (k_line (ws := ws.set n (h0, .inr (7, [.ref q1, .ref q3, .ref q4, .ref q6, .ref q7, .ref q10, .ref q11, .ref q12, .ref q14, .int 0, .ref q16, .null])) ++ [(q1, .inr (5, [.ref q2])), (q2, .inl (cA 0, 109, .inl (f48 72))), (q3, .inr (1, [.ref q1])), (q4, .inr (5, [.ref q5])), (q5, .inl (cA 0, 109, .inl (f48 72))), (q6, .inr (1, [.ref q4])), (q7, .inr (4, [.ref q8, .ref q9, .int 0])), (q8, .inl (cA 0, 3, .inl (fun _ => 0))), (q9, .inl (cA 0, 3, .inl (fun _ => 0))), (q10, .inr (0, [.ref q1, .ref q3, .ref q7])), (q11, .inr (0, [.ref q4, .ref q6, .ref q7])), (q12, .inr (2, [.ref q13, .int 0, .int 0])), (q13, .inl (cA 0, 872, .inl (fun _ => 0))), (q14, .inr (5, [.ref q15])), (q15, .inl (cA 0, 109, .inl (f48 72))), (q16, .inr (6, [.ref q17, .int 0, .ref q18, .int 0, .int (-1)])), (q17, .inl (cA 1, 60, .inl (fun _ => 0))), (q18, .inl (cA 0, 52, .inl (fun _ => 0))), (q19, .inr (3, [.null, .int 0]))]) (n := ws.length + 18) (h0 := q19) (ws_get2.trans rfl)) hx hts hb hown hP hD hK hWX hA hS (hl.1.trans hml.symm) (ct 77 rfl) (ct 78 rfl) (ct 76 rfl) (ct 79 rfl) rfl ⟨by decide, by decide, by decide +kernel⟩ rfl ⟨Nat.le_of_ble_eq_true rfl, Nat.le_of_ble_eq_true rfl, Nat.le_of_ble_eq_true rfl, Nat.le_of_ble_eq_true rfl⟩ (Nat.le_of_ble_eq_true rfl) (by decide +kernel) rfl (fun ws' H locs hG hP hD hS => ?_)
  obtain ⟨q20, rfl⟩ := hG
  rw [ws_put2, List.append_assoc] at hP hD
  have hP : va_P D cls9 (ws.set n (h0, .inr (7, [.ref q1, .ref q3, .ref q4, .ref q6, .ref q7, .ref q10, .ref q11, .ref q12, .ref q14, .int 0, .ref q16, .null])) ++ [(q1, .inr (5, [.ref q2])), (q2, .inl (cA 0, 109, .inl (f48 72))), (q3, .inr (1, [.ref q1])), (q4, .inr (5, [.ref q5])), (q5, .inl (cA 0, 109, .inl (f48 72))), (q6, .inr (1, [.ref q4])), (q7, .inr (4, [.ref q8, .ref q9, .int 0])), (q8, .inl (cA 0, 3, .inl (fun _ => 0))), (q9, .inl (cA 0, 3, .inl (fun _ => 0))), (q10, .inr (0, [.ref q1, .ref q3, .ref q7])), (q11, .inr (0, [.ref q4, .ref q6, .ref q7])), (q12, .inr (2, [.ref q13, .int 0, .int 0])), (q13, .inl (cA 0, 872, .inl (fun _ => 0))), (q14, .inr (5, [.ref q15])), (q15, .inl (cA 0, 109, .inl (f48 72))), (q16, .inr (6, [.ref q17, .int 0, .ref q18, .int 0, .int (-1)])), (q17, .inl (cA 1, 60, .inl (fun _ => 0))), (q18, .inl (cA 0, 52, .inl (fun _ => 0))), (q19, .inr (3, [.ref q20, .int 0])), (q20, .inl (cA 1, 12, .inl (fun _ => 0)))]) H := hP
  have hD : va_D A (ws.set n (h0, .inr (7, [.ref q1, .ref q3, .ref q4, .ref q6, .ref q7, .ref q10, .ref q11, .ref q12, .ref q14, .int 0, .ref q16, .null])) ++ [(q1, .inr (5, [.ref q2])), (q2, .inl (cA 0, 109, .inl (f48 72))), (q3, .inr (1, [.ref q1])), (q4, .inr (5, [.ref q5])), (q5, .inl (cA 0, 109, .inl (f48 72))), (q6, .inr (1, [.ref q4])), (q7, .inr (4, [.ref q8, .ref q9, .int 0])), (q8, .inl (cA 0, 3, .inl (fun _ => 0))), (q9, .inl (cA 0, 3, .inl (fun _ => 0))), (q10, .inr (0, [.ref q1, .ref q3, .ref q7])), (q11, .inr (0, [.ref q4, .ref q6, .ref q7])), (q12, .inr (2, [.ref q13, .int 0, .int 0])), (q13, .inl (cA 0, 872, .inl (fun _ => 0))), (q14, .inr (5, [.ref q15])), (q15, .inl (cA 0, 109, .inl (f48 72))), (q16, .inr (6, [.ref q17, .int 0, .ref q18, .int 0, .int (-1)])), (q17, .inl (cA 1, 60, .inl (fun _ => 0))), (q18, .inl (cA 0, 52, .inl (fun _ => 0))), (q19, .inr (3, [.ref q20, .int 0])), (q20, .inl (cA 1, 12, .inl (fun _ => 0)))]) := hD
  refine va_putF (D := D) (ci := 7) (v := .ref q19) (ty := tyX7 11) (C := RX7) (T := TX7) (N := 12) hx hb hts (c_uws (c := 7) (by decide)) tyX7 tyX7_ok nmX7 hown hK hP hD hS n (ws_get hlt) rfl 11 (by decide) (ts_of' hts (ct 80 rfl) rfl) (fun _ h9 => h9) rfl hin rfl (tyX7_ok 11 (by decide)) rfl rfl (Nat.le_of_ble_eq_true rfl) (by decide +kernel) (fun H locs hP hD hS => ?_)
  rw [ws_put hlt] at hP hD
  have hP : va_P D cls9 (ws.set n (h0, .inr (7, [.ref q1, .ref q3, .ref q4, .ref q6, .ref q7, .ref q10, .ref q11, .ref q12, .ref q14, .int 0, .ref q16, .ref q19])) ++ [(q1, .inr (5, [.ref q2])), (q2, .inl (cA 0, 109, .inl (f48 72))), (q3, .inr (1, [.ref q1])), (q4, .inr (5, [.ref q5])), (q5, .inl (cA 0, 109, .inl (f48 72))), (q6, .inr (1, [.ref q4])), (q7, .inr (4, [.ref q8, .ref q9, .int 0])), (q8, .inl (cA 0, 3, .inl (fun _ => 0))), (q9, .inl (cA 0, 3, .inl (fun _ => 0))), (q10, .inr (0, [.ref q1, .ref q3, .ref q7])), (q11, .inr (0, [.ref q4, .ref q6, .ref q7])), (q12, .inr (2, [.ref q13, .int 0, .int 0])), (q13, .inl (cA 0, 872, .inl (fun _ => 0))), (q14, .inr (5, [.ref q15])), (q15, .inl (cA 0, 109, .inl (f48 72))), (q16, .inr (6, [.ref q17, .int 0, .ref q18, .int 0, .int (-1)])), (q17, .inl (cA 1, 60, .inl (fun _ => 0))), (q18, .inl (cA 0, 52, .inl (fun _ => 0))), (q19, .inr (3, [.ref q20, .int 0])), (q20, .inl (cA 1, 12, .inl (fun _ => 0)))]) H := hP
  have hD : va_D A (ws.set n (h0, .inr (7, [.ref q1, .ref q3, .ref q4, .ref q6, .ref q7, .ref q10, .ref q11, .ref q12, .ref q14, .int 0, .ref q16, .ref q19])) ++ [(q1, .inr (5, [.ref q2])), (q2, .inl (cA 0, 109, .inl (f48 72))), (q3, .inr (1, [.ref q1])), (q4, .inr (5, [.ref q5])), (q5, .inl (cA 0, 109, .inl (f48 72))), (q6, .inr (1, [.ref q4])), (q7, .inr (4, [.ref q8, .ref q9, .int 0])), (q8, .inl (cA 0, 3, .inl (fun _ => 0))), (q9, .inl (cA 0, 3, .inl (fun _ => 0))), (q10, .inr (0, [.ref q1, .ref q3, .ref q7])), (q11, .inr (0, [.ref q4, .ref q6, .ref q7])), (q12, .inr (2, [.ref q13, .int 0, .int 0])), (q13, .inl (cA 0, 872, .inl (fun _ => 0))), (q14, .inr (5, [.ref q15])), (q15, .inl (cA 0, 109, .inl (f48 72))), (q16, .inr (6, [.ref q17, .int 0, .ref q18, .int 0, .int (-1)])), (q17, .inl (cA 1, 60, .inl (fun _ => 0))), (q18, .inl (cA 0, 52, .inl (fun _ => 0))), (q19, .inr (3, [.ref q20, .int 0])), (q20, .inl (cA 1, 12, .inl (fun _ => 0)))]) := hD
  refine W.widen (k := 20) (n := 1353) (Nat.le_of_ble_eq_true rfl) (Nat.le_of_ble_eq_true rfl) ?_
  exact W.vret hx hb hrt (fun t ht hW => ⟨rfl, ⟨_, ⟨q1, q2, q3, q4, q5, q6, q7, q8, q9, q10, q11, q12, q13, q14, q15, q16, q17, q18, q19, q20, rfl⟩, by rw [ht]; exact hP, hD⟩, hS.F ht⟩) hS.2.2 (by decide +kernel) hlk
end CTS
