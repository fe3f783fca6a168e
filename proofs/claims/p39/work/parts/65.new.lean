/-! the class new; all that the law draws: printed by wip/p39/db65.py -/
section NEW
variable {l : Launch} {D : va_G} {A : Nat → Prop} {ad adV : Nat → Nat} {cA : Nat → ClassId}
def row0 : Nat → Int := fun j => if 48 ≤ j ∧ j < 72 then -1 else 0
def tau0 : SZ := fun a => if a = 4 ∨ a = 5 ∨ a = 6 then row0 else if a = 16 then (fun k => if k = 4 then -1 else 0) else fun _ => 0
theorem cel0 (z : Int) : cel row0 z = if 48 ≤ z ∧ z < 72 then -1 else 0 := by
  unfold cel row0
  by_cases h : 0 ≤ z ∧ z < 109
  · rw [if_pos h]
    by_cases g : 48 ≤ z ∧ z < 72
    · rw [if_pos g, if_pos (by omega)]
    · rw [if_neg g, if_neg (by omega)]
  · rw [if_neg h, if_neg (by omega)]
theorem row0_tz : Tz row0 := fun k hk => if_neg (by omega)
theorem row0_sh : Sh 100 row0 := by
  refine ⟨⟨⟨fun k => ?_, row0_tz⟩, by omega, by omega⟩, fun z h0 h1 => ?_⟩
  · unfold row0
    split <;> omega
  · rw [cel0]
    unfold lo hi
    refine ⟨?_, ?_⟩ <;> (repeat (first | omega | split))
theorem row0_co : Co row0 := by
  intro r h0 h1
  refine ⟨fun f f0 f1 => ?_, fun p p0 p1 => Or.inl ?_⟩
  · rw [cel0, if_neg (by omega)] at f1
    omega
  · rw [cel0, if_pos (by omega)]
theorem row0_iv : Iv 100 row0 := ⟨row0_sh, row0_co, by rw [cel0, cel0, cel0, if_neg (by omega), if_neg (by omega), if_neg (by omega)]; rfl⟩
theorem HS_0 : HS tau0 [] := ⟨⟨by decide, by decide⟩, by decide, by decide, fun i hi => absurd hi (Nat.not_lt_zero i)⟩
theorem CV_0 : CV 100 tau0 [] := ⟨row0_iv, HS_0, fun x hx => absurd hx (by simp), row0_tz, ⟨by decide, by decide⟩, ⟨⟨⟨by decide, by decide⟩, fun i => ⟨(by decide : (0 : Int) ≤ 0), (by decide : (0 : Int) < 65536)⟩⟩, fun k => ⟨(by decide : (0 : Int) ≤ 0), (by decide : (0 : Int) ≤ 99)⟩⟩, ⟨by decide, by decide⟩, fun i => ⟨(by decide : (0 : Int) ≤ 0), (by decide : (0 : Int) < 65536)⟩⟩
theorem DJ_0 : DJ (tau0 4) 0 0 := by
  have e : tau0 4 = row0 := rfl
  rw [e]
  have k : ∀ r : Int, 0 ≤ r ∧ r < 2 → tgo row0 r ≤ 0 := fun r hr => by
    have q := tgo_le (c := fun _ => 0) (d := row0) (r := r) (fun p p0 p1 h => by rw [cel0, if_pos (by omega)] at h; exact absurd h (by decide))
    have z : tgo (fun _ => 0) r = 0 := by
      refine (sm_cong (g := fun _ => 0) fun k hk => ?_).trans (sm_z 12)
      show b2 (whz (fun _ => 0) r (k : Int) = 8) = 0
      refine b2_f ?_
      rw [whz_12 hk]
      unfold cel
      split <;> (intro h9; exact absurd (show (0 : Int) = 8 from h9) (by decide))
    omega
  exact ⟨by rw [cel0, if_neg (by omega)]; decide, ⟨by rw [cel0, if_neg (by omega)], by rw [cel0, if_neg (by omega)]⟩, k 0 ⟨by omega, by omega⟩, k 1 ⟨by omega, by omega⟩⟩
def adL (qs : List Nat) (ad : Nat → Nat) : Nat → Nat := fun k => if k < 21 then qs.getD k 0 else ad k
theorem adL_hi {qs : List Nat} {k : Nat} (h : 21 ≤ k) : adL qs ad k = ad k := if_neg (by omega)
theorem WX_adL {U : State} {H : Heap} {qs : List Nat} (h : WX A ad adV U H) : WX A (adL qs ad) adV U H := by
  have e : (fun i => adL qs ad (100 + i)) = fun i => ad (100 + i) := funext fun i => if_neg (by omega)
  refine ⟨h.1, h.2.1, ⟨by rw [e]; exact h.2.2.1.1, fun c ix q hc hq => ?_⟩, h.2.2.2⟩
  rw [show adL qs ad (100 + q) = ad (100 + q) from if_neg (by omega)]
  exact h.2.2.1.2 c ix q hc hq
theorem JX_adL {U : State} {H : Heap} {qs : List Nat} (h : JX A ad U H) : JX A (adL qs ad) U H := by
  obtain ⟨h1, h2, h3, L, xs, c1, c2, c3, c4⟩ := h
  refine ⟨⟨fun e he => by rw [adL_hi (by omega)]; exact h1.1 e he, h1.2⟩, h2, h3, L, xs, c1, ?_, ?_, ?_⟩
  · rw [adL_hi (by decide)]; exact c2
  · rw [adL_hi (by decide)]; exact c3
  · rw [adL_hi (by decide)]; exact c4
theorem FL.adL {p : Program} {s : State} {m : MethodId} {args : Array Value} {c : Code} {bc : ByteArray} {nL : Nat} {qs : List Nat} (F : FL D A ad adV cA p l s m args c bc nL) : FL D A (Jvm.Pilot.@@N@@.adL qs ad) adV cA p l s m args c bc nL := by
  obtain ⟨hx, hb, hml, hown, hts, hK, hWX, hA, hN, hJ, hl0⟩ := F
  exact ⟨hx, hb, hml, hown, hts, hK, WX_adL hWX, hA, hN, JX_adL hJ, hl0⟩
def sg0 : Sg := fun a => if a = 4 ∨ a = 5 ∨ a = 6 then f48 72 else if a = 16 then (fun k => if k = 4 then -1 else 0) else fun _ => 0
theorem sz_0 : sz tau0 = sg0 := by
  funext a k
  show iI (tau0 a k) = sg0 a k
  unfold tau0 sg0
  split
  · unfold row0 f48
    split <;> rfl
  · split
    · show iI (if k = 4 then -1 else 0) = if k = 4 then -1 else 0
      split <;> rfl
    · rfl
theorem wO_0 {q0 q1 q2 q3 q4 q5 q6 q7 q8 q9 q10 q11 q12 q13 q14 q15 q16 q17 q18 q19 q20 : Nat} : wO (adL [q0, q1, q4, q14, q2, q5, q15, q3, q6, q7, q8, q9, q10, q11, q12, q13, q16, q17, q18, q19, q20] ad) cA sg0 = [(q0, .inr (7, [.ref q1, .ref q3, .ref q4, .ref q6, .ref q7, .ref q10, .ref q11, .ref q12, .ref q14, .int 0, .ref q16, .ref q19])), (q1, .inr (5, [.ref q2])), (q4, .inr (5, [.ref q5])), (q14, .inr (5, [.ref q15])), (q2, .inl (cA 0, 109, .inl (f48 72))), (q5, .inl (cA 0, 109, .inl (f48 72))), (q15, .inl (cA 0, 109, .inl (f48 72))), (q3, .inr (1, [.ref q1])), (q6, .inr (1, [.ref q4])), (q7, .inr (4, [.ref q8, .ref q9, .int 0])), (q8, .inl (cA 0, 3, .inl (fun _ => 0))), (q9, .inl (cA 0, 3, .inl (fun _ => 0))), (q10, .inr (0, [.ref q1, .ref q3, .ref q7])), (q11, .inr (0, [.ref q4, .ref q6, .ref q7])), (q12, .inr (2, [.ref q13, .int 0, .int 0])), (q13, .inl (cA 0, 872, .inl (fun _ => 0))), (q16, .inr (6, [.ref q17, .int 0, .ref q18, .int 0, .int (-1)])), (q17, .inl (cA 1, 60, .inl (fun _ => 0))), (q18, .inl (cA 0, 52, .inl (fun _ => 0))), (q19, .inr (3, [.ref q20, .int 0])), (q20, .inl (cA 1, 12, .inl (fun _ => 0)))] := rfl
def lr65W : List Jvm.Cond := [.classLink RL 9 RX7, .instantiable RX7 12, .initialized RX7, .methodLink RL 132 yX7_init, .instanceMethod yX7_init, .code yX7_init cX7_init 1 none]
theorem lr65_in : ∀ w ∈ lr65W, w ∈ lw_tbl := by decide +kernel
theorem lr65 (k : Nat) {w : Jvm.Cond} (h : lr65W[k]? = some w) : w ∈ lw_tbl := lr65_in w (List.mem_of_getElem? h)
/-- what 'drawn' gives: a class somewhere, and all that holds of it -/
def DQ (ad : Nat → Nat) (cA : Nat → ClassId) : Option Value → va_W → Prop := fun v V' => ∃ (qs : List Nat) (τ : SZ) (h : List (Nat → Int)), v = some (.ref (adL qs ad 0)) ∧ V' = wO (adL qs ad) cA (sz τ) ++ [] ∧ CV 6000 τ h
theorem K_drawn (hl0 : l.stackTraces = false) : LK l D A ad adV cA (.code yL_drawn method_32_code 10 (some (.object "FerryDraughts"))) yL_drawn 23 200 2700 [.ref (ad 99)] [] (DQ ad cA) := by
  refine lk_of hl0 rfl ?_ (Nat.le_of_ble_eq_true rfl)
  rintro p e s m args below meth c F hlk hrt hw ls hl
  have hl : lv_has ls 10 [(0, .ref (ad 99))] := hl
  obtain ⟨hx, hb, hml, hown, hts, hK, hWX, hA, hN, hJ, -⟩ := id F
  obtain ⟨hP, hD, hS⟩ := hw
  have hK2 : va_K D cls9 (tyW cA) s := hK.sub [0, 1] rfl
  refine va_new (ci := 7) (fs := [.null, .null, .null, .null, .null, .null, .null, .null, .null, .int 0, .null, .null]) (C := RX7) (T := TX7) (N := 12) hx hb hts (c_uws (c := 7) (by decide)) tyX7 tyX7_ok hown (ts_of' hts (lr65 0 rfl) rfl) (ts_of' hts (lr65 1 rfl) rfl) (ts_of' hts (lr65 2 rfl) rfl) hK2 hP hD hS hA rfl (by decide +kernel) (Nat.le_of_ble_eq_true rfl) (Nat.le_of_ble_eq_true rfl) (by decide +kernel) (fun h0 H hP hD hS => ?_)
  have hP : va_P D cls9 [(h0, .inr (7, [.null, .null, .null, .null, .null, .null, .null, .null, .null, .int 0, .null, .null]))] H := hP
  have hD : va_D A [(h0, .inr (7, [.null, .null, .null, .null, .null, .null, .null, .null, .null, .int 0, .null, .null]))] := hD
  refine lv_dup hx hb (by decide +kernel) rfl ?_
  refine ci_I (own := RL) (n := 0) (As := []) (rest := [.ref h0]) (k_all (ws := [(h0, .inr (7, [.null, .null, .null, .null, .null, .null, .null, .null, .null, .int 0, .null, .null]))]) (n := 0) (h0 := h0) rfl) hx hts hb hown hP hD hK2 hWX hA hS (hl.1.trans hml.symm) (lr65 3 rfl) (lr65 4 rfl) (lr65 2 rfl) (lr65 5 rfl) rfl ⟨by decide, by decide, by decide +kernel⟩ rfl ⟨Nat.le_of_ble_eq_true rfl, Nat.le_of_ble_eq_true rfl, Nat.le_of_ble_eq_true rfl, Nat.le_of_ble_eq_true rfl⟩ (Nat.le_of_ble_eq_true rfl) (by decide +kernel) rfl (fun ws' H locs hG hP hD hS => ?_)
  obtain ⟨q1, q2, q3, q4, q5, q6, q7, q8, q9, q10, q11, q12, q13, q14, q15, q16, q17, q18, q19, q20, rfl⟩ := hG
  have hP : va_P D cls9 [(h0, .inr (7, [.ref q1, .ref q3, .ref q4, .ref q6, .ref q7, .ref q10, .ref q11, .ref q12, .ref q14, .int 0, .ref q16, .ref q19])), (q1, .inr (5, [.ref q2])), (q2, .inl (cA 0, 109, .inl (f48 72))), (q3, .inr (1, [.ref q1])), (q4, .inr (5, [.ref q5])), (q5, .inl (cA 0, 109, .inl (f48 72))), (q6, .inr (1, [.ref q4])), (q7, .inr (4, [.ref q8, .ref q9, .int 0])), (q8, .inl (cA 0, 3, .inl (fun _ => 0))), (q9, .inl (cA 0, 3, .inl (fun _ => 0))), (q10, .inr (0, [.ref q1, .ref q3, .ref q7])), (q11, .inr (0, [.ref q4, .ref q6, .ref q7])), (q12, .inr (2, [.ref q13, .int 0, .int 0])), (q13, .inl (cA 0, 872, .inl (fun _ => 0))), (q14, .inr (5, [.ref q15])), (q15, .inl (cA 0, 109, .inl (f48 72))), (q16, .inr (6, [.ref q17, .int 0, .ref q18, .int 0, .int (-1)])), (q17, .inl (cA 1, 60, .inl (fun _ => 0))), (q18, .inl (cA 0, 52, .inl (fun _ => 0))), (q19, .inr (3, [.ref q20, .int 0])), (q20, .inl (cA 1, 12, .inl (fun _ => 0)))] H := hP
  have hD : va_D A [(h0, .inr (7, [.ref q1, .ref q3, .ref q4, .ref q6, .ref q7, .ref q10, .ref q11, .ref q12, .ref q14, .int 0, .ref q16, .ref q19])), (q1, .inr (5, [.ref q2])), (q2, .inl (cA 0, 109, .inl (f48 72))), (q3, .inr (1, [.ref q1])), (q4, .inr (5, [.ref q5])), (q5, .inl (cA 0, 109, .inl (f48 72))), (q6, .inr (1, [.ref q4])), (q7, .inr (4, [.ref q8, .ref q9, .int 0])), (q8, .inl (cA 0, 3, .inl (fun _ => 0))), (q9, .inl (cA 0, 3, .inl (fun _ => 0))), (q10, .inr (0, [.ref q1, .ref q3, .ref q7])), (q11, .inr (0, [.ref q4, .ref q6, .ref q7])), (q12, .inr (2, [.ref q13, .int 0, .int 0])), (q13, .inl (cA 0, 872, .inl (fun _ => 0))), (q14, .inr (5, [.ref q15])), (q15, .inl (cA 0, 109, .inl (f48 72))), (q16, .inr (6, [.ref q17, .int 0, .ref q18, .int 0, .int (-1)])), (q17, .inl (cA 1, 60, .inl (fun _ => 0))), (q18, .inl (cA 0, 52, .inl (fun _ => 0))), (q19, .inr (3, [.ref q20, .int 0])), (q20, .inl (cA 1, 12, .inl (fun _ => 0)))] := hD
  refine lv_astore_n hx hb (k := 1) (i := 1) (lv' := [(1, .ref h0), (0, .ref (ad 99))]) (by decide +kernel) rfl hl (by decide) rfl (fun ls hl => ?_)
  have hP9 : va_P D cls9 (wO (adL [h0, q1, q4, q14, q2, q5, q15, q3, q6, q7, q8, q9, q10, q11, q12, q13, q16, q17, q18, q19, q20] ad) cA (sz tau0) ++ []) H := by
    rw [sz_0, wO_0, List.append_nil]
    exact hP.sub [0, 1, 4, 14, 2, 5, 15, 3, 6, 7, 8, 9, 10, 11, 12, 13, 16, 17, 18, 19, 20] rfl
  have hD9 : va_D A (wO (adL [h0, q1, q4, q14, q2, q5, q15, q3, q6, q7, q8, q9, q10, q11, q12, q13, q16, q17, q18, q19, q20] ad) cA (sz tau0) ++ []) := by
    rw [sz_0, wO_0, List.append_nil]
    exact hD.sub [0, 1, 4, 14, 2, 5, 15, 3, 6, 7, 8, 9, 10, 11, 12, 13, 16, 17, 18, 19, 20] (by decide) rfl
  have hl9 : lv_has ls 10 [(1, .ref (adL [h0, q1, q4, q14, q2, q5, q15, q3, q6, q7, q8, q9, q10, q11, q12, q13, q16, q17, q18, q19, q20] ad 0)), (0, .ref (adL [h0, q1, q4, q14, q2, q5, q15, q3, q6, q7, q8, q9, q10, q11, q12, q13, q16, q17, q18, q19, q20] ad 99))] := hl
  exact dr_head (F.adL (qs := [h0, q1, q4, q14, q2, q5, q15, q3, q6, q7, q8, q9, q10, q11, q12, q13, q16, q17, q18, q19, q20])) hlk hrt (fun τ9 h9 hC => ⟨_, τ9, h9, rfl, rfl, hC⟩) (CV_0.mono (by omega) (by omega)) DJ_0 (by decide) (by decide) hl9 ⟨hP9, hD9, hS⟩
end NEW
