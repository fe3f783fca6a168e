/-! what is told of every move; moves, captures and threats counted: printed by wip/p39/db58.py -/
section MVD
variable {l : Launch} {D : va_G} {A : Nat → Prop} {ad adV : Nat → Nat} {cA : Nat → ClassId}
theorem wv_drop0 {s : State} {H : Heap} {locs : List Loc} {V Y : va_W} (h : WV D A s (V ++ Y) H locs) : WV D A s (V ++ []) H locs := by
  rw [List.append_nil]
  exact wv_drop h
section CN1
variable {c : Nat → Int} {g : Nat → Int} {j N : Nat}
theorem cnt_0 (h : g 0 = mcs c 0 j ∧ g 1 = mcs c 1 j) (ho : ¬ oc4 c j ≤ 3) : g 0 = mcs c 0 (j + 1) ∧ g 1 = mcs c 1 (j + 1) := by
  have e : ∀ x, mcs c x (j + 1) = mcs c x j + b2 (sd4 c j = x ∧ (oc4 c j = 1 ∨ oc4 c j = 2 ∨ oc4 c j = 3)) := fun x => rfl
  rw [e, e, b2_f (fun z => by have := z.2; omega), b2_f (fun z => by have := z.2; omega)]
  omega
theorem cnt_1 (h : g 0 = mcs c 0 j ∧ g 1 = mcs c 1 j) (hs : 0 ≤ sd4 c j ∧ sd4 c j ≤ 1) (ho : 1 ≤ oc4 c j ∧ oc4 c j ≤ 3) : zu g (sd4 c j).toNat (g (sd4 c j).toNat + 1) 0 = mcs c 0 (j + 1) ∧ zu g (sd4 c j).toNat (g (sd4 c j).toNat + 1) 1 = mcs c 1 (j + 1) := by
  have e : ∀ x, mcs c x (j + 1) = mcs c x j + b2 (sd4 c j = x ∧ (oc4 c j = 1 ∨ oc4 c j = 2 ∨ oc4 c j = 3)) := fun x => rfl
  rw [e, e]
  rcases (show sd4 c j = 0 ∨ sd4 c j = 1 by omega) with q | q
  · rw [b2_t ⟨q, by omega⟩, b2_f (fun z => by have := z.1; omega), q]
    exact ⟨by show g 0 + 1 = _; omega, by show g 1 = _; omega⟩
  · rw [b2_f (fun z => by have := z.1; omega), b2_t ⟨q, by omega⟩, q]
    exact ⟨by show g 0 = _; omega, by show g 1 + 1 = _; omega⟩
theorem ccn_0 (h : g 0 = ccs c 0 j ∧ g 1 = ccs c 1 j) (ho : ¬ oc4 c j = 3) : g 0 = ccs c 0 (j + 1) ∧ g 1 = ccs c 1 (j + 1) := by
  have e : ∀ x, ccs c x (j + 1) = ccs c x j + b2 (sd4 c j = x ∧ oc4 c j = 3) := fun x => rfl
  rw [e, e, b2_f (fun z => by have := z.2; omega), b2_f (fun z => by have := z.2; omega)]
  omega
theorem ccn_z (h : g 0 = ccs c 0 j ∧ g 1 = ccs c 1 j) (hs : 0 ≤ sd4 c j ∧ sd4 c j ≤ 1) (ho : ¬ oc4 c j = 3) : zu g (sd4 c j).toNat (g (sd4 c j).toNat + 0) 0 = ccs c 0 (j + 1) ∧ zu g (sd4 c j).toNat (g (sd4 c j).toNat + 0) 1 = ccs c 1 (j + 1) := by
  have q := ccn_0 h ho
  rcases (show sd4 c j = 0 ∨ sd4 c j = 1 by omega) with e | e <;> rw [e]
  · exact ⟨by show g 0 + 0 = _; omega, by show g 1 = _; omega⟩
  · exact ⟨by show g 0 = _; omega, by show g 1 + 0 = _; omega⟩
theorem ccn_1 (h : g 0 = ccs c 0 j ∧ g 1 = ccs c 1 j) (hs : 0 ≤ sd4 c j ∧ sd4 c j ≤ 1) (ho : oc4 c j = 3) : zu g (sd4 c j).toNat (g (sd4 c j).toNat + 1) 0 = ccs c 0 (j + 1) ∧ zu g (sd4 c j).toNat (g (sd4 c j).toNat + 1) 1 = ccs c 1 (j + 1) := by
  have e : ∀ x, ccs c x (j + 1) = ccs c x j + b2 (sd4 c j = x ∧ oc4 c j = 3) := fun x => rfl
  rw [e, e]
  rcases (show sd4 c j = 0 ∨ sd4 c j = 1 by omega) with q | q
  · rw [b2_t ⟨q, ho⟩, b2_f (fun z => by have := z.1; omega), q]
    exact ⟨by show g 0 + 1 = _; omega, by show g 1 = _; omega⟩
  · rw [b2_f (fun z => by have := z.1; omega), b2_t ⟨q, ho⟩, q]
    exact ⟨by show g 0 = _; omega, by show g 1 + 1 = _; omega⟩
theorem thn_0 (h : ∀ k : Nat, k < N → g k = thz c j k) (ho : ¬ oc4 c j = 3) : ∀ k : Nat, k < N → g k = thz c (j + 1) k := by
  intro k hk
  unfold thz
  rw [if_neg ho]
  exact h k hk
theorem thn_1 (h : ∀ k : Nat, k < N → g k = thz c j k) (ho : oc4 c j = 3) : ∀ k : Nat, k < N → zu g (whz c ((j : Int) / 2 % 2) (nx4 c j)).toNat 1 k = thz c (j + 1) k := by
  intro k hk
  unfold thz
  rw [if_pos ho]
  unfold zu
  split
  · rfl
  · exact h k hk
end CN1
def lr58W : List Jvm.Cond := [.methodLink RL 155 (mY m7_account),
  .instanceMethod (mY m7_account),
  .selects (mY m7_account).cls (mY m7_account) (mY m7_account),
  .arrayClass .int,
  .arrayClass .boolean,
  .methodLink RL 212 yL_moves,
  .static yL_moves,
  .codeWith yL_moves method_16_code 4 (some .int) [(0, 6, 7, 14)],
  .initialized RL,
  .methodLink RL 214 yL_captures,
  .static yL_captures,
  .codeWith yL_captures method_17_code 4 (some .int) [(0, 6, 7, 14)],
  .methodLink RL 210 yL_isThreatened,
  .static yL_isThreatened,
  .codeWith yL_isThreatened method_18_code 3 (some .int) [(0, 13, 14, 22)],
  .methodLink RL 158 yL_would,
  .static yL_would,
  .codeWith yL_would method_13_code 5 (some .int) [(0, 7, 8, 22)],
  .methodLink RL 203 yL_why,
  .static yL_why,
  .codeWith yL_why method_14_code 6 (some .int) [(0, 9, 10, 22), (0, 9, 15, 58)],
  .methodLink RL 206 yL_to,
  .static yL_to,
  .codeWith yL_to method_15_code 5 (some .int) [(0, 7, 8, 22), (0, 7, 13, 58)],
  .methodLink RL 208 yL_gain,
  .static yL_gain,
  .codeWith yL_gain method_19_code 5 (some .int) [(0, 7, 8, 22), (0, 7, 13, 58)],
  .methodLink RL 216 (mY m7_isWell),
  .instanceMethod (mY m7_isWell),
  .selects (mY m7_isWell).cls (mY m7_isWell) (mY m7_isWell),
  .methodLink RL 200 (mY m7_turn),
  .instanceMethod (mY m7_turn),
  .selects (mY m7_turn).cls (mY m7_turn) (mY m7_turn),
  .methodLink RL 197 yL_kind,
  .static yL_kind,
  .code yL_kind method_35_code 5 (some .int),
  .methodLink RL 166 yL_placeOf,
  .static yL_placeOf,
  .code yL_placeOf method_33_code 3 (some .int),
  .methodLink RL 163 yL_of,
  .static yL_of,
  .codeWith yL_of method_9_code 4 (some .int) [(0, 6, 7, 22), (0, 6, 11, 14)],
  .methodLink RL 194 yL_hinders,
  .static yL_hinders,
  .code yL_hinders method_34_code 8 (some .int),
  .methodLink RL 171 yL_at,
  .static yL_at,
  .codeWith yL_at method_10_code 4 (some .int) [(0, 6, 7, 22)]]
theorem lr58_in : ∀ w ∈ lr58W, w ∈ lw_tbl := by decide +kernel
theorem lr58 (k : Nat) {w : Jvm.Cond} (h : lr58W[k]? = some w) : w ∈ lw_tbl := lr58_in w (List.mem_of_getElem? h)
theorem K_moved {τ : SZ} {h : List (Nat → Int)} {B : Int} {N : Nat} (hl0 : l.stackTraces = false) (C : CV B τ h) (hN : cel (τ 4) 107 = (N : Int)) (hB : B + 100 ≤ 100000000) : LK l D A ad adV cA (.code yL_moved method_37_code 14 (some .boolean)) yL_moved 26 1400 8600 [.ref (ad 0)] (wO ad cA (sz τ) ++ []) (RV ad cA [] 1 τ) := by
  refine lk_of hl0 rfl ?_ (Nat.le_of_ble_eq_true rfl)
  rintro p e s m args below meth c F hlk hrt hw ls hl
  have hl : lv_has ls 14 [(0, .ref (ad 0))] := hl
  have hx := F.1
  have hb := F.2.1
  have hI := C.1
  have hS := hI.1
  have hn := hS.n
  have htu := hS.tu
  have hmx : mX m7_account = 1 := rfl
  have hmt : mX m7_turn = 0 := rfl
  have hmw : mX m7_isWell = 0 := rfl
  refine lv_aload_n hx hb (k := 0) (i := 0) (x := ad 0) (by decide +kernel) rfl (lv_at hl 0 rfl) ?_
  refine lv_iconst hx hb (n := 0) (v := iI 0) (by decide +kernel) rfl ?_
  refine fl_call (d := 6) (j := m7_account) (as := [.inr 0]) (X := []) (x := 155) (rest := []) F hw hl.1 (c_acc0 rfl hS hN) (by decide) rfl rfl (lr58 0 rfl) (lr58 1 rfl) (lr58 2 rfl) ⟨Nat.le_of_ble_eq_true rfl, Nat.le_of_ble_eq_true rfl, by decide +kernel, by decide +kernel⟩ (Nat.le_of_ble_eq_true rfl) (by decide +kernel) rfl (fun E9 τ9 e9 => by cases e9) (fun v9 τ9 e9 H locs hw => ?_)
  cases e9
  refine W.eq (g2 := F0 m 5 ls [.int (iI (cel (τ 4) 107))]) rfl ?_
  refine lv_istore_n hx hb (k := 1) (i := 1) (lv' := [(1, .int (iI (cel (τ 4) 107))), (0, .ref (ad 0))]) (by decide +kernel) rfl hl (by decide) rfl (fun ls hl => ?_)
  refine lv_iconst hx hb (n := 2) (v := iI 2) (by decide +kernel) rfl ?_
  refine lx_new (σ := sz τ) (X := []) (z := 2) (N := 2) (t := 0) (ty := .int) (atype := .int) F hw rfl (by omega) rfl rfl (Or.inl rfl) (lr58 3 rfl) (Nat.le_of_ble_eq_true rfl) (Nat.le_of_ble_eq_true rfl) (by decide +kernel) (fun q1 H hw => ?_)
  have hw : WV D A s (wO ad cA (sz τ) ++ [(q1, aI cA 0 2 (fun _ => 0))]) H locs := hw
  refine lv_astore_n hx hb (k := 2) (i := 2) (lv' := [(2, .ref q1), (1, .int (iI (cel (τ 4) 107))), (0, .ref (ad 0))]) (by decide +kernel) rfl hl (by decide) rfl (fun ls hl => ?_)
  refine lv_iconst hx hb (n := 2) (v := iI 2) (by decide +kernel) rfl ?_
  refine lx_new (σ := sz τ) (X := [(q1, aI cA 0 2 (fun _ => 0))]) (z := 2) (N := 2) (t := 0) (ty := .int) (atype := .int) F hw rfl (by omega) rfl rfl (Or.inl rfl) (lr58 3 rfl) (Nat.le_of_ble_eq_true rfl) (Nat.le_of_ble_eq_true rfl) (by decide +kernel) (fun q2 H hw => ?_)
  have hw : WV D A s (wO ad cA (sz τ) ++ [(q1, aI cA 0 2 (fun _ => 0)), (q2, aI cA 0 2 (fun _ => 0))]) H locs := hw
  refine lv_astore_n hx hb (k := 3) (i := 3) (lv' := [(3, .ref q2), (2, .ref q1), (1, .int (iI (cel (τ 4) 107))), (0, .ref (ad 0))]) (by decide +kernel) rfl hl (by decide) rfl (fun ls hl => ?_)
  refine lv_iload_n hx hb (k := 1) (i := 1) (x := iI (cel (τ 4) 107)) (by decide +kernel) rfl (lv_at hl 2 rfl) ?_
  refine lx_new (σ := sz τ) (X := [(q1, aI cA 0 2 (fun _ => 0)), (q2, aI cA 0 2 (fun _ => 0))]) (z := (cel (τ 4) 107)) (N := N) (t := 3) (ty := .boolean) (atype := .boolean) F hw hN (by omega) rfl rfl (Or.inr rfl) (lr58 4 rfl) (Nat.le_of_ble_eq_true rfl) (by show _ ≤ 8600; omega) (by decide +kernel) (fun q3 H hw => ?_)
  have hw : WV D A s (wO ad cA (sz τ) ++ [(q1, aI cA 0 2 (fun _ => 0)), (q2, aI cA 0 2 (fun _ => 0)), (q3, aI cA 3 N (fun _ => 0))]) H locs := hw
  refine lv_astore hx hb (i := 4) (lv' := [(4, .ref q3), (3, .ref q2), (2, .ref q1), (1, .int (iI (cel (τ 4) 107))), (0, .ref (ad 0))]) (by decide +kernel) hl (by decide) rfl (fun ls hl => ?_)
  refine lv_iconst hx hb (n := 0) (v := iI 0) (by decide +kernel) rfl ?_
  refine lv_istore hx hb (i := 5) (lv' := [(5, .int (iI 0)), (4, .ref q3), (3, .ref q2), (2, .ref q1), (1, .int (iI (cel (τ 4) 107))), (0, .ref (ad 0))]) (by decide +kernel) hl (by decide) rfl (fun ls hl => ?_)
  have loop : ∀ (q j : Nat) (z : Int) (g1 g2 g3 : Nat → Int) (ls : Array Slot) (H : Heap) (locs : List Loc) (cl sl : Nat), j + q = 4 * N → z = (j : Int) → (g1 0 = mcs (τ 4) 0 j ∧ g1 1 = mcs (τ 4) 1 j) → (g2 0 = ccs (τ 4) 0 j ∧ g2 1 = ccs (τ 4) 1 j) → (∀ k : Nat, k < N → g3 k = thz (τ 4) j k) → cl ≤ 10 + 40 * j → sl ≤ 40 + 240 * j → lv_has ls 14 [(5, .int (iI z)), (4, .ref q3), (3, .ref q2), (2, .ref q1), (1, .int (iI (cel (τ 4) 107))), (0, .ref (ad 0))] → WV D A s (wO ad cA (sz τ) ++ [(q1, aI cA 0 2 (g1)), (q2, aI cA 0 2 (g2)), (q3, aI cA 3 N (g3))]) H locs → W p l e (rmK 26 1400 8600) s m args below meth c H locs cl sl (vx_MQ below (LQ D A (RV ad cA [] 1 τ)) (fun _ _ _ => False) args s 1400 8600 A) (F0 m 22 ls []) := by
    intro q
    induction q with
    | zero =>
      intro j z g1 g2 g3 ls H locs cl sl hk hz hg1 hg2 hg3 hcl hsl hl hw
      have hj : j = 4 * N := by omega
      subst hj
      obtain ⟨hm0, hm1⟩ := hg1
      obtain ⟨hc0, hc1⟩ := hg2
      rw [mcs_4] at hm0 hm1
      rw [ccs_4] at hc0 hc1
      have hp0 := mbf_mbp hI (x := 0) hN
      have hp1 := mbf_mbp hI (x := 1) hN
      have hd0 := cbj_cbd hI (x := 0) (by omega) hN
      have hd1 := cbj_cbd hI (x := 1) (by omega) hN
      have hb0 := mcs_in (c := τ 4) (x := 0) (4 * N)
      have hb1 := mcs_in (c := τ 4) (x := 1) (4 * N)
      rw [mcs_4, ccs_4] at hb0 hb1
      refine lv_iload hx hb (i := 5) (x := iI z) (by decide +kernel) (lv_at hl 0 rfl) ?_
      refine lv_iconst hx hb (n := 4) (v := iI 4) (by decide +kernel) rfl ?_
      refine lv_iload_n hx hb (k := 1) (i := 1) (x := iI (cel (τ 4) 107)) (by decide +kernel) rfl (lv_at hl 4 rfl) ?_
      refine lz_imul hx hb (a := 4) (b := (cel (τ 4) 107)) (by decide +kernel) ?_
      refine lz_icmp_ge hx hb (a := z) (b := (4 * (cel (τ 4) 107))) (off := 410) (tgt := 437) (by decide +kernel) (by decide) ⟨by omega, by omega⟩ ⟨by omega, by omega⟩ (fun _ => ?_) (fun h9 => absurd (by omega) h9)
      refine lv_iconst hx hb (n := 0) (v := iI 0) (by decide +kernel) rfl ?_
      refine lv_istore hx hb (i := 5) (lv' := [(5, .int (iI 0)), (4, .ref q3), (3, .ref q2), (2, .ref q1), (1, .int (iI (cel (τ 4) 107))), (0, .ref (ad 0))]) (by decide +kernel) hl (by decide) rfl (fun ls hl => ?_)
      have loop2 : ∀ (q k : Nat) (z : Int) (ls : Array Slot) (H : Heap) (locs : List Loc) (cl sl : Nat), k + q = N → z = (k : Int) → cl ≤ 1300 + 2 * k → sl ≤ 7800 + 12 * k → lv_has ls 14 [(5, .int (iI z)), (4, .ref q3), (3, .ref q2), (2, .ref q1), (1, .int (iI (cel (τ 4) 107))), (0, .ref (ad 0))] → WV D A s (wO ad cA (sz τ) ++ [(q1, aI cA 0 2 (g1)), (q2, aI cA 0 2 (g2)), (q3, aI cA 3 N (g3))]) H locs → W p l e (rmK 26 1400 8600) s m args below meth c H locs cl sl (vx_MQ below (LQ D A (RV ad cA [] 1 τ)) (fun _ _ _ => False) args s 1400 8600 A) (F0 m 440 ls []) := by
        intro q
        induction q with
        | zero =>
          intro k z ls H locs cl sl hk hz hcl hsl hl hw
          refine lv_iload hx hb (i := 5) (x := iI z) (by decide +kernel) (lv_at hl 0 rfl) ?_
          refine lv_iload_n hx hb (k := 1) (i := 1) (x := iI (cel (τ 4) 107)) (by decide +kernel) rfl (lv_at hl 4 rfl) ?_
          refine lz_icmp_ge hx hb (a := z) (b := (cel (τ 4) 107)) (off := 33) (tgt := 476) (by decide +kernel) (by decide) ⟨by omega, by omega⟩ ⟨by omega, by omega⟩ (fun _ => ?_) (fun h9 => absurd (by omega) h9)
          refine lv_iconst hx hb (n := 1) (v := iI 1) (by decide +kernel) rfl ?_
          refine lv_istore hx hb (i := 5) (lv' := [(5, .int (iI 1)), (4, .ref q3), (3, .ref q2), (2, .ref q1), (1, .int (iI (cel (τ 4) 107))), (0, .ref (ad 0))]) (by decide +kernel) hl (by decide) rfl (fun ls hl => ?_)
          refine lv_iconst hx hb (n := 0) (v := iI 0) (by decide +kernel) rfl ?_
          refine lv_istore hx hb (i := 6) (lv' := [(6, .int (iI 0)), (5, .int (iI 1)), (4, .ref q3), (3, .ref q2), (2, .ref q1), (1, .int (iI (cel (τ 4) 107))), (0, .ref (ad 0))]) (by decide +kernel) hl (by decide) rfl (fun ls hl => ?_)
          refine lv_iload hx hb (i := 6) (x := iI 0) (by decide +kernel) (lv_at hl 0 rfl) ?_
          refine lv_iconst hx hb (n := 2) (v := iI 2) (by decide +kernel) rfl ?_
          refine lz_icmp_ge hx hb (a := 0) (b := 2) (off := 77) (tgt := 562) (by decide +kernel) (by decide) ⟨by decide, by decide⟩ ⟨by decide, by decide⟩ (fun h9 => absurd h9 (by decide)) (fun _ => ?_)
          refine lv_iload hx hb (i := 5) (x := iI 1) (by decide +kernel) (lv_at hl 1 rfl) ?_
          refine lz_if_eq hx hb (a := 1) (off := 63) (tgt := 553) (by decide +kernel) (by decide) ⟨by decide, by decide⟩ (fun h9 => absurd h9 (by decide)) (fun _ => ?_)
          refine lv_aload_n hx hb (k := 0) (i := 0) (x := ad 0) (by decide +kernel) rfl (lv_at hl 6 rfl) ?_
          refine lv_iload hx hb (i := 6) (x := iI 0) (by decide +kernel) (lv_at hl 0 rfl) ?_
          refine lv_iconst hx hb (n := 0) (v := iI 0) (by decide +kernel) rfl ?_
          refine lk_callH (x := 212) (rest := []) (as := [.ref (ad 0), .int (iI 0), .int (iI 0)]) (n := 3) F hw hl.1 (N_moves_0 (X := [(q1, aI cA 0 2 (g1)), (q2, aI cA 0 2 (g2)), (q3, aI cA 3 N (g3))]) F.l0 hS rfl hN (by omega)) (lr58 5 rfl) (lr58 6 rfl) (lr58 7 rfl) (lr58 8 rfl) ⟨by decide, by decide, by decide +kernel⟩ rfl ⟨Nat.le_of_ble_eq_true rfl, Nat.le_of_ble_eq_true rfl, (by show _ ≤ 1400; omega), (by show _ ≤ 8600; omega)⟩ (Nat.le_of_ble_eq_true rfl) (by decide +kernel) rfl (fun v9 V9 hG H locs hw => ?_)
          obtain ⟨rfl, rfl⟩ := hG
          refine W.eq (g2 := F0 m 500 ls [.int (iI (mbf (τ 4) 0 N))]) rfl ?_
          refine lv_aload_n hx hb (k := 2) (i := 2) (x := q1) (by decide +kernel) rfl (lv_at hl 4 rfl) ?_
          refine lv_iload hx hb (i := 6) (x := iI 0) (by decide +kernel) (lv_at hl 0 rfl) ?_
          refine lx_iald (σ := sz τ) (X := [(q1, aI cA 0 2 (g1)), (q2, aI cA 0 2 (g2)), (q3, aI cA 3 N (g3))]) (k := 0) (q := q1) (n := 2) (g := g1) (z := 0) F hw rfl ⟨by omega, by omega⟩ (by omega) (by decide +kernel) ?_
          refine W.eq (g2 := F0 m 504 ls [.int (iI (g1 0)), .int (iI (mbf (τ 4) 0 N))]) rfl ?_
          refine lz_icmp_ne hx hb (a := (mbf (τ 4) 0 N)) (b := (g1 0)) (off := 49) (tgt := 553) (by decide +kernel) (by decide) ⟨by omega, by omega⟩ ⟨by omega, by omega⟩ (fun h9 => absurd h9 (by omega)) (fun _ => ?_)
          refine lv_aload_n hx hb (k := 0) (i := 0) (x := ad 0) (by decide +kernel) rfl (lv_at hl 6 rfl) ?_
          refine lv_iload hx hb (i := 6) (x := iI 0) (by decide +kernel) (lv_at hl 0 rfl) ?_
          refine lv_iconst hx hb (n := 1) (v := iI 1) (by decide +kernel) rfl ?_
          refine lk_callH (x := 212) (rest := []) (as := [.ref (ad 0), .int (iI 0), .int (iI 1)]) (n := 3) F hw hl.1 (N_moves_1 (X := [(q1, aI cA 0 2 (g1)), (q2, aI cA 0 2 (g2)), (q3, aI cA 3 N (g3))]) F.l0 hS rfl hN (by omega)) (lr58 5 rfl) (lr58 6 rfl) (lr58 7 rfl) (lr58 8 rfl) ⟨by decide, by decide, by decide +kernel⟩ rfl ⟨Nat.le_of_ble_eq_true rfl, Nat.le_of_ble_eq_true rfl, (by show _ ≤ 1400; omega), (by show _ ≤ 8600; omega)⟩ (Nat.le_of_ble_eq_true rfl) (by decide +kernel) rfl (fun v9 V9 hG H locs hw => ?_)
          obtain ⟨rfl, rfl⟩ := hG
          refine W.eq (g2 := F0 m 514 ls [.int (iI (mbp (τ 4) 0))]) rfl ?_
          refine lv_aload_n hx hb (k := 2) (i := 2) (x := q1) (by decide +kernel) rfl (lv_at hl 4 rfl) ?_
          refine lv_iload hx hb (i := 6) (x := iI 0) (by decide +kernel) (lv_at hl 0 rfl) ?_
          refine lx_iald (σ := sz τ) (X := [(q1, aI cA 0 2 (g1)), (q2, aI cA 0 2 (g2)), (q3, aI cA 3 N (g3))]) (k := 0) (q := q1) (n := 2) (g := g1) (z := 0) F hw rfl ⟨by omega, by omega⟩ (by omega) (by decide +kernel) ?_
          refine W.eq (g2 := F0 m 518 ls [.int (iI (g1 0)), .int (iI (mbp (τ 4) 0))]) rfl ?_
          refine lz_icmp_ne hx hb (a := (mbp (τ 4) 0)) (b := (g1 0)) (off := 35) (tgt := 553) (by decide +kernel) (by decide) ⟨by omega, by omega⟩ ⟨by omega, by omega⟩ (fun h9 => absurd h9 (by omega)) (fun _ => ?_)
          refine lv_aload_n hx hb (k := 0) (i := 0) (x := ad 0) (by decide +kernel) rfl (lv_at hl 6 rfl) ?_
          refine lv_iload hx hb (i := 6) (x := iI 0) (by decide +kernel) (lv_at hl 0 rfl) ?_
          refine lv_iconst hx hb (n := 0) (v := iI 0) (by decide +kernel) rfl ?_
          refine lk_callH (x := 214) (rest := []) (as := [.ref (ad 0), .int (iI 0), .int (iI 0)]) (n := 3) F hw hl.1 (N_captures_0 (X := [(q1, aI cA 0 2 (g1)), (q2, aI cA 0 2 (g2)), (q3, aI cA 3 N (g3))]) F.l0 hS rfl hN (by omega)) (lr58 9 rfl) (lr58 10 rfl) (lr58 11 rfl) (lr58 8 rfl) ⟨by decide, by decide, by decide +kernel⟩ rfl ⟨Nat.le_of_ble_eq_true rfl, Nat.le_of_ble_eq_true rfl, (by show _ ≤ 1400; omega), (by show _ ≤ 8600; omega)⟩ (Nat.le_of_ble_eq_true rfl) (by decide +kernel) rfl (fun v9 V9 hG H locs hw => ?_)
          obtain ⟨rfl, rfl⟩ := hG
          refine W.eq (g2 := F0 m 528 ls [.int (iI (cbj (τ 4) 0 N))]) rfl ?_
          refine lv_aload_n hx hb (k := 3) (i := 3) (x := q2) (by decide +kernel) rfl (lv_at hl 3 rfl) ?_
          refine lv_iload hx hb (i := 6) (x := iI 0) (by decide +kernel) (lv_at hl 0 rfl) ?_
          refine lx_iald (σ := sz τ) (X := [(q1, aI cA 0 2 (g1)), (q2, aI cA 0 2 (g2)), (q3, aI cA 3 N (g3))]) (k := 1) (q := q2) (n := 2) (g := g2) (z := 0) F hw rfl ⟨by omega, by omega⟩ (by omega) (by decide +kernel) ?_
          refine W.eq (g2 := F0 m 532 ls [.int (iI (g2 0)), .int (iI (cbj (τ 4) 0 N))]) rfl ?_
          refine lz_icmp_ne hx hb (a := (cbj (τ 4) 0 N)) (b := (g2 0)) (off := 21) (tgt := 553) (by decide +kernel) (by decide) ⟨by omega, by omega⟩ ⟨by omega, by omega⟩ (fun h9 => absurd h9 (by omega)) (fun _ => ?_)
          refine lv_aload_n hx hb (k := 0) (i := 0) (x := ad 0) (by decide +kernel) rfl (lv_at hl 6 rfl) ?_
          refine lv_iload hx hb (i := 6) (x := iI 0) (by decide +kernel) (lv_at hl 0 rfl) ?_
          refine lv_iconst hx hb (n := 1) (v := iI 1) (by decide +kernel) rfl ?_
          refine lk_callH (x := 214) (rest := []) (as := [.ref (ad 0), .int (iI 0), .int (iI 1)]) (n := 3) F hw hl.1 (N_captures_1 (X := [(q1, aI cA 0 2 (g1)), (q2, aI cA 0 2 (g2)), (q3, aI cA 3 N (g3))]) F.l0 hS rfl hN (by omega)) (lr58 9 rfl) (lr58 10 rfl) (lr58 11 rfl) (lr58 8 rfl) ⟨by decide, by decide, by decide +kernel⟩ rfl ⟨Nat.le_of_ble_eq_true rfl, Nat.le_of_ble_eq_true rfl, (by show _ ≤ 1400; omega), (by show _ ≤ 8600; omega)⟩ (Nat.le_of_ble_eq_true rfl) (by decide +kernel) rfl (fun v9 V9 hG H locs hw => ?_)
          obtain ⟨rfl, rfl⟩ := hG
          refine W.eq (g2 := F0 m 542 ls [.int (iI (cbd (τ 4) 0 N))]) rfl ?_
          refine lv_aload_n hx hb (k := 3) (i := 3) (x := q2) (by decide +kernel) rfl (lv_at hl 3 rfl) ?_
          refine lv_iload hx hb (i := 6) (x := iI 0) (by decide +kernel) (lv_at hl 0 rfl) ?_
          refine lx_iald (σ := sz τ) (X := [(q1, aI cA 0 2 (g1)), (q2, aI cA 0 2 (g2)), (q3, aI cA 3 N (g3))]) (k := 1) (q := q2) (n := 2) (g := g2) (z := 0) F hw rfl ⟨by omega, by omega⟩ (by omega) (by decide +kernel) ?_
          refine W.eq (g2 := F0 m 546 ls [.int (iI (g2 0)), .int (iI (cbd (τ 4) 0 N))]) rfl ?_
          refine lz_icmp_ne hx hb (a := (cbd (τ 4) 0 N)) (b := (g2 0)) (off := 7) (tgt := 553) (by decide +kernel) (by decide) ⟨by omega, by omega⟩ ⟨by omega, by omega⟩ (fun h9 => absurd h9 (by omega)) (fun _ => ?_)
          refine lv_iconst hx hb (n := 1) (v := iI 1) (by decide +kernel) rfl ?_
          refine lv_goto hx hb (off := 4) (tgt := 554) (by decide +kernel) (by decide) ?_
          refine lv_istore hx hb (i := 5) (lv' := [(5, .int (iI 1)), (6, .int (iI 0)), (4, .ref q3), (3, .ref q2), (2, .ref q1), (1, .int (iI (cel (τ 4) 107))), (0, .ref (ad 0))]) (by decide +kernel) hl (by decide) rfl (fun ls hl => ?_)
          refine lv_iinc hx hb (i := 6) (n := 1) (v := iI 1) (lv' := [(6, .int (iI 1)), (5, .int (iI 1)), (4, .ref q3), (3, .ref q2), (2, .ref q1), (1, .int (iI (cel (τ 4) 107))), (0, .ref (ad 0))]) (by decide +kernel) hl (k := 1) rfl (iI_add _ _) (by decide) rfl (fun ls hl => ?_)
          refine lv_goto hx hb (off := (-77)) (tgt := 482) (by decide +kernel) (by decide) ?_
          refine lv_iload hx hb (i := 6) (x := iI 1) (by decide +kernel) (lv_at hl 0 rfl) ?_
          refine lv_iconst hx hb (n := 2) (v := iI 2) (by decide +kernel) rfl ?_
          refine lz_icmp_ge hx hb (a := 1) (b := 2) (off := 77) (tgt := 562) (by decide +kernel) (by decide) ⟨by decide, by decide⟩ ⟨by decide, by decide⟩ (fun h9 => absurd h9 (by decide)) (fun _ => ?_)
          refine lv_iload hx hb (i := 5) (x := iI 1) (by decide +kernel) (lv_at hl 1 rfl) ?_
          refine lz_if_eq hx hb (a := 1) (off := 63) (tgt := 553) (by decide +kernel) (by decide) ⟨by decide, by decide⟩ (fun h9 => absurd h9 (by decide)) (fun _ => ?_)
          refine lv_aload_n hx hb (k := 0) (i := 0) (x := ad 0) (by decide +kernel) rfl (lv_at hl 6 rfl) ?_
          refine lv_iload hx hb (i := 6) (x := iI 1) (by decide +kernel) (lv_at hl 0 rfl) ?_
          refine lv_iconst hx hb (n := 0) (v := iI 0) (by decide +kernel) rfl ?_
          refine lk_callH (x := 212) (rest := []) (as := [.ref (ad 0), .int (iI 1), .int (iI 0)]) (n := 3) F hw hl.1 (N_moves_0 (X := [(q1, aI cA 0 2 (g1)), (q2, aI cA 0 2 (g2)), (q3, aI cA 3 N (g3))]) F.l0 hS rfl hN (by omega)) (lr58 5 rfl) (lr58 6 rfl) (lr58 7 rfl) (lr58 8 rfl) ⟨by decide, by decide, by decide +kernel⟩ rfl ⟨Nat.le_of_ble_eq_true rfl, Nat.le_of_ble_eq_true rfl, (by show _ ≤ 1400; omega), (by show _ ≤ 8600; omega)⟩ (Nat.le_of_ble_eq_true rfl) (by decide +kernel) rfl (fun v9 V9 hG H locs hw => ?_)
          obtain ⟨rfl, rfl⟩ := hG
          refine W.eq (g2 := F0 m 500 ls [.int (iI (mbf (τ 4) 1 N))]) rfl ?_
          refine lv_aload_n hx hb (k := 2) (i := 2) (x := q1) (by decide +kernel) rfl (lv_at hl 4 rfl) ?_
          refine lv_iload hx hb (i := 6) (x := iI 1) (by decide +kernel) (lv_at hl 0 rfl) ?_
          refine lx_iald (σ := sz τ) (X := [(q1, aI cA 0 2 (g1)), (q2, aI cA 0 2 (g2)), (q3, aI cA 3 N (g3))]) (k := 0) (q := q1) (n := 2) (g := g1) (z := 1) F hw rfl ⟨by omega, by omega⟩ (by omega) (by decide +kernel) ?_
          refine W.eq (g2 := F0 m 504 ls [.int (iI (g1 1)), .int (iI (mbf (τ 4) 1 N))]) rfl ?_
          refine lz_icmp_ne hx hb (a := (mbf (τ 4) 1 N)) (b := (g1 1)) (off := 49) (tgt := 553) (by decide +kernel) (by decide) ⟨by omega, by omega⟩ ⟨by omega, by omega⟩ (fun h9 => absurd h9 (by omega)) (fun _ => ?_)
          refine lv_aload_n hx hb (k := 0) (i := 0) (x := ad 0) (by decide +kernel) rfl (lv_at hl 6 rfl) ?_
          refine lv_iload hx hb (i := 6) (x := iI 1) (by decide +kernel) (lv_at hl 0 rfl) ?_
          refine lv_iconst hx hb (n := 1) (v := iI 1) (by decide +kernel) rfl ?_
          refine lk_callH (x := 212) (rest := []) (as := [.ref (ad 0), .int (iI 1), .int (iI 1)]) (n := 3) F hw hl.1 (N_moves_1 (X := [(q1, aI cA 0 2 (g1)), (q2, aI cA 0 2 (g2)), (q3, aI cA 3 N (g3))]) F.l0 hS rfl hN (by omega)) (lr58 5 rfl) (lr58 6 rfl) (lr58 7 rfl) (lr58 8 rfl) ⟨by decide, by decide, by decide +kernel⟩ rfl ⟨Nat.le_of_ble_eq_true rfl, Nat.le_of_ble_eq_true rfl, (by show _ ≤ 1400; omega), (by show _ ≤ 8600; omega)⟩ (Nat.le_of_ble_eq_true rfl) (by decide +kernel) rfl (fun v9 V9 hG H locs hw => ?_)
          obtain ⟨rfl, rfl⟩ := hG
          refine W.eq (g2 := F0 m 514 ls [.int (iI (mbp (τ 4) 1))]) rfl ?_
          refine lv_aload_n hx hb (k := 2) (i := 2) (x := q1) (by decide +kernel) rfl (lv_at hl 4 rfl) ?_
          refine lv_iload hx hb (i := 6) (x := iI 1) (by decide +kernel) (lv_at hl 0 rfl) ?_
          refine lx_iald (σ := sz τ) (X := [(q1, aI cA 0 2 (g1)), (q2, aI cA 0 2 (g2)), (q3, aI cA 3 N (g3))]) (k := 0) (q := q1) (n := 2) (g := g1) (z := 1) F hw rfl ⟨by omega, by omega⟩ (by omega) (by decide +kernel) ?_
          refine W.eq (g2 := F0 m 518 ls [.int (iI (g1 1)), .int (iI (mbp (τ 4) 1))]) rfl ?_
          refine lz_icmp_ne hx hb (a := (mbp (τ 4) 1)) (b := (g1 1)) (off := 35) (tgt := 553) (by decide +kernel) (by decide) ⟨by omega, by omega⟩ ⟨by omega, by omega⟩ (fun h9 => absurd h9 (by omega)) (fun _ => ?_)
          refine lv_aload_n hx hb (k := 0) (i := 0) (x := ad 0) (by decide +kernel) rfl (lv_at hl 6 rfl) ?_
          refine lv_iload hx hb (i := 6) (x := iI 1) (by decide +kernel) (lv_at hl 0 rfl) ?_
          refine lv_iconst hx hb (n := 0) (v := iI 0) (by decide +kernel) rfl ?_
          refine lk_callH (x := 214) (rest := []) (as := [.ref (ad 0), .int (iI 1), .int (iI 0)]) (n := 3) F hw hl.1 (N_captures_0 (X := [(q1, aI cA 0 2 (g1)), (q2, aI cA 0 2 (g2)), (q3, aI cA 3 N (g3))]) F.l0 hS rfl hN (by omega)) (lr58 9 rfl) (lr58 10 rfl) (lr58 11 rfl) (lr58 8 rfl) ⟨by decide, by decide, by decide +kernel⟩ rfl ⟨Nat.le_of_ble_eq_true rfl, Nat.le_of_ble_eq_true rfl, (by show _ ≤ 1400; omega), (by show _ ≤ 8600; omega)⟩ (Nat.le_of_ble_eq_true rfl) (by decide +kernel) rfl (fun v9 V9 hG H locs hw => ?_)
          obtain ⟨rfl, rfl⟩ := hG
          refine W.eq (g2 := F0 m 528 ls [.int (iI (cbj (τ 4) 1 N))]) rfl ?_
          refine lv_aload_n hx hb (k := 3) (i := 3) (x := q2) (by decide +kernel) rfl (lv_at hl 3 rfl) ?_
          refine lv_iload hx hb (i := 6) (x := iI 1) (by decide +kernel) (lv_at hl 0 rfl) ?_
          refine lx_iald (σ := sz τ) (X := [(q1, aI cA 0 2 (g1)), (q2, aI cA 0 2 (g2)), (q3, aI cA 3 N (g3))]) (k := 1) (q := q2) (n := 2) (g := g2) (z := 1) F hw rfl ⟨by omega, by omega⟩ (by omega) (by decide +kernel) ?_
          refine W.eq (g2 := F0 m 532 ls [.int (iI (g2 1)), .int (iI (cbj (τ 4) 1 N))]) rfl ?_
          refine lz_icmp_ne hx hb (a := (cbj (τ 4) 1 N)) (b := (g2 1)) (off := 21) (tgt := 553) (by decide +kernel) (by decide) ⟨by omega, by omega⟩ ⟨by omega, by omega⟩ (fun h9 => absurd h9 (by omega)) (fun _ => ?_)
          refine lv_aload_n hx hb (k := 0) (i := 0) (x := ad 0) (by decide +kernel) rfl (lv_at hl 6 rfl) ?_
          refine lv_iload hx hb (i := 6) (x := iI 1) (by decide +kernel) (lv_at hl 0 rfl) ?_
          refine lv_iconst hx hb (n := 1) (v := iI 1) (by decide +kernel) rfl ?_
          refine lk_callH (x := 214) (rest := []) (as := [.ref (ad 0), .int (iI 1), .int (iI 1)]) (n := 3) F hw hl.1 (N_captures_1 (X := [(q1, aI cA 0 2 (g1)), (q2, aI cA 0 2 (g2)), (q3, aI cA 3 N (g3))]) F.l0 hS rfl hN (by omega)) (lr58 9 rfl) (lr58 10 rfl) (lr58 11 rfl) (lr58 8 rfl) ⟨by decide, by decide, by decide +kernel⟩ rfl ⟨Nat.le_of_ble_eq_true rfl, Nat.le_of_ble_eq_true rfl, (by show _ ≤ 1400; omega), (by show _ ≤ 8600; omega)⟩ (Nat.le_of_ble_eq_true rfl) (by decide +kernel) rfl (fun v9 V9 hG H locs hw => ?_)
          obtain ⟨rfl, rfl⟩ := hG
          refine W.eq (g2 := F0 m 542 ls [.int (iI (cbd (τ 4) 1 N))]) rfl ?_
          refine lv_aload_n hx hb (k := 3) (i := 3) (x := q2) (by decide +kernel) rfl (lv_at hl 3 rfl) ?_
          refine lv_iload hx hb (i := 6) (x := iI 1) (by decide +kernel) (lv_at hl 0 rfl) ?_
          refine lx_iald (σ := sz τ) (X := [(q1, aI cA 0 2 (g1)), (q2, aI cA 0 2 (g2)), (q3, aI cA 3 N (g3))]) (k := 1) (q := q2) (n := 2) (g := g2) (z := 1) F hw rfl ⟨by omega, by omega⟩ (by omega) (by decide +kernel) ?_
          refine W.eq (g2 := F0 m 546 ls [.int (iI (g2 1)), .int (iI (cbd (τ 4) 1 N))]) rfl ?_
          refine lz_icmp_ne hx hb (a := (cbd (τ 4) 1 N)) (b := (g2 1)) (off := 7) (tgt := 553) (by decide +kernel) (by decide) ⟨by omega, by omega⟩ ⟨by omega, by omega⟩ (fun h9 => absurd h9 (by omega)) (fun _ => ?_)
          refine lv_iconst hx hb (n := 1) (v := iI 1) (by decide +kernel) rfl ?_
          refine lv_goto hx hb (off := 4) (tgt := 554) (by decide +kernel) (by decide) ?_
          refine lv_istore hx hb (i := 5) (lv' := [(5, .int (iI 1)), (6, .int (iI 1)), (4, .ref q3), (3, .ref q2), (2, .ref q1), (1, .int (iI (cel (τ 4) 107))), (0, .ref (ad 0))]) (by decide +kernel) hl (by decide) rfl (fun ls hl => ?_)
          refine lv_iinc hx hb (i := 6) (n := 1) (v := iI 2) (lv' := [(6, .int (iI 2)), (5, .int (iI 1)), (4, .ref q3), (3, .ref q2), (2, .ref q1), (1, .int (iI (cel (τ 4) 107))), (0, .ref (ad 0))]) (by decide +kernel) hl (k := 1) rfl (iI_add _ _) (by decide) rfl (fun ls hl => ?_)
          refine lv_goto hx hb (off := (-77)) (tgt := 482) (by decide +kernel) (by decide) ?_
          refine lv_iload hx hb (i := 6) (x := iI 2) (by decide +kernel) (lv_at hl 0 rfl) ?_
          refine lv_iconst hx hb (n := 2) (v := iI 2) (by decide +kernel) rfl ?_
          refine lz_icmp_ge hx hb (a := 2) (b := 2) (off := 77) (tgt := 562) (by decide +kernel) (by decide) ⟨by decide, by decide⟩ ⟨by decide, by decide⟩ (fun _ => ?_) (fun h9 => absurd (by decide) h9)
          refine lv_iload hx hb (i := 5) (x := iI 1) (by decide +kernel) (lv_at hl 1 rfl) ?_
          refine lz_if_eq hx hb (a := 1) (off := 95) (tgt := 659) (by decide +kernel) (by decide) ⟨by decide, by decide⟩ (fun h9 => absurd h9 (by decide)) (fun _ => ?_)
          refine lv_aload_n hx hb (k := 0) (i := 0) (x := ad 0) (by decide +kernel) rfl (lv_at hl 6 rfl) ?_
          refine lv_iconst hx hb (n := 2) (v := iI 2) (by decide +kernel) rfl ?_
          refine lv_iconst hx hb (n := 1) (v := iI 1) (by decide +kernel) rfl ?_
          refine lk_callH (x := 212) (rest := []) (as := [.ref (ad 0), .int (iI 2), .int (iI 1)]) (n := 3) F hw hl.1 (X_moves_1 (X := [(q1, aI cA 0 2 (g1)), (q2, aI cA 0 2 (g2)), (q3, aI cA 3 N (g3))]) F.l0 hS rfl hN (by omega) ⟨by decide, by decide⟩) (lr58 5 rfl) (lr58 6 rfl) (lr58 7 rfl) (lr58 8 rfl) ⟨by decide, by decide, by decide +kernel⟩ rfl ⟨Nat.le_of_ble_eq_true rfl, Nat.le_of_ble_eq_true rfl, (by show _ ≤ 1400; omega), (by show _ ≤ 8600; omega)⟩ (Nat.le_of_ble_eq_true rfl) (by decide +kernel) rfl (fun v9 V9 hG H locs hw => ?_)
          obtain ⟨rfl, rfl⟩ := hG
          refine W.eq (g2 := F0 m 573 ls [.int (iI (-12))]) rfl ?_
          refine lv_bipush hx hb (n := (-12)) (v := iI (-12)) (by decide +kernel) (by decide) ?_
          refine lz_icmp_ne hx hb (a := (-12)) (b := (-12)) (off := 84) (tgt := 659) (by decide +kernel) (by decide) ⟨by decide, by decide⟩ ⟨by decide, by decide⟩ (fun h9 => absurd h9 (by decide)) (fun _ => ?_)
          refine lv_aload_n hx hb (k := 0) (i := 0) (x := ad 0) (by decide +kernel) rfl (lv_at hl 6 rfl) ?_
          refine lv_iconst hx hb (n := (-1)) (v := iI (-1)) (by decide +kernel) rfl ?_
          refine lv_iconst hx hb (n := 0) (v := iI 0) (by decide +kernel) rfl ?_
          refine lk_callH (x := 214) (rest := []) (as := [.ref (ad 0), .int (iI (-1)), .int (iI 0)]) (n := 3) F hw hl.1 (X_captures_0 (X := [(q1, aI cA 0 2 (g1)), (q2, aI cA 0 2 (g2)), (q3, aI cA 3 N (g3))]) F.l0 hS rfl hN (by omega) ⟨by decide, by decide⟩) (lr58 9 rfl) (lr58 10 rfl) (lr58 11 rfl) (lr58 8 rfl) ⟨by decide, by decide, by decide +kernel⟩ rfl ⟨Nat.le_of_ble_eq_true rfl, Nat.le_of_ble_eq_true rfl, (by show _ ≤ 1400; omega), (by show _ ≤ 8600; omega)⟩ (Nat.le_of_ble_eq_true rfl) (by decide +kernel) rfl (fun v9 V9 hG H locs hw => ?_)
          obtain ⟨rfl, rfl⟩ := hG
          refine W.eq (g2 := F0 m 584 ls [.int (iI (-12))]) rfl ?_
          refine lv_bipush hx hb (n := (-12)) (v := iI (-12)) (by decide +kernel) (by decide) ?_
          refine lz_icmp_ne hx hb (a := (-12)) (b := (-12)) (off := 73) (tgt := 659) (by decide +kernel) (by decide) ⟨by decide, by decide⟩ ⟨by decide, by decide⟩ (fun h9 => absurd h9 (by decide)) (fun _ => ?_)
          refine lv_aload_n hx hb (k := 0) (i := 0) (x := ad 0) (by decide +kernel) rfl (lv_at hl 6 rfl) ?_
          refine lv_iload_n hx hb (k := 1) (i := 1) (x := iI (cel (τ 4) 107)) (by decide +kernel) rfl (lv_at hl 5 rfl) ?_
          refine lk_callH (x := 210) (rest := []) (as := [.ref (ad 0), .int (iI (cel (τ 4) 107))]) (n := 2) F hw hl.1 (X_thr (X := [(q1, aI cA 0 2 (g1)), (q2, aI cA 0 2 (g2)), (q3, aI cA 3 N (g3))]) F.l0 hS rfl (by omega) ⟨by omega, by omega⟩) (lr58 12 rfl) (lr58 13 rfl) (lr58 14 rfl) (lr58 8 rfl) ⟨by decide, by decide, by decide +kernel⟩ rfl ⟨Nat.le_of_ble_eq_true rfl, Nat.le_of_ble_eq_true rfl, (by show _ ≤ 1400; omega), (by show _ ≤ 8600; omega)⟩ (Nat.le_of_ble_eq_true rfl) (by decide +kernel) rfl (fun v9 V9 hG H locs hw => ?_)
          obtain ⟨rfl, rfl⟩ := hG
          refine W.eq (g2 := F0 m 594 ls [.int (iI (-11))]) rfl ?_
          refine lv_bipush hx hb (n := (-11)) (v := iI (-11)) (by decide +kernel) (by decide) ?_
          refine lz_icmp_ne hx hb (a := (-11)) (b := (-11)) (off := 63) (tgt := 659) (by decide +kernel) (by decide) ⟨by decide, by decide⟩ ⟨by decide, by decide⟩ (fun h9 => absurd h9 (by decide)) (fun _ => ?_)
          refine lv_aload_n hx hb (k := 0) (i := 0) (x := ad 0) (by decide +kernel) rfl (lv_at hl 6 rfl) ?_
          refine lv_iload_n hx hb (k := 1) (i := 1) (x := iI (cel (τ 4) 107)) (by decide +kernel) rfl (lv_at hl 5 rfl) ?_
          refine lv_iconst hx hb (n := 0) (v := iI 0) (by decide +kernel) rfl ?_
          refine lv_iconst hx hb (n := 1) (v := iI 1) (by decide +kernel) rfl ?_
          refine lk_callH (x := 158) (rest := []) (as := [.ref (ad 0), .int (iI (cel (τ 4) 107)), .int (iI 0), .int (iI 1)]) (n := 4) F hw hl.1 (X_would_1 (X := [(q1, aI cA 0 2 (g1)), (q2, aI cA 0 2 (g2)), (q3, aI cA 3 N (g3))]) F.l0 hS rfl (by omega) ⟨by omega, by omega⟩ ⟨by omega, by omega⟩) (lr58 15 rfl) (lr58 16 rfl) (lr58 17 rfl) (lr58 8 rfl) ⟨by decide, by decide, by decide +kernel⟩ rfl ⟨Nat.le_of_ble_eq_true rfl, Nat.le_of_ble_eq_true rfl, (by show _ ≤ 1400; omega), (by show _ ≤ 8600; omega)⟩ (Nat.le_of_ble_eq_true rfl) (by decide +kernel) rfl (fun v9 V9 hG H locs hw => ?_)
          obtain ⟨rfl, rfl⟩ := hG
          refine W.eq (g2 := F0 m 606 ls [.int (iI (-11))]) rfl ?_
          refine lv_bipush hx hb (n := (-11)) (v := iI (-11)) (by decide +kernel) (by decide) ?_
          refine lz_icmp_ne hx hb (a := (-11)) (b := (-11)) (off := 51) (tgt := 659) (by decide +kernel) (by decide) ⟨by decide, by decide⟩ ⟨by decide, by decide⟩ (fun h9 => absurd h9 (by decide)) (fun _ => ?_)
          refine lv_aload_n hx hb (k := 0) (i := 0) (x := ad 0) (by decide +kernel) rfl (lv_at hl 6 rfl) ?_
          refine lv_iconst hx hb (n := 0) (v := iI 0) (by decide +kernel) rfl ?_
          refine lv_iconst hx hb (n := 2) (v := iI 2) (by decide +kernel) rfl ?_
          refine lv_iconst hx hb (n := 1) (v := iI 1) (by decide +kernel) rfl ?_
          refine lv_iconst hx hb (n := 1) (v := iI 1) (by decide +kernel) rfl ?_
          refine lk_callH (x := 203) (rest := []) (as := [.ref (ad 0), .int (iI 0), .int (iI 2), .int (iI 1), .int (iI 1)]) (n := 5) F hw hl.1 (X_why_1_1 (X := [(q1, aI cA 0 2 (g1)), (q2, aI cA 0 2 (g2)), (q3, aI cA 3 N (g3))]) F.l0 hS rfl (by omega) ⟨by omega, by omega⟩ ⟨by omega, by omega⟩) (lr58 18 rfl) (lr58 19 rfl) (lr58 20 rfl) (lr58 8 rfl) ⟨by decide, by decide, by decide +kernel⟩ rfl ⟨Nat.le_of_ble_eq_true rfl, Nat.le_of_ble_eq_true rfl, (by show _ ≤ 1400; omega), (by show _ ≤ 8600; omega)⟩ (Nat.le_of_ble_eq_true rfl) (by decide +kernel) rfl (fun v9 V9 hG H locs hw => ?_)
          obtain ⟨rfl, rfl⟩ := hG
          refine W.eq (g2 := F0 m 619 ls [.int (iI (-11))]) rfl ?_
          refine lv_bipush hx hb (n := (-11)) (v := iI (-11)) (by decide +kernel) (by decide) ?_
          refine lz_icmp_ne hx hb (a := (-11)) (b := (-11)) (off := 38) (tgt := 659) (by decide +kernel) (by decide) ⟨by decide, by decide⟩ ⟨by decide, by decide⟩ (fun h9 => absurd h9 (by decide)) (fun _ => ?_)
          refine lv_aload_n hx hb (k := 0) (i := 0) (x := ad 0) (by decide +kernel) rfl (lv_at hl 6 rfl) ?_
          refine lv_iload_n hx hb (k := 1) (i := 1) (x := iI (cel (τ 4) 107)) (by decide +kernel) rfl (lv_at hl 5 rfl) ?_
          refine lv_iconst hx hb (n := 0) (v := iI 0) (by decide +kernel) rfl ?_
          refine lv_iconst hx hb (n := 0) (v := iI 0) (by decide +kernel) rfl ?_
          refine lk_callH (x := 206) (rest := []) (as := [.ref (ad 0), .int (iI (cel (τ 4) 107)), .int (iI 0), .int (iI 0)]) (n := 4) F hw hl.1 (X_to_0 (X := [(q1, aI cA 0 2 (g1)), (q2, aI cA 0 2 (g2)), (q3, aI cA 3 N (g3))]) F.l0 hS rfl (by omega) ⟨by omega, by omega⟩ ⟨by omega, by omega⟩) (lr58 21 rfl) (lr58 22 rfl) (lr58 23 rfl) (lr58 8 rfl) ⟨by decide, by decide, by decide +kernel⟩ rfl ⟨Nat.le_of_ble_eq_true rfl, Nat.le_of_ble_eq_true rfl, (by show _ ≤ 1400; omega), (by show _ ≤ 8600; omega)⟩ (Nat.le_of_ble_eq_true rfl) (by decide +kernel) rfl (fun v9 V9 hG H locs hw => ?_)
          obtain ⟨rfl, rfl⟩ := hG
          refine W.eq (g2 := F0 m 631 ls [.int (iI (-11))]) rfl ?_
          refine lv_bipush hx hb (n := (-11)) (v := iI (-11)) (by decide +kernel) (by decide) ?_
          refine lz_icmp_ne hx hb (a := (-11)) (b := (-11)) (off := 26) (tgt := 659) (by decide +kernel) (by decide) ⟨by decide, by decide⟩ ⟨by decide, by decide⟩ (fun h9 => absurd h9 (by decide)) (fun _ => ?_)
          refine lv_aload_n hx hb (k := 0) (i := 0) (x := ad 0) (by decide +kernel) rfl (lv_at hl 6 rfl) ?_
          refine lv_iconst hx hb (n := 0) (v := iI 0) (by decide +kernel) rfl ?_
          refine lv_iconst hx hb (n := (-1)) (v := iI (-1)) (by decide +kernel) rfl ?_
          refine lv_iconst hx hb (n := 1) (v := iI 1) (by decide +kernel) rfl ?_
          refine lk_callH (x := 208) (rest := []) (as := [.ref (ad 0), .int (iI 0), .int (iI (-1)), .int (iI 1)]) (n := 4) F hw hl.1 (X_gain_1 (X := [(q1, aI cA 0 2 (g1)), (q2, aI cA 0 2 (g2)), (q3, aI cA 3 N (g3))]) F.l0 C rfl hB (by omega) ⟨by omega, by omega⟩ ⟨by omega, by omega⟩) (lr58 24 rfl) (lr58 25 rfl) (lr58 26 rfl) (lr58 8 rfl) ⟨by decide, by decide, by decide +kernel⟩ rfl ⟨Nat.le_of_ble_eq_true rfl, Nat.le_of_ble_eq_true rfl, (by show _ ≤ 1400; omega), (by show _ ≤ 8600; omega)⟩ (Nat.le_of_ble_eq_true rfl) (by decide +kernel) rfl (fun v9 V9 hG H locs hw => ?_)
          obtain ⟨rfl, rfl⟩ := hG
          refine W.eq (g2 := F0 m 643 ls [.int (iI (-11))]) rfl ?_
          refine lv_bipush hx hb (n := (-11)) (v := iI (-11)) (by decide +kernel) (by decide) ?_
          refine lz_icmp_ne hx hb (a := (-11)) (b := (-11)) (off := 14) (tgt := 659) (by decide +kernel) (by decide) ⟨by decide, by decide⟩ ⟨by decide, by decide⟩ (fun h9 => absurd h9 (by decide)) (fun _ => ?_)
          refine lv_aload_n hx hb (k := 0) (i := 0) (x := ad 0) (by decide +kernel) rfl (lv_at hl 6 rfl) ?_
          refine fl_call (d := 9) (j := m7_isWell) (as := []) (X := [(q1, aI cA 0 2 (g1)), (q2, aI cA 0 2 (g2)), (q3, aI cA 3 N (g3))]) (x := 216) (rest := []) F hw hl.1 (c_well (τ := τ) hI rfl hN) (by decide) rfl rfl (lr58 27 rfl) (lr58 28 rfl) (lr58 29 rfl) ⟨Nat.le_of_ble_eq_true rfl, Nat.le_of_ble_eq_true rfl, (by show _ ≤ 1400; omega), (by show _ ≤ 8600; omega)⟩ (Nat.le_of_ble_eq_true rfl) (by decide +kernel) rfl (fun E9 τ9 e9 => by cases e9) (fun v9 τ9 e9 H locs hw => ?_)
          cases e9
          refine W.eq (g2 := F0 m 652 ls [.int (iI 1)]) rfl ?_
          refine lz_if_eq hx hb (a := 1) (off := 7) (tgt := 659) (by decide +kernel) (by decide) ⟨by decide, by decide⟩ (fun h9 => absurd h9 (by decide)) (fun _ => ?_)
          refine lv_iconst hx hb (n := 1) (v := iI 1) (by decide +kernel) rfl ?_
          refine lv_goto hx hb (off := 4) (tgt := 660) (by decide +kernel) (by decide) ?_
          exact lk_iret F hlk hrt (wv_drop0 hw) rfl ⟨rfl, rfl⟩ (by omega) (by omega) (by decide +kernel)
        | succ q ih =>
          intro k z ls H locs cl sl hk hz hcl hsl hl hw
          subst hz
          have hth : g3 ((k : Int)).toNat = b2 (0 < jov (τ 4) (k : Int)) := by rw [show ((k : Int)).toNat = k from rfl, hg3 k (by omega)]; exact thz_is hI hN (by omega)
          by_cases hjv : 0 < jov (τ 4) (k : Int)
          · rw [b2_t hjv] at hth
            refine lv_iload hx hb (i := 5) (x := iI (k : Int)) (by decide +kernel) (lv_at hl 0 rfl) ?_
            refine lv_iload_n hx hb (k := 1) (i := 1) (x := iI (cel (τ 4) 107)) (by decide +kernel) rfl (lv_at hl 4 rfl) ?_
            refine lz_icmp_ge hx hb (a := (k : Int)) (b := (cel (τ 4) 107)) (off := 33) (tgt := 476) (by decide +kernel) (by decide) ⟨by omega, by omega⟩ ⟨by omega, by omega⟩ (fun h9 => absurd h9 (by omega)) (fun _ => ?_)
            refine lv_aload_n hx hb (k := 0) (i := 0) (x := ad 0) (by decide +kernel) rfl (lv_at hl 5 rfl) ?_
            refine lv_iload hx hb (i := 5) (x := iI (k : Int)) (by decide +kernel) (lv_at hl 0 rfl) ?_
            refine lk_callH (x := 210) (rest := []) (as := [.ref (ad 0), .int (iI (k : Int))]) (n := 2) F hw hl.1 ((N_thr (X := [(q1, aI cA 0 2 (g1)), (q2, aI cA 0 2 (g2)), (q3, aI cA 3 N (g3))]) F.l0 hS rfl ⟨by omega, by omega⟩).to (k' := 1) (b2_t hjv)) (lr58 12 rfl) (lr58 13 rfl) (lr58 14 rfl) (lr58 8 rfl) ⟨by decide, by decide, by decide +kernel⟩ rfl ⟨Nat.le_of_ble_eq_true rfl, Nat.le_of_ble_eq_true rfl, (by show _ ≤ 1400; omega), (by show _ ≤ 8600; omega)⟩ (Nat.le_of_ble_eq_true rfl) (by decide +kernel) rfl (fun v9 V9 hG H locs hw => ?_)
            obtain ⟨rfl, rfl⟩ := hG
            refine W.eq (g2 := F0 m 452 ls [.int (iI 1)]) rfl ?_
            refine lv_aload hx hb (i := 4) (x := q3) (by decide +kernel) (lv_at hl 1 rfl) ?_
            refine lv_iload hx hb (i := 5) (x := iI (k : Int)) (by decide +kernel) (lv_at hl 0 rfl) ?_
            refine lx_zald (σ := sz τ) (X := [(q1, aI cA 0 2 (g1)), (q2, aI cA 0 2 (g2)), (q3, aI cA 3 N (g3))]) (k := 2) (q := q3) (n := N) (g := g3) (z := (k : Int)) F hw rfl ⟨by omega, by omega⟩ (by omega) (by decide +kernel) ?_
            rw [hth]
            refine lz_if_eq hx hb (a := 1) (off := 7) (tgt := 464) (by decide +kernel) (by decide) ⟨by decide, by decide⟩ (fun h9 => absurd h9 (by decide)) (fun _ => ?_)
            refine lv_iconst hx hb (n := 1) (v := iI 1) (by decide +kernel) rfl ?_
            refine lv_goto hx hb (off := 4) (tgt := 465) (by decide +kernel) (by decide) ?_
            refine lz_icmp_eq hx hb (a := 1) (b := 1) (off := 5) (tgt := 470) (by decide +kernel) (by decide) ⟨by decide, by decide⟩ ⟨by decide, by decide⟩ (fun _ => ?_) (fun h9 => absurd (by decide) h9)
            refine lv_iinc hx hb (i := 5) (n := 1) (v := iI ((k : Int) + 1)) (lv' := [(5, .int (iI ((k : Int) + 1))), (4, .ref q3), (3, .ref q2), (2, .ref q1), (1, .int (iI (cel (τ 4) 107))), (0, .ref (ad 0))]) (by decide +kernel) hl (k := 0) rfl (iI_add _ _) (by decide) rfl (fun ls hl => ?_)
            refine lv_goto hx hb (off := (-33)) (tgt := 440) (by decide +kernel) (by decide) ?_
            exact ih (k + 1) _ ls _ _ _ _ (by omega) (by omega) (by omega) (by omega) (lv_sub hl [0, 1, 2, 3, 4, 5] rfl) hw
          · rw [b2_f hjv] at hth
            refine lv_iload hx hb (i := 5) (x := iI (k : Int)) (by decide +kernel) (lv_at hl 0 rfl) ?_
            refine lv_iload_n hx hb (k := 1) (i := 1) (x := iI (cel (τ 4) 107)) (by decide +kernel) rfl (lv_at hl 4 rfl) ?_
            refine lz_icmp_ge hx hb (a := (k : Int)) (b := (cel (τ 4) 107)) (off := 33) (tgt := 476) (by decide +kernel) (by decide) ⟨by omega, by omega⟩ ⟨by omega, by omega⟩ (fun h9 => absurd h9 (by omega)) (fun _ => ?_)
            refine lv_aload_n hx hb (k := 0) (i := 0) (x := ad 0) (by decide +kernel) rfl (lv_at hl 5 rfl) ?_
            refine lv_iload hx hb (i := 5) (x := iI (k : Int)) (by decide +kernel) (lv_at hl 0 rfl) ?_
            refine lk_callH (x := 210) (rest := []) (as := [.ref (ad 0), .int (iI (k : Int))]) (n := 2) F hw hl.1 ((N_thr (X := [(q1, aI cA 0 2 (g1)), (q2, aI cA 0 2 (g2)), (q3, aI cA 3 N (g3))]) F.l0 hS rfl ⟨by omega, by omega⟩).to (k' := 0) (b2_f hjv)) (lr58 12 rfl) (lr58 13 rfl) (lr58 14 rfl) (lr58 8 rfl) ⟨by decide, by decide, by decide +kernel⟩ rfl ⟨Nat.le_of_ble_eq_true rfl, Nat.le_of_ble_eq_true rfl, (by show _ ≤ 1400; omega), (by show _ ≤ 8600; omega)⟩ (Nat.le_of_ble_eq_true rfl) (by decide +kernel) rfl (fun v9 V9 hG H locs hw => ?_)
            obtain ⟨rfl, rfl⟩ := hG
            refine W.eq (g2 := F0 m 452 ls [.int (iI 0)]) rfl ?_
            refine lv_aload hx hb (i := 4) (x := q3) (by decide +kernel) (lv_at hl 1 rfl) ?_
            refine lv_iload hx hb (i := 5) (x := iI (k : Int)) (by decide +kernel) (lv_at hl 0 rfl) ?_
            refine lx_zald (σ := sz τ) (X := [(q1, aI cA 0 2 (g1)), (q2, aI cA 0 2 (g2)), (q3, aI cA 3 N (g3))]) (k := 2) (q := q3) (n := N) (g := g3) (z := (k : Int)) F hw rfl ⟨by omega, by omega⟩ (by omega) (by decide +kernel) ?_
            rw [hth]
            refine lz_if_eq hx hb (a := 0) (off := 7) (tgt := 464) (by decide +kernel) (by decide) ⟨by decide, by decide⟩ (fun _ => ?_) (fun h9 => absurd (by decide) h9)
            refine lv_iconst hx hb (n := 0) (v := iI 0) (by decide +kernel) rfl ?_
            refine lz_icmp_eq hx hb (a := 0) (b := 0) (off := 5) (tgt := 470) (by decide +kernel) (by decide) ⟨by decide, by decide⟩ ⟨by decide, by decide⟩ (fun _ => ?_) (fun h9 => absurd (by decide) h9)
            refine lv_iinc hx hb (i := 5) (n := 1) (v := iI ((k : Int) + 1)) (lv' := [(5, .int (iI ((k : Int) + 1))), (4, .ref q3), (3, .ref q2), (2, .ref q1), (1, .int (iI (cel (τ 4) 107))), (0, .ref (ad 0))]) (by decide +kernel) hl (k := 0) rfl (iI_add _ _) (by decide) rfl (fun ls hl => ?_)
            refine lv_goto hx hb (off := (-33)) (tgt := 440) (by decide +kernel) (by decide) ?_
            exact ih (k + 1) _ ls _ _ _ _ (by omega) (by omega) (by omega) (by omega) (lv_sub hl [0, 1, 2, 3, 4, 5] rfl) hw
      exact loop2 N 0 0 ls _ _ _ _ (by omega) rfl (by omega) (by omega) (lv_sub hl [0, 1, 2, 3, 4, 5] rfl) hw
    | succ q ih =>
      intro j z g1 g2 g3 ls H locs cl sl hk hz hg1 hg2 hg3 hcl hsl hl hw
      subst hz
      have hf : 0 ≤ (j : Int) / 4 ∧ (j : Int) / 4 < cel (τ 4) 107 := by omega
      have hr : 0 ≤ (j : Int) / 2 % 2 ∧ (j : Int) / 2 % 2 < 2 := by omega
      have hd : (1 - (j : Int) % 2 * 2) = 1 ∨ (1 - (j : Int) % 2 * 2) = -1 := by omega
      have hsd := hS.sd (f := ((j : Int) / 4)) ⟨by omega, by omega⟩
      have hpl := hS.pl (f := ((j : Int) / 4)) (r := ((j : Int) / 2 % 2)) ⟨by omega, by omega⟩ hr
      have hhb := hnd_b hS (f := ((j : Int) / 4)) (r := ((j : Int) / 2 % 2)) (s := (1 - (j : Int) % 2 * 2)) ⟨by omega, by omega⟩ hr hd
      have hoi := @oco_in (τ 4) ((j : Int) / 4) ((j : Int) / 2 % 2) (1 - (j : Int) % 2 * 2)
      have ho4 : oc4 (τ 4) j = oco (τ 4) ((j : Int) / 4) ((j : Int) / 2 % 2) (1 - (j : Int) % 2 * 2) := rfl
      have hbm0 := mcs_in (c := τ 4) (x := 0) j
      have hbm1 := mcs_in (c := τ 4) (x := 1) j
      have tail : ∀ (g1 g2 g3 : Nat → Int) (ls : Array Slot) (H : Heap) (locs : List Loc) (cl sl : Nat), (g1 0 = mcs (τ 4) 0 (j + 1) ∧ g1 1 = mcs (τ 4) 1 (j + 1)) → (g2 0 = ccs (τ 4) 0 (j + 1) ∧ g2 1 = ccs (τ 4) 1 (j + 1)) → (∀ k : Nat, k < N → g3 k = thz (τ 4) (j + 1) k) → cl ≤ 34 + 40 * j → sl ≤ 184 + 240 * j → lv_has ls 14 [(10, .int (iI (hnd (τ 4) ((j : Int) / 4) ((j : Int) / 2 % 2) (1 - (j : Int) % 2 * 2)))), (9, .int (iI (cel (τ 4) (0 + ((j : Int) / 4) * 6 + 0)))), (8, .int (iI (1 - (j : Int) % 2 * 2))), (7, .int (iI ((j : Int) / 2 % 2))), (6, .int (iI ((j : Int) / 4))), (5, .int (iI (j : Int))), (4, .ref q3), (3, .ref q2), (2, .ref q1), (1, .int (iI (cel (τ 4) 107))), (0, .ref (ad 0))] → WV D A s (wO ad cA (sz τ) ++ [(q1, aI cA 0 2 (g1)), (q2, aI cA 0 2 (g2)), (q3, aI cA 3 N (g3))]) H locs → W p l e (rmK 26 1400 8600) s m args below meth c H locs cl sl (vx_MQ below (LQ D A (RV ad cA [] 1 τ)) (fun _ _ _ => False) args s 1400 8600 A) (F0 m 145 ls []) := by
        intro g1 g2 g3 ls H locs cl sl hg1 hg2 hg3 hcl hsl hl hw
        by_cases hev : (j : Int) % 2 = 0
        · have hd1 : (1 - (j : Int) % 2 * 2) = 1 := by omega
          rw [hd1] at hl hhb hoi
          have hl : lv_has ls 14 [(10, .int (iI (hnd (τ 4) ((j : Int) / 4) ((j : Int) / 2 % 2) 1))), (9, .int (iI (cel (τ 4) (0 + ((j : Int) / 4) * 6 + 0)))), (8, .int (iI 1)), (7, .int (iI ((j : Int) / 2 % 2))), (6, .int (iI ((j : Int) / 4))), (5, .int (iI (j : Int))), (4, .ref q3), (3, .ref q2), (2, .ref q1), (1, .int (iI (cel (τ 4) 107))), (0, .ref (ad 0))] := hl
          by_cases hsd2 : ¬ cel (τ 4) (0 + ((j : Int) / 4) * 6 + 0) = cel (τ 4) 108
          · have hocn : ocn (τ 4) ((j : Int) / 4) ((j : Int) / 2 % 2) 1 = 11 := if_neg hsd2
            refine lv_iload hx hb (i := 9) (x := iI (cel (τ 4) (0 + ((j : Int) / 4) * 6 + 0))) (by decide +kernel) (lv_at hl 1 rfl) ?_
            refine lv_aload_n hx hb (k := 0) (i := 0) (x := ad 0) (by decide +kernel) rfl (lv_at hl 10 rfl) ?_
            refine fl_call (d := 6) (j := m7_turn) (as := []) (X := [(q1, aI cA 0 2 (g1)), (q2, aI cA 0 2 (g2)), (q3, aI cA 3 N (g3))]) (x := 200) (rest := [.int (iI (cel (τ 4) (0 + ((j : Int) / 4) * 6 + 0)))]) F hw hl.1 (c_trn (τ := τ) rfl) (by decide) rfl rfl (lr58 30 rfl) (lr58 31 rfl) (lr58 32 rfl) ⟨Nat.le_of_ble_eq_true rfl, Nat.le_of_ble_eq_true rfl, (by show _ ≤ 1400; omega), (by show _ ≤ 8600; omega)⟩ (Nat.le_of_ble_eq_true rfl) (by decide +kernel) rfl (fun E9 τ9 e9 => by cases e9) (fun v9 τ9 e9 H locs hw => ?_)
            cases e9
            refine W.eq (g2 := F0 m 151 ls [.int (iI (cel (τ 4) 108)), .int (iI (cel (τ 4) (0 + ((j : Int) / 4) * 6 + 0)))]) rfl ?_
            refine lz_icmp_ne hx hb (a := (cel (τ 4) (0 + ((j : Int) / 4) * 6 + 0))) (b := (cel (τ 4) 108)) (off := 8) (tgt := 159) (by decide +kernel) (by decide) ⟨by omega, by omega⟩ ⟨by omega, by omega⟩ (fun _ => ?_) (fun h9 => absurd (by omega) h9)
            refine lv_sipush hx hb (n := 1100) (v := iI 1100) (by decide +kernel) (by decide) ?_
            refine lv_aload_n hx hb (k := 0) (i := 0) (x := ad 0) (by decide +kernel) rfl (lv_at hl 10 rfl) ?_
            refine fl_call (d := 6) (j := m7_turn) (as := []) (X := [(q1, aI cA 0 2 (g1)), (q2, aI cA 0 2 (g2)), (q3, aI cA 3 N (g3))]) (x := 200) (rest := [.int (iI 1100)]) F hw hl.1 (c_trn (τ := τ) rfl) (by decide) rfl rfl (lr58 30 rfl) (lr58 31 rfl) (lr58 32 rfl) ⟨Nat.le_of_ble_eq_true rfl, Nat.le_of_ble_eq_true rfl, (by show _ ≤ 1400; omega), (by show _ ≤ 8600; omega)⟩ (Nat.le_of_ble_eq_true rfl) (by decide +kernel) rfl (fun E9 τ9 e9 => by cases e9) (fun v9 τ9 e9 H locs hw => ?_)
            cases e9
            refine W.eq (g2 := F0 m 166 ls [.int (iI (cel (τ 4) 108)), .int (iI 1100)]) rfl ?_
            refine lz_iadd hx hb (a := 1100) (b := (cel (τ 4) 108)) (by decide +kernel) ?_
            refine lv_istore hx hb (i := 11) (lv' := [(11, .int (iI (1100 + (cel (τ 4) 108)))), (10, .int (iI (hnd (τ 4) ((j : Int) / 4) ((j : Int) / 2 % 2) 1))), (9, .int (iI (cel (τ 4) (0 + ((j : Int) / 4) * 6 + 0)))), (8, .int (iI 1)), (7, .int (iI ((j : Int) / 2 % 2))), (6, .int (iI ((j : Int) / 4))), (5, .int (iI (j : Int))), (4, .ref q3), (3, .ref q2), (2, .ref q1), (1, .int (iI (cel (τ 4) 107))), (0, .ref (ad 0))]) (by decide +kernel) hl (by decide) rfl (fun ls hl => ?_)
            refine lv_iload hx hb (i := 11) (x := iI (1100 + (cel (τ 4) 108))) (by decide +kernel) (lv_at hl 0 rfl) ?_
            refine lz_if_le hx hb (a := (1100 + (cel (τ 4) 108))) (off := 139) (tgt := 310) (by decide +kernel) (by decide) ⟨by omega, by omega⟩ (fun h9 => absurd h9 (by omega)) (fun _ => ?_)
            refine lv_aload_n hx hb (k := 0) (i := 0) (x := ad 0) (by decide +kernel) rfl (lv_at hl 11 rfl) ?_
            refine lv_iload hx hb (i := 6) (x := iI ((j : Int) / 4)) (by decide +kernel) (lv_at hl 5 rfl) ?_
            refine lv_iload hx hb (i := 7) (x := iI ((j : Int) / 2 % 2)) (by decide +kernel) (lv_at hl 4 rfl) ?_
            refine lv_iload hx hb (i := 8) (x := iI 1) (by decide +kernel) (lv_at hl 3 rfl) ?_
            refine lv_iconst hx hb (n := 1) (v := iI 1) (by decide +kernel) rfl ?_
            refine lz_icmp_ne hx hb (a := 1) (b := 1) (off := 7) (tgt := 189) (by decide +kernel) (by decide) ⟨by decide, by decide⟩ ⟨by decide, by decide⟩ (fun h9 => absurd h9 (by decide)) (fun _ => ?_)
            refine lv_iconst hx hb (n := 1) (v := iI 1) (by decide +kernel) rfl ?_
            refine lv_goto hx hb (off := 4) (tgt := 190) (by decide +kernel) (by decide) ?_
            refine lk_callH (x := 158) (rest := []) (as := [.ref (ad 0), .int (iI ((j : Int) / 4)), .int (iI ((j : Int) / 2 % 2)), .int (iI 1)]) (n := 4) F hw hl.1 ((N_would_1 (X := [(q1, aI cA 0 2 (g1)), (q2, aI cA 0 2 (g2)), (q3, aI cA 3 N (g3))]) F.l0 hS rfl hf hr).to (k' := 0) (by rw [hocn, if_neg (by omega)])) (lr58 15 rfl) (lr58 16 rfl) (lr58 17 rfl) (lr58 8 rfl) ⟨by decide, by decide, by decide +kernel⟩ rfl ⟨Nat.le_of_ble_eq_true rfl, Nat.le_of_ble_eq_true rfl, (by show _ ≤ 1400; omega), (by show _ ≤ 8600; omega)⟩ (Nat.le_of_ble_eq_true rfl) (by decide +kernel) rfl (fun v9 V9 hG H locs hw => ?_)
            obtain ⟨rfl, rfl⟩ := hG
            refine W.eq (g2 := F0 m 193 ls [.int (iI 0)]) rfl ?_
            refine lz_if_ne hx hb (a := 0) (off := 111) (tgt := 304) (by decide +kernel) (by decide) ⟨by decide, by decide⟩ (fun h9 => absurd h9 (by decide)) (fun _ => ?_)
            refine lv_aload_n hx hb (k := 0) (i := 0) (x := ad 0) (by decide +kernel) rfl (lv_at hl 11 rfl) ?_
            refine lv_iload hx hb (i := 6) (x := iI ((j : Int) / 4)) (by decide +kernel) (lv_at hl 5 rfl) ?_
            refine lv_iload hx hb (i := 7) (x := iI ((j : Int) / 2 % 2)) (by decide +kernel) (lv_at hl 4 rfl) ?_
            refine lv_iload hx hb (i := 8) (x := iI 1) (by decide +kernel) (lv_at hl 3 rfl) ?_
            refine lv_iconst hx hb (n := 1) (v := iI 1) (by decide +kernel) rfl ?_
            refine lz_icmp_ne hx hb (a := 1) (b := 1) (off := 7) (tgt := 211) (by decide +kernel) (by decide) ⟨by decide, by decide⟩ ⟨by decide, by decide⟩ (fun h9 => absurd h9 (by decide)) (fun _ => ?_)
            refine lv_iconst hx hb (n := 1) (v := iI 1) (by decide +kernel) rfl ?_
            refine lv_goto hx hb (off := 4) (tgt := 212) (by decide +kernel) (by decide) ?_
            refine lv_iconst hx hb (n := 0) (v := iI 0) (by decide +kernel) rfl ?_
            refine lk_callH (x := 203) (rest := []) (as := [.ref (ad 0), .int (iI ((j : Int) / 4)), .int (iI ((j : Int) / 2 % 2)), .int (iI 1), .int (iI 0)]) (n := 5) F hw hl.1 ((N_why_1_0 (X := [(q1, aI cA 0 2 (g1)), (q2, aI cA 0 2 (g2)), (q3, aI cA 3 N (g3))]) F.l0 hS rfl hf hr).to (k' := 11) (by rw [hocn, if_neg (by omega)])) (lr58 18 rfl) (lr58 19 rfl) (lr58 20 rfl) (lr58 8 rfl) ⟨by decide, by decide, by decide +kernel⟩ rfl ⟨Nat.le_of_ble_eq_true rfl, Nat.le_of_ble_eq_true rfl, (by show _ ≤ 1400; omega), (by show _ ≤ 8600; omega)⟩ (Nat.le_of_ble_eq_true rfl) (by decide +kernel) rfl (fun v9 V9 hG H locs hw => ?_)
            obtain ⟨rfl, rfl⟩ := hG
            refine W.eq (g2 := F0 m 216 ls [.int (iI 11)]) rfl ?_
            refine lv_iload hx hb (i := 11) (x := iI (1100 + (cel (τ 4) 108))) (by decide +kernel) (lv_at hl 0 rfl) ?_
            refine lv_bipush hx hb (n := 100) (v := iI 100) (by decide +kernel) (by decide) ?_
            refine lz_idiv hx hb (a := (1100 + (cel (τ 4) 108))) (b := 100) (by decide +kernel) ⟨by omega, by omega, by omega, by omega⟩ ?_
            refine lz_icmp_ne hx hb (a := 11) (b := ((1100 + (cel (τ 4) 108)) / 100)) (off := 83) (tgt := 304) (by decide +kernel) (by decide) ⟨by decide, by decide⟩ ⟨by omega, by omega⟩ (fun h9 => absurd h9 (by omega)) (fun _ => ?_)
            refine lv_aload_n hx hb (k := 0) (i := 0) (x := ad 0) (by decide +kernel) rfl (lv_at hl 11 rfl) ?_
            refine lv_iload hx hb (i := 6) (x := iI ((j : Int) / 4)) (by decide +kernel) (lv_at hl 5 rfl) ?_
            refine lv_iload hx hb (i := 7) (x := iI ((j : Int) / 2 % 2)) (by decide +kernel) (lv_at hl 4 rfl) ?_
            refine lv_iload hx hb (i := 8) (x := iI 1) (by decide +kernel) (lv_at hl 3 rfl) ?_
            refine lv_iconst hx hb (n := 1) (v := iI 1) (by decide +kernel) rfl ?_
            refine lz_icmp_ne hx hb (a := 1) (b := 1) (off := 7) (tgt := 239) (by decide +kernel) (by decide) ⟨by decide, by decide⟩ ⟨by decide, by decide⟩ (fun h9 => absurd h9 (by decide)) (fun _ => ?_)
            refine lv_iconst hx hb (n := 1) (v := iI 1) (by decide +kernel) rfl ?_
            refine lv_goto hx hb (off := 4) (tgt := 240) (by decide +kernel) (by decide) ?_
            refine lv_iconst hx hb (n := 1) (v := iI 1) (by decide +kernel) rfl ?_
            refine lk_callH (x := 203) (rest := []) (as := [.ref (ad 0), .int (iI ((j : Int) / 4)), .int (iI ((j : Int) / 2 % 2)), .int (iI 1), .int (iI 1)]) (n := 5) F hw hl.1 ((N_why_1_1 (X := [(q1, aI cA 0 2 (g1)), (q2, aI cA 0 2 (g2)), (q3, aI cA 3 N (g3))]) F.l0 hS rfl hf hr).to (k' := cel (τ 4) 108) (by rw [hocn, if_neg (by omega)]; rfl)) (lr58 18 rfl) (lr58 19 rfl) (lr58 20 rfl) (lr58 8 rfl) ⟨by decide, by decide, by decide +kernel⟩ rfl ⟨Nat.le_of_ble_eq_true rfl, Nat.le_of_ble_eq_true rfl, (by show _ ≤ 1400; omega), (by show _ ≤ 8600; omega)⟩ (Nat.le_of_ble_eq_true rfl) (by decide +kernel) rfl (fun v9 V9 hG H locs hw => ?_)
            obtain ⟨rfl, rfl⟩ := hG
            refine W.eq (g2 := F0 m 244 ls [.int (iI (cel (τ 4) 108))]) rfl ?_
            refine lv_iload hx hb (i := 11) (x := iI (1100 + (cel (τ 4) 108))) (by decide +kernel) (lv_at hl 0 rfl) ?_
            refine lv_bipush hx hb (n := 100) (v := iI 100) (by decide +kernel) (by decide) ?_
            refine lz_irem hx hb (a := (1100 + (cel (τ 4) 108))) (b := 100) (by decide +kernel) ⟨by omega, by omega, by omega, by omega⟩ ?_
            refine lz_icmp_ne hx hb (a := (cel (τ 4) 108)) (b := ((1100 + (cel (τ 4) 108)) % 100)) (off := 55) (tgt := 304) (by decide +kernel) (by decide) ⟨by omega, by omega⟩ ⟨by omega, by omega⟩ (fun h9 => absurd h9 (by omega)) (fun _ => ?_)
            refine lv_aload_n hx hb (k := 0) (i := 0) (x := ad 0) (by decide +kernel) rfl (lv_at hl 11 rfl) ?_
            refine lv_iload hx hb (i := 6) (x := iI ((j : Int) / 4)) (by decide +kernel) (lv_at hl 5 rfl) ?_
            refine lv_iload hx hb (i := 7) (x := iI ((j : Int) / 2 % 2)) (by decide +kernel) (lv_at hl 4 rfl) ?_
            refine lv_iload hx hb (i := 8) (x := iI 1) (by decide +kernel) (lv_at hl 3 rfl) ?_
            refine lv_iconst hx hb (n := 1) (v := iI 1) (by decide +kernel) rfl ?_
            refine lz_icmp_ne hx hb (a := 1) (b := 1) (off := 7) (tgt := 267) (by decide +kernel) (by decide) ⟨by decide, by decide⟩ ⟨by decide, by decide⟩ (fun h9 => absurd h9 (by decide)) (fun _ => ?_)
            refine lv_iconst hx hb (n := 1) (v := iI 1) (by decide +kernel) rfl ?_
            refine lv_goto hx hb (off := 4) (tgt := 268) (by decide +kernel) (by decide) ?_
            refine lk_callH (x := 206) (rest := []) (as := [.ref (ad 0), .int (iI ((j : Int) / 4)), .int (iI ((j : Int) / 2 % 2)), .int (iI 1)]) (n := 4) F hw hl.1 ((N_to_1 (X := [(q1, aI cA 0 2 (g1)), (q2, aI cA 0 2 (g2)), (q3, aI cA 3 N (g3))]) F.l0 hS rfl hf hr).to (k' := (-13)) (by rw [hocn, if_neg (by omega)])) (lr58 21 rfl) (lr58 22 rfl) (lr58 23 rfl) (lr58 8 rfl) ⟨by decide, by decide, by decide +kernel⟩ rfl ⟨Nat.le_of_ble_eq_true rfl, Nat.le_of_ble_eq_true rfl, (by show _ ≤ 1400; omega), (by show _ ≤ 8600; omega)⟩ (Nat.le_of_ble_eq_true rfl) (by decide +kernel) rfl (fun v9 V9 hG H locs hw => ?_)
            obtain ⟨rfl, rfl⟩ := hG
            refine W.eq (g2 := F0 m 271 ls [.int (iI (-13))]) rfl ?_
            refine lv_bipush hx hb (n := (-13)) (v := iI (-13)) (by decide +kernel) (by decide) ?_
            refine lz_icmp_ne hx hb (a := (-13)) (b := (-13)) (off := 31) (tgt := 304) (by decide +kernel) (by decide) ⟨by decide, by decide⟩ ⟨by decide, by decide⟩ (fun h9 => absurd h9 (by decide)) (fun _ => ?_)
            refine lv_aload_n hx hb (k := 0) (i := 0) (x := ad 0) (by decide +kernel) rfl (lv_at hl 11 rfl) ?_
            refine lv_iload hx hb (i := 6) (x := iI ((j : Int) / 4)) (by decide +kernel) (lv_at hl 5 rfl) ?_
            refine lv_iload hx hb (i := 7) (x := iI ((j : Int) / 2 % 2)) (by decide +kernel) (lv_at hl 4 rfl) ?_
            refine lv_iload hx hb (i := 8) (x := iI 1) (by decide +kernel) (lv_at hl 3 rfl) ?_
            refine lv_iconst hx hb (n := 1) (v := iI 1) (by decide +kernel) rfl ?_
            refine lz_icmp_ne hx hb (a := 1) (b := 1) (off := 7) (tgt := 291) (by decide +kernel) (by decide) ⟨by decide, by decide⟩ ⟨by decide, by decide⟩ (fun h9 => absurd h9 (by decide)) (fun _ => ?_)
            refine lv_iconst hx hb (n := 1) (v := iI 1) (by decide +kernel) rfl ?_
            refine lv_goto hx hb (off := 4) (tgt := 292) (by decide +kernel) (by decide) ?_
            refine lk_callH (x := 208) (rest := []) (as := [.ref (ad 0), .int (iI ((j : Int) / 4)), .int (iI ((j : Int) / 2 % 2)), .int (iI 1)]) (n := 4) F hw hl.1 (M_gainN_1 (X := [(q1, aI cA 0 2 (g1)), (q2, aI cA 0 2 (g2)), (q3, aI cA 3 N (g3))]) F.l0 C rfl hB hf hr (by omega)) (lr58 24 rfl) (lr58 25 rfl) (lr58 26 rfl) (lr58 8 rfl) ⟨by decide, by decide, by decide +kernel⟩ rfl ⟨Nat.le_of_ble_eq_true rfl, Nat.le_of_ble_eq_true rfl, (by show _ ≤ 1400; omega), (by show _ ≤ 8600; omega)⟩ (Nat.le_of_ble_eq_true rfl) (by decide +kernel) rfl (fun v9 V9 hG H locs hw => ?_)
            obtain ⟨rfl, rfl⟩ := hG
            refine W.eq (g2 := F0 m 295 ls [.int (iI (-13))]) rfl ?_
            refine lv_bipush hx hb (n := (-13)) (v := iI (-13)) (by decide +kernel) (by decide) ?_
            refine lz_icmp_ne hx hb (a := (-13)) (b := (-13)) (off := 7) (tgt := 304) (by decide +kernel) (by decide) ⟨by decide, by decide⟩ ⟨by decide, by decide⟩ (fun h9 => absurd h9 (by decide)) (fun _ => ?_)
            refine lv_iconst hx hb (n := 1) (v := iI 1) (by decide +kernel) rfl ?_
            refine lv_goto hx hb (off := 4) (tgt := 305) (by decide +kernel) (by decide) ?_
            refine lv_istore hx hb (i := 12) (lv' := [(12, .int (iI 1)), (11, .int (iI (1100 + (cel (τ 4) 108)))), (10, .int (iI (hnd (τ 4) ((j : Int) / 4) ((j : Int) / 2 % 2) 1))), (9, .int (iI (cel (τ 4) (0 + ((j : Int) / 4) * 6 + 0)))), (8, .int (iI 1)), (7, .int (iI ((j : Int) / 2 % 2))), (6, .int (iI ((j : Int) / 4))), (5, .int (iI (j : Int))), (4, .ref q3), (3, .ref q2), (2, .ref q1), (1, .int (iI (cel (τ 4) 107))), (0, .ref (ad 0))]) (by decide +kernel) hl (by decide) rfl (fun ls hl => ?_)
            refine lv_goto hx hb (off := 117) (tgt := 424) (by decide +kernel) (by decide) ?_
            refine lv_iload hx hb (i := 12) (x := iI 1) (by decide +kernel) (lv_at hl 0 rfl) ?_
            refine lz_if_ne hx hb (a := 1) (off := 5) (tgt := 431) (by decide +kernel) (by decide) ⟨by decide, by decide⟩ (fun _ => ?_) (fun h9 => absurd (by decide) h9)
            refine lv_iinc hx hb (i := 5) (n := 1) (v := iI ((j : Int) + 1)) (lv' := [(5, .int (iI ((j : Int) + 1))), (12, .int (iI 1)), (11, .int (iI (1100 + (cel (τ 4) 108)))), (10, .int (iI (hnd (τ 4) ((j : Int) / 4) ((j : Int) / 2 % 2) 1))), (9, .int (iI (cel (τ 4) (0 + ((j : Int) / 4) * 6 + 0)))), (8, .int (iI 1)), (7, .int (iI ((j : Int) / 2 % 2))), (6, .int (iI ((j : Int) / 4))), (4, .ref q3), (3, .ref q2), (2, .ref q1), (1, .int (iI (cel (τ 4) 107))), (0, .ref (ad 0))]) (by decide +kernel) hl (k := 7) rfl (iI_add _ _) (by decide) rfl (fun ls hl => ?_)
            refine lv_goto hx hb (off := (-412)) (tgt := 22) (by decide +kernel) (by decide) ?_
            exact ih (j + 1) _ g1 g2 g3 ls _ _ _ _ (by omega) (by omega) hg1 hg2 hg3 (by omega) (by omega) (lv_sub hl [0, 8, 9, 10, 11, 12] rfl) hw
          · have hocn : ocn (τ 4) ((j : Int) / 4) ((j : Int) / 2 % 2) 1 = oco (τ 4) ((j : Int) / 4) ((j : Int) / 2 % 2) 1 := if_pos (by omega)
            by_cases hok : ¬ oco (τ 4) ((j : Int) / 4) ((j : Int) / 2 % 2) 1 ≤ 3
            ·
              refine lv_iload hx hb (i := 9) (x := iI (cel (τ 4) (0 + ((j : Int) / 4) * 6 + 0))) (by decide +kernel) (lv_at hl 1 rfl) ?_
              refine lv_aload_n hx hb (k := 0) (i := 0) (x := ad 0) (by decide +kernel) rfl (lv_at hl 10 rfl) ?_
              refine fl_call (d := 6) (j := m7_turn) (as := []) (X := [(q1, aI cA 0 2 (g1)), (q2, aI cA 0 2 (g2)), (q3, aI cA 3 N (g3))]) (x := 200) (rest := [.int (iI (cel (τ 4) (0 + ((j : Int) / 4) * 6 + 0)))]) F hw hl.1 (c_trn (τ := τ) rfl) (by decide) rfl rfl (lr58 30 rfl) (lr58 31 rfl) (lr58 32 rfl) ⟨Nat.le_of_ble_eq_true rfl, Nat.le_of_ble_eq_true rfl, (by show _ ≤ 1400; omega), (by show _ ≤ 8600; omega)⟩ (Nat.le_of_ble_eq_true rfl) (by decide +kernel) rfl (fun E9 τ9 e9 => by cases e9) (fun v9 τ9 e9 H locs hw => ?_)
              cases e9
              refine W.eq (g2 := F0 m 151 ls [.int (iI (cel (τ 4) 108)), .int (iI (cel (τ 4) (0 + ((j : Int) / 4) * 6 + 0)))]) rfl ?_
              refine lz_icmp_ne hx hb (a := (cel (τ 4) (0 + ((j : Int) / 4) * 6 + 0))) (b := (cel (τ 4) 108)) (off := 8) (tgt := 159) (by decide +kernel) (by decide) ⟨by omega, by omega⟩ ⟨by omega, by omega⟩ (fun h9 => absurd h9 (by omega)) (fun _ => ?_)
              refine lv_iload hx hb (i := 10) (x := iI (hnd (τ 4) ((j : Int) / 4) ((j : Int) / 2 % 2) 1)) (by decide +kernel) (lv_at hl 0 rfl) ?_
              refine lv_goto hx hb (off := 11) (tgt := 167) (by decide +kernel) (by decide) ?_
              refine lv_istore hx hb (i := 11) (lv' := [(11, .int (iI (hnd (τ 4) ((j : Int) / 4) ((j : Int) / 2 % 2) 1))), (10, .int (iI (hnd (τ 4) ((j : Int) / 4) ((j : Int) / 2 % 2) 1))), (9, .int (iI (cel (τ 4) (0 + ((j : Int) / 4) * 6 + 0)))), (8, .int (iI 1)), (7, .int (iI ((j : Int) / 2 % 2))), (6, .int (iI ((j : Int) / 4))), (5, .int (iI (j : Int))), (4, .ref q3), (3, .ref q2), (2, .ref q1), (1, .int (iI (cel (τ 4) 107))), (0, .ref (ad 0))]) (by decide +kernel) hl (by decide) rfl (fun ls hl => ?_)
              refine lv_iload hx hb (i := 11) (x := iI (hnd (τ 4) ((j : Int) / 4) ((j : Int) / 2 % 2) 1)) (by decide +kernel) (lv_at hl 0 rfl) ?_
              refine lz_if_le hx hb (a := (hnd (τ 4) ((j : Int) / 4) ((j : Int) / 2 % 2) 1)) (off := 139) (tgt := 310) (by decide +kernel) (by decide) ⟨by omega, by omega⟩ (fun h9 => absurd h9 (by omega)) (fun _ => ?_)
              refine lv_aload_n hx hb (k := 0) (i := 0) (x := ad 0) (by decide +kernel) rfl (lv_at hl 11 rfl) ?_
              refine lv_iload hx hb (i := 6) (x := iI ((j : Int) / 4)) (by decide +kernel) (lv_at hl 5 rfl) ?_
              refine lv_iload hx hb (i := 7) (x := iI ((j : Int) / 2 % 2)) (by decide +kernel) (lv_at hl 4 rfl) ?_
              refine lv_iload hx hb (i := 8) (x := iI 1) (by decide +kernel) (lv_at hl 3 rfl) ?_
              refine lv_iconst hx hb (n := 1) (v := iI 1) (by decide +kernel) rfl ?_
              refine lz_icmp_ne hx hb (a := 1) (b := 1) (off := 7) (tgt := 189) (by decide +kernel) (by decide) ⟨by decide, by decide⟩ ⟨by decide, by decide⟩ (fun h9 => absurd h9 (by decide)) (fun _ => ?_)
              refine lv_iconst hx hb (n := 1) (v := iI 1) (by decide +kernel) rfl ?_
              refine lv_goto hx hb (off := 4) (tgt := 190) (by decide +kernel) (by decide) ?_
              refine lk_callH (x := 158) (rest := []) (as := [.ref (ad 0), .int (iI ((j : Int) / 4)), .int (iI ((j : Int) / 2 % 2)), .int (iI 1)]) (n := 4) F hw hl.1 ((N_would_1 (X := [(q1, aI cA 0 2 (g1)), (q2, aI cA 0 2 (g2)), (q3, aI cA 3 N (g3))]) F.l0 hS rfl hf hr).to (k' := 0) (by rw [hocn, if_neg (by omega)])) (lr58 15 rfl) (lr58 16 rfl) (lr58 17 rfl) (lr58 8 rfl) ⟨by decide, by decide, by decide +kernel⟩ rfl ⟨Nat.le_of_ble_eq_true rfl, Nat.le_of_ble_eq_true rfl, (by show _ ≤ 1400; omega), (by show _ ≤ 8600; omega)⟩ (Nat.le_of_ble_eq_true rfl) (by decide +kernel) rfl (fun v9 V9 hG H locs hw => ?_)
              obtain ⟨rfl, rfl⟩ := hG
              refine W.eq (g2 := F0 m 193 ls [.int (iI 0)]) rfl ?_
              refine lz_if_ne hx hb (a := 0) (off := 111) (tgt := 304) (by decide +kernel) (by decide) ⟨by decide, by decide⟩ (fun h9 => absurd h9 (by decide)) (fun _ => ?_)
              refine lv_aload_n hx hb (k := 0) (i := 0) (x := ad 0) (by decide +kernel) rfl (lv_at hl 11 rfl) ?_
              refine lv_iload hx hb (i := 6) (x := iI ((j : Int) / 4)) (by decide +kernel) (lv_at hl 5 rfl) ?_
              refine lv_iload hx hb (i := 7) (x := iI ((j : Int) / 2 % 2)) (by decide +kernel) (lv_at hl 4 rfl) ?_
              refine lv_iload hx hb (i := 8) (x := iI 1) (by decide +kernel) (lv_at hl 3 rfl) ?_
              refine lv_iconst hx hb (n := 1) (v := iI 1) (by decide +kernel) rfl ?_
              refine lz_icmp_ne hx hb (a := 1) (b := 1) (off := 7) (tgt := 211) (by decide +kernel) (by decide) ⟨by decide, by decide⟩ ⟨by decide, by decide⟩ (fun h9 => absurd h9 (by decide)) (fun _ => ?_)
              refine lv_iconst hx hb (n := 1) (v := iI 1) (by decide +kernel) rfl ?_
              refine lv_goto hx hb (off := 4) (tgt := 212) (by decide +kernel) (by decide) ?_
              refine lv_iconst hx hb (n := 0) (v := iI 0) (by decide +kernel) rfl ?_
              refine lk_callH (x := 203) (rest := []) (as := [.ref (ad 0), .int (iI ((j : Int) / 4)), .int (iI ((j : Int) / 2 % 2)), .int (iI 1), .int (iI 0)]) (n := 5) F hw hl.1 ((N_why_1_0 (X := [(q1, aI cA 0 2 (g1)), (q2, aI cA 0 2 (g2)), (q3, aI cA 3 N (g3))]) F.l0 hS rfl hf hr).to (k' := oco (τ 4) ((j : Int) / 4) ((j : Int) / 2 % 2) 1) (by rw [hocn, if_neg (by omega)])) (lr58 18 rfl) (lr58 19 rfl) (lr58 20 rfl) (lr58 8 rfl) ⟨by decide, by decide, by decide +kernel⟩ rfl ⟨Nat.le_of_ble_eq_true rfl, Nat.le_of_ble_eq_true rfl, (by show _ ≤ 1400; omega), (by show _ ≤ 8600; omega)⟩ (Nat.le_of_ble_eq_true rfl) (by decide +kernel) rfl (fun v9 V9 hG H locs hw => ?_)
              obtain ⟨rfl, rfl⟩ := hG
              refine W.eq (g2 := F0 m 216 ls [.int (iI (oco (τ 4) ((j : Int) / 4) ((j : Int) / 2 % 2) 1))]) rfl ?_
              refine lv_iload hx hb (i := 11) (x := iI (hnd (τ 4) ((j : Int) / 4) ((j : Int) / 2 % 2) 1)) (by decide +kernel) (lv_at hl 0 rfl) ?_
              refine lv_bipush hx hb (n := 100) (v := iI 100) (by decide +kernel) (by decide) ?_
              refine lz_idiv hx hb (a := (hnd (τ 4) ((j : Int) / 4) ((j : Int) / 2 % 2) 1)) (b := 100) (by decide +kernel) ⟨by omega, by omega, by omega, by omega⟩ ?_
              refine lz_icmp_ne hx hb (a := (oco (τ 4) ((j : Int) / 4) ((j : Int) / 2 % 2) 1)) (b := ((hnd (τ 4) ((j : Int) / 4) ((j : Int) / 2 % 2) 1) / 100)) (off := 83) (tgt := 304) (by decide +kernel) (by decide) ⟨by omega, by omega⟩ ⟨by omega, by omega⟩ (fun h9 => absurd h9 (by omega)) (fun _ => ?_)
              refine lv_aload_n hx hb (k := 0) (i := 0) (x := ad 0) (by decide +kernel) rfl (lv_at hl 11 rfl) ?_
              refine lv_iload hx hb (i := 6) (x := iI ((j : Int) / 4)) (by decide +kernel) (lv_at hl 5 rfl) ?_
              refine lv_iload hx hb (i := 7) (x := iI ((j : Int) / 2 % 2)) (by decide +kernel) (lv_at hl 4 rfl) ?_
              refine lv_iload hx hb (i := 8) (x := iI 1) (by decide +kernel) (lv_at hl 3 rfl) ?_
              refine lv_iconst hx hb (n := 1) (v := iI 1) (by decide +kernel) rfl ?_
              refine lz_icmp_ne hx hb (a := 1) (b := 1) (off := 7) (tgt := 239) (by decide +kernel) (by decide) ⟨by decide, by decide⟩ ⟨by decide, by decide⟩ (fun h9 => absurd h9 (by decide)) (fun _ => ?_)
              refine lv_iconst hx hb (n := 1) (v := iI 1) (by decide +kernel) rfl ?_
              refine lv_goto hx hb (off := 4) (tgt := 240) (by decide +kernel) (by decide) ?_
              refine lv_iconst hx hb (n := 1) (v := iI 1) (by decide +kernel) rfl ?_
              refine lk_callH (x := 203) (rest := []) (as := [.ref (ad 0), .int (iI ((j : Int) / 4)), .int (iI ((j : Int) / 2 % 2)), .int (iI 1), .int (iI 1)]) (n := 5) F hw hl.1 ((N_why_1_1 (X := [(q1, aI cA 0 2 (g1)), (q2, aI cA 0 2 (g2)), (q3, aI cA 3 N (g3))]) F.l0 hS rfl hf hr).to (k' := dtl (τ 4) (oco (τ 4) ((j : Int) / 4) ((j : Int) / 2 % 2) 1) ((j : Int) / 4) ((j : Int) / 2 % 2) 1) (by rw [hocn, if_neg (by omega)])) (lr58 18 rfl) (lr58 19 rfl) (lr58 20 rfl) (lr58 8 rfl) ⟨by decide, by decide, by decide +kernel⟩ rfl ⟨Nat.le_of_ble_eq_true rfl, Nat.le_of_ble_eq_true rfl, (by show _ ≤ 1400; omega), (by show _ ≤ 8600; omega)⟩ (Nat.le_of_ble_eq_true rfl) (by decide +kernel) rfl (fun v9 V9 hG H locs hw => ?_)
              obtain ⟨rfl, rfl⟩ := hG
              refine W.eq (g2 := F0 m 244 ls [.int (iI (dtl (τ 4) (oco (τ 4) ((j : Int) / 4) ((j : Int) / 2 % 2) 1) ((j : Int) / 4) ((j : Int) / 2 % 2) 1))]) rfl ?_
              refine lv_iload hx hb (i := 11) (x := iI (hnd (τ 4) ((j : Int) / 4) ((j : Int) / 2 % 2) 1)) (by decide +kernel) (lv_at hl 0 rfl) ?_
              refine lv_bipush hx hb (n := 100) (v := iI 100) (by decide +kernel) (by decide) ?_
              refine lz_irem hx hb (a := (hnd (τ 4) ((j : Int) / 4) ((j : Int) / 2 % 2) 1)) (b := 100) (by decide +kernel) ⟨by omega, by omega, by omega, by omega⟩ ?_
              refine lz_icmp_ne hx hb (a := (dtl (τ 4) (oco (τ 4) ((j : Int) / 4) ((j : Int) / 2 % 2) 1) ((j : Int) / 4) ((j : Int) / 2 % 2) 1)) (b := ((hnd (τ 4) ((j : Int) / 4) ((j : Int) / 2 % 2) 1) % 100)) (off := 55) (tgt := 304) (by decide +kernel) (by decide) ⟨by omega, by omega⟩ ⟨by omega, by omega⟩ (fun h9 => absurd h9 (by omega)) (fun _ => ?_)
              refine lv_aload_n hx hb (k := 0) (i := 0) (x := ad 0) (by decide +kernel) rfl (lv_at hl 11 rfl) ?_
              refine lv_iload hx hb (i := 6) (x := iI ((j : Int) / 4)) (by decide +kernel) (lv_at hl 5 rfl) ?_
              refine lv_iload hx hb (i := 7) (x := iI ((j : Int) / 2 % 2)) (by decide +kernel) (lv_at hl 4 rfl) ?_
              refine lv_iload hx hb (i := 8) (x := iI 1) (by decide +kernel) (lv_at hl 3 rfl) ?_
              refine lv_iconst hx hb (n := 1) (v := iI 1) (by decide +kernel) rfl ?_
              refine lz_icmp_ne hx hb (a := 1) (b := 1) (off := 7) (tgt := 267) (by decide +kernel) (by decide) ⟨by decide, by decide⟩ ⟨by decide, by decide⟩ (fun h9 => absurd h9 (by decide)) (fun _ => ?_)
              refine lv_iconst hx hb (n := 1) (v := iI 1) (by decide +kernel) rfl ?_
              refine lv_goto hx hb (off := 4) (tgt := 268) (by decide +kernel) (by decide) ?_
              refine lk_callH (x := 206) (rest := []) (as := [.ref (ad 0), .int (iI ((j : Int) / 4)), .int (iI ((j : Int) / 2 % 2)), .int (iI 1)]) (n := 4) F hw hl.1 ((N_to_1 (X := [(q1, aI cA 0 2 (g1)), (q2, aI cA 0 2 (g2)), (q3, aI cA 3 N (g3))]) F.l0 hS rfl hf hr).to (k' := (-13)) (by rw [hocn, if_neg (by omega)])) (lr58 21 rfl) (lr58 22 rfl) (lr58 23 rfl) (lr58 8 rfl) ⟨by decide, by decide, by decide +kernel⟩ rfl ⟨Nat.le_of_ble_eq_true rfl, Nat.le_of_ble_eq_true rfl, (by show _ ≤ 1400; omega), (by show _ ≤ 8600; omega)⟩ (Nat.le_of_ble_eq_true rfl) (by decide +kernel) rfl (fun v9 V9 hG H locs hw => ?_)
              obtain ⟨rfl, rfl⟩ := hG
              refine W.eq (g2 := F0 m 271 ls [.int (iI (-13))]) rfl ?_
              refine lv_bipush hx hb (n := (-13)) (v := iI (-13)) (by decide +kernel) (by decide) ?_
              refine lz_icmp_ne hx hb (a := (-13)) (b := (-13)) (off := 31) (tgt := 304) (by decide +kernel) (by decide) ⟨by decide, by decide⟩ ⟨by decide, by decide⟩ (fun h9 => absurd h9 (by decide)) (fun _ => ?_)
              refine lv_aload_n hx hb (k := 0) (i := 0) (x := ad 0) (by decide +kernel) rfl (lv_at hl 11 rfl) ?_
              refine lv_iload hx hb (i := 6) (x := iI ((j : Int) / 4)) (by decide +kernel) (lv_at hl 5 rfl) ?_
              refine lv_iload hx hb (i := 7) (x := iI ((j : Int) / 2 % 2)) (by decide +kernel) (lv_at hl 4 rfl) ?_
              refine lv_iload hx hb (i := 8) (x := iI 1) (by decide +kernel) (lv_at hl 3 rfl) ?_
              refine lv_iconst hx hb (n := 1) (v := iI 1) (by decide +kernel) rfl ?_
              refine lz_icmp_ne hx hb (a := 1) (b := 1) (off := 7) (tgt := 291) (by decide +kernel) (by decide) ⟨by decide, by decide⟩ ⟨by decide, by decide⟩ (fun h9 => absurd h9 (by decide)) (fun _ => ?_)
              refine lv_iconst hx hb (n := 1) (v := iI 1) (by decide +kernel) rfl ?_
              refine lv_goto hx hb (off := 4) (tgt := 292) (by decide +kernel) (by decide) ?_
              refine lk_callH (x := 208) (rest := []) (as := [.ref (ad 0), .int (iI ((j : Int) / 4)), .int (iI ((j : Int) / 2 % 2)), .int (iI 1)]) (n := 4) F hw hl.1 (M_gainN_1 (X := [(q1, aI cA 0 2 (g1)), (q2, aI cA 0 2 (g2)), (q3, aI cA 3 N (g3))]) F.l0 C rfl hB hf hr (by omega)) (lr58 24 rfl) (lr58 25 rfl) (lr58 26 rfl) (lr58 8 rfl) ⟨by decide, by decide, by decide +kernel⟩ rfl ⟨Nat.le_of_ble_eq_true rfl, Nat.le_of_ble_eq_true rfl, (by show _ ≤ 1400; omega), (by show _ ≤ 8600; omega)⟩ (Nat.le_of_ble_eq_true rfl) (by decide +kernel) rfl (fun v9 V9 hG H locs hw => ?_)
              obtain ⟨rfl, rfl⟩ := hG
              refine W.eq (g2 := F0 m 295 ls [.int (iI (-13))]) rfl ?_
              refine lv_bipush hx hb (n := (-13)) (v := iI (-13)) (by decide +kernel) (by decide) ?_
              refine lz_icmp_ne hx hb (a := (-13)) (b := (-13)) (off := 7) (tgt := 304) (by decide +kernel) (by decide) ⟨by decide, by decide⟩ ⟨by decide, by decide⟩ (fun h9 => absurd h9 (by decide)) (fun _ => ?_)
              refine lv_iconst hx hb (n := 1) (v := iI 1) (by decide +kernel) rfl ?_
              refine lv_goto hx hb (off := 4) (tgt := 305) (by decide +kernel) (by decide) ?_
              refine lv_istore hx hb (i := 12) (lv' := [(12, .int (iI 1)), (11, .int (iI (hnd (τ 4) ((j : Int) / 4) ((j : Int) / 2 % 2) 1))), (10, .int (iI (hnd (τ 4) ((j : Int) / 4) ((j : Int) / 2 % 2) 1))), (9, .int (iI (cel (τ 4) (0 + ((j : Int) / 4) * 6 + 0)))), (8, .int (iI 1)), (7, .int (iI ((j : Int) / 2 % 2))), (6, .int (iI ((j : Int) / 4))), (5, .int (iI (j : Int))), (4, .ref q3), (3, .ref q2), (2, .ref q1), (1, .int (iI (cel (τ 4) 107))), (0, .ref (ad 0))]) (by decide +kernel) hl (by decide) rfl (fun ls hl => ?_)
              refine lv_goto hx hb (off := 117) (tgt := 424) (by decide +kernel) (by decide) ?_
              refine lv_iload hx hb (i := 12) (x := iI 1) (by decide +kernel) (lv_at hl 0 rfl) ?_
              refine lz_if_ne hx hb (a := 1) (off := 5) (tgt := 431) (by decide +kernel) (by decide) ⟨by decide, by decide⟩ (fun _ => ?_) (fun h9 => absurd (by decide) h9)
              refine lv_iinc hx hb (i := 5) (n := 1) (v := iI ((j : Int) + 1)) (lv' := [(5, .int (iI ((j : Int) + 1))), (12, .int (iI 1)), (11, .int (iI (hnd (τ 4) ((j : Int) / 4) ((j : Int) / 2 % 2) 1))), (10, .int (iI (hnd (τ 4) ((j : Int) / 4) ((j : Int) / 2 % 2) 1))), (9, .int (iI (cel (τ 4) (0 + ((j : Int) / 4) * 6 + 0)))), (8, .int (iI 1)), (7, .int (iI ((j : Int) / 2 % 2))), (6, .int (iI ((j : Int) / 4))), (4, .ref q3), (3, .ref q2), (2, .ref q1), (1, .int (iI (cel (τ 4) 107))), (0, .ref (ad 0))]) (by decide +kernel) hl (k := 7) rfl (iI_add _ _) (by decide) rfl (fun ls hl => ?_)
              refine lv_goto hx hb (off := (-412)) (tgt := 22) (by decide +kernel) (by decide) ?_
              exact ih (j + 1) _ g1 g2 g3 ls _ _ _ _ (by omega) (by omega) hg1 hg2 hg3 (by omega) (by omega) (lv_sub hl [0, 8, 9, 10, 11, 12] rfl) hw
            ·
              have hg1g := @gol_1 (τ 4) ((j : Int) / 4) ((j : Int) / 2 % 2) 1
              have hg2g := @gol_2 (τ 4) ((j : Int) / 4) ((j : Int) / 2 % 2) 1
              refine lv_iload hx hb (i := 9) (x := iI (cel (τ 4) (0 + ((j : Int) / 4) * 6 + 0))) (by decide +kernel) (lv_at hl 1 rfl) ?_
              refine lv_aload_n hx hb (k := 0) (i := 0) (x := ad 0) (by decide +kernel) rfl (lv_at hl 10 rfl) ?_
              refine fl_call (d := 6) (j := m7_turn) (as := []) (X := [(q1, aI cA 0 2 (g1)), (q2, aI cA 0 2 (g2)), (q3, aI cA 3 N (g3))]) (x := 200) (rest := [.int (iI (cel (τ 4) (0 + ((j : Int) / 4) * 6 + 0)))]) F hw hl.1 (c_trn (τ := τ) rfl) (by decide) rfl rfl (lr58 30 rfl) (lr58 31 rfl) (lr58 32 rfl) ⟨Nat.le_of_ble_eq_true rfl, Nat.le_of_ble_eq_true rfl, (by show _ ≤ 1400; omega), (by show _ ≤ 8600; omega)⟩ (Nat.le_of_ble_eq_true rfl) (by decide +kernel) rfl (fun E9 τ9 e9 => by cases e9) (fun v9 τ9 e9 H locs hw => ?_)
              cases e9
              refine W.eq (g2 := F0 m 151 ls [.int (iI (cel (τ 4) 108)), .int (iI (cel (τ 4) (0 + ((j : Int) / 4) * 6 + 0)))]) rfl ?_
              refine lz_icmp_ne hx hb (a := (cel (τ 4) (0 + ((j : Int) / 4) * 6 + 0))) (b := (cel (τ 4) 108)) (off := 8) (tgt := 159) (by decide +kernel) (by decide) ⟨by omega, by omega⟩ ⟨by omega, by omega⟩ (fun h9 => absurd h9 (by omega)) (fun _ => ?_)
              refine lv_iload hx hb (i := 10) (x := iI (hnd (τ 4) ((j : Int) / 4) ((j : Int) / 2 % 2) 1)) (by decide +kernel) (lv_at hl 0 rfl) ?_
              refine lv_goto hx hb (off := 11) (tgt := 167) (by decide +kernel) (by decide) ?_
              refine lv_istore hx hb (i := 11) (lv' := [(11, .int (iI (hnd (τ 4) ((j : Int) / 4) ((j : Int) / 2 % 2) 1))), (10, .int (iI (hnd (τ 4) ((j : Int) / 4) ((j : Int) / 2 % 2) 1))), (9, .int (iI (cel (τ 4) (0 + ((j : Int) / 4) * 6 + 0)))), (8, .int (iI 1)), (7, .int (iI ((j : Int) / 2 % 2))), (6, .int (iI ((j : Int) / 4))), (5, .int (iI (j : Int))), (4, .ref q3), (3, .ref q2), (2, .ref q1), (1, .int (iI (cel (τ 4) 107))), (0, .ref (ad 0))]) (by decide +kernel) hl (by decide) rfl (fun ls hl => ?_)
              refine lv_iload hx hb (i := 11) (x := iI (hnd (τ 4) ((j : Int) / 4) ((j : Int) / 2 % 2) 1)) (by decide +kernel) (lv_at hl 0 rfl) ?_
              refine lz_if_le hx hb (a := (hnd (τ 4) ((j : Int) / 4) ((j : Int) / 2 % 2) 1)) (off := 139) (tgt := 310) (by decide +kernel) (by decide) ⟨by omega, by omega⟩ (fun _ => ?_) (fun h9 => absurd (by omega) h9)
              refine lv_aload_n hx hb (k := 0) (i := 0) (x := ad 0) (by decide +kernel) rfl (lv_at hl 11 rfl) ?_
              refine lv_iload hx hb (i := 6) (x := iI ((j : Int) / 4)) (by decide +kernel) (lv_at hl 5 rfl) ?_
              refine lv_iload hx hb (i := 7) (x := iI ((j : Int) / 2 % 2)) (by decide +kernel) (lv_at hl 4 rfl) ?_
              refine lv_iload hx hb (i := 8) (x := iI 1) (by decide +kernel) (lv_at hl 3 rfl) ?_
              refine lk_call (x := 197) (rest := []) (as := [.ref (ad 0), .int (iI ((j : Int) / 4)), .int (iI ((j : Int) / 2 % 2)), .int (iI 1)]) (n := 4) F hw hl.1 (K_kind (X := [(q1, aI cA 0 2 (g1)), (q2, aI cA 0 2 (g2)), (q3, aI cA 3 N (g3))]) (τ := τ) (f := ((j : Int) / 4)) (r := ((j : Int) / 2 % 2)) (d := 1) (B := B) F.l0 (by omega) (by omega) (by omega) hI (by omega)) (lr58 33 rfl) (lr58 34 rfl) (lr58 35 rfl) (lr58 8 rfl) ⟨rfl, by decide, by decide, by decide +kernel⟩ rfl ⟨Nat.le_of_ble_eq_true rfl, Nat.le_of_ble_eq_true rfl, (by show _ ≤ 1400; omega), (by show _ ≤ 8600; omega)⟩ (Nat.le_of_ble_eq_true rfl) (by decide +kernel) rfl (fun v9 V9 hG H locs hw => ?_)
              obtain ⟨rfl, rfl⟩ := hG
              refine W.eq (g2 := F0 m 320 ls [.int (iI (oco (τ 4) ((j : Int) / 4) ((j : Int) / 2 % 2) 1))]) rfl ?_
              refine lv_istore hx hb (i := 13) (lv' := [(13, .int (iI (oco (τ 4) ((j : Int) / 4) ((j : Int) / 2 % 2) 1))), (11, .int (iI (hnd (τ 4) ((j : Int) / 4) ((j : Int) / 2 % 2) 1))), (10, .int (iI (hnd (τ 4) ((j : Int) / 4) ((j : Int) / 2 % 2) 1))), (9, .int (iI (cel (τ 4) (0 + ((j : Int) / 4) * 6 + 0)))), (8, .int (iI 1)), (7, .int (iI ((j : Int) / 2 % 2))), (6, .int (iI ((j : Int) / 4))), (5, .int (iI (j : Int))), (4, .ref q3), (3, .ref q2), (2, .ref q1), (1, .int (iI (cel (τ 4) 107))), (0, .ref (ad 0))]) (by decide +kernel) hl (by decide) rfl (fun ls hl => ?_)
              refine lv_aload_n hx hb (k := 0) (i := 0) (x := ad 0) (by decide +kernel) rfl (lv_at hl 12 rfl) ?_
              refine lv_iload hx hb (i := 6) (x := iI ((j : Int) / 4)) (by decide +kernel) (lv_at hl 6 rfl) ?_
              refine lv_iload hx hb (i := 7) (x := iI ((j : Int) / 2 % 2)) (by decide +kernel) (lv_at hl 5 rfl) ?_
              refine lv_iload hx hb (i := 8) (x := iI 1) (by decide +kernel) (lv_at hl 4 rfl) ?_
              refine lv_iconst hx hb (n := 1) (v := iI 1) (by decide +kernel) rfl ?_
              refine lz_icmp_ne hx hb (a := 1) (b := 1) (off := 7) (tgt := 337) (by decide +kernel) (by decide) ⟨by decide, by decide⟩ ⟨by decide, by decide⟩ (fun h9 => absurd h9 (by decide)) (fun _ => ?_)
              refine lv_iconst hx hb (n := 1) (v := iI 1) (by decide +kernel) rfl ?_
              refine lv_goto hx hb (off := 4) (tgt := 338) (by decide +kernel) (by decide) ?_
              refine lk_callH (x := 158) (rest := []) (as := [.ref (ad 0), .int (iI ((j : Int) / 4)), .int (iI ((j : Int) / 2 % 2)), .int (iI 1)]) (n := 4) F hw hl.1 ((N_would_1 (X := [(q1, aI cA 0 2 (g1)), (q2, aI cA 0 2 (g2)), (q3, aI cA 3 N (g3))]) F.l0 hS rfl hf hr).to (k' := oco (τ 4) ((j : Int) / 4) ((j : Int) / 2 % 2) 1) (by rw [hocn, if_pos (by omega)])) (lr58 15 rfl) (lr58 16 rfl) (lr58 17 rfl) (lr58 8 rfl) ⟨by decide, by decide, by decide +kernel⟩ rfl ⟨Nat.le_of_ble_eq_true rfl, Nat.le_of_ble_eq_true rfl, (by show _ ≤ 1400; omega), (by show _ ≤ 8600; omega)⟩ (Nat.le_of_ble_eq_true rfl) (by decide +kernel) rfl (fun v9 V9 hG H locs hw => ?_)
              obtain ⟨rfl, rfl⟩ := hG
              refine W.eq (g2 := F0 m 341 ls [.int (iI (oco (τ 4) ((j : Int) / 4) ((j : Int) / 2 % 2) 1))]) rfl ?_
              refine lv_iload hx hb (i := 13) (x := iI (oco (τ 4) ((j : Int) / 4) ((j : Int) / 2 % 2) 1)) (by decide +kernel) (lv_at hl 0 rfl) ?_
              refine lz_icmp_ne hx hb (a := (oco (τ 4) ((j : Int) / 4) ((j : Int) / 2 % 2) 1)) (b := (oco (τ 4) ((j : Int) / 4) ((j : Int) / 2 % 2) 1)) (off := 78) (tgt := 421) (by decide +kernel) (by decide) ⟨by omega, by omega⟩ ⟨by omega, by omega⟩ (fun h9 => absurd h9 (by omega)) (fun _ => ?_)
              refine lv_aload_n hx hb (k := 0) (i := 0) (x := ad 0) (by decide +kernel) rfl (lv_at hl 12 rfl) ?_
              refine lv_iload hx hb (i := 6) (x := iI ((j : Int) / 4)) (by decide +kernel) (lv_at hl 6 rfl) ?_
              refine lv_iload hx hb (i := 7) (x := iI ((j : Int) / 2 % 2)) (by decide +kernel) (lv_at hl 5 rfl) ?_
              refine lv_iload hx hb (i := 8) (x := iI 1) (by decide +kernel) (lv_at hl 4 rfl) ?_
              refine lv_iconst hx hb (n := 1) (v := iI 1) (by decide +kernel) rfl ?_
              refine lz_icmp_ne hx hb (a := 1) (b := 1) (off := 7) (tgt := 361) (by decide +kernel) (by decide) ⟨by decide, by decide⟩ ⟨by decide, by decide⟩ (fun h9 => absurd h9 (by decide)) (fun _ => ?_)
              refine lv_iconst hx hb (n := 1) (v := iI 1) (by decide +kernel) rfl ?_
              refine lv_goto hx hb (off := 4) (tgt := 362) (by decide +kernel) (by decide) ?_
              refine lv_iconst hx hb (n := 1) (v := iI 1) (by decide +kernel) rfl ?_
              refine lk_callH (x := 203) (rest := []) (as := [.ref (ad 0), .int (iI ((j : Int) / 4)), .int (iI ((j : Int) / 2 % 2)), .int (iI 1), .int (iI 1)]) (n := 5) F hw hl.1 ((N_why_1_1 (X := [(q1, aI cA 0 2 (g1)), (q2, aI cA 0 2 (g2)), (q3, aI cA 3 N (g3))]) F.l0 hS rfl hf hr).to (k' := (-13)) (by rw [hocn, if_pos (by omega)])) (lr58 18 rfl) (lr58 19 rfl) (lr58 20 rfl) (lr58 8 rfl) ⟨by decide, by decide, by decide +kernel⟩ rfl ⟨Nat.le_of_ble_eq_true rfl, Nat.le_of_ble_eq_true rfl, (by show _ ≤ 1400; omega), (by show _ ≤ 8600; omega)⟩ (Nat.le_of_ble_eq_true rfl) (by decide +kernel) rfl (fun v9 V9 hG H locs hw => ?_)
              obtain ⟨rfl, rfl⟩ := hG
              refine W.eq (g2 := F0 m 366 ls [.int (iI (-13))]) rfl ?_
              refine lv_bipush hx hb (n := (-13)) (v := iI (-13)) (by decide +kernel) (by decide) ?_
              refine lz_icmp_ne hx hb (a := (-13)) (b := (-13)) (off := 53) (tgt := 421) (by decide +kernel) (by decide) ⟨by decide, by decide⟩ ⟨by decide, by decide⟩ (fun h9 => absurd h9 (by decide)) (fun _ => ?_)
              refine lv_aload_n hx hb (k := 0) (i := 0) (x := ad 0) (by decide +kernel) rfl (lv_at hl 12 rfl) ?_
              refine lv_iload hx hb (i := 6) (x := iI ((j : Int) / 4)) (by decide +kernel) (lv_at hl 6 rfl) ?_
              refine lv_iload hx hb (i := 7) (x := iI ((j : Int) / 2 % 2)) (by decide +kernel) (lv_at hl 5 rfl) ?_
              refine lv_iload hx hb (i := 8) (x := iI 1) (by decide +kernel) (lv_at hl 4 rfl) ?_
              refine lv_iconst hx hb (n := 1) (v := iI 1) (by decide +kernel) rfl ?_
              refine lz_icmp_ne hx hb (a := 1) (b := 1) (off := 7) (tgt := 386) (by decide +kernel) (by decide) ⟨by decide, by decide⟩ ⟨by decide, by decide⟩ (fun h9 => absurd h9 (by decide)) (fun _ => ?_)
              refine lv_iconst hx hb (n := 1) (v := iI 1) (by decide +kernel) rfl ?_
              refine lv_goto hx hb (off := 4) (tgt := 387) (by decide +kernel) (by decide) ?_
              refine lk_callH (x := 206) (rest := []) (as := [.ref (ad 0), .int (iI ((j : Int) / 4)), .int (iI ((j : Int) / 2 % 2)), .int (iI 1)]) (n := 4) F hw hl.1 ((N_to_1 (X := [(q1, aI cA 0 2 (g1)), (q2, aI cA 0 2 (g2)), (q3, aI cA 3 N (g3))]) F.l0 hS rfl hf hr).to (k' := gol (τ 4) ((j : Int) / 4) ((j : Int) / 2 % 2) 1) (by rw [hocn, if_pos (by omega)])) (lr58 21 rfl) (lr58 22 rfl) (lr58 23 rfl) (lr58 8 rfl) ⟨by decide, by decide, by decide +kernel⟩ rfl ⟨Nat.le_of_ble_eq_true rfl, Nat.le_of_ble_eq_true rfl, (by show _ ≤ 1400; omega), (by show _ ≤ 8600; omega)⟩ (Nat.le_of_ble_eq_true rfl) (by decide +kernel) rfl (fun v9 V9 hG H locs hw => ?_)
              obtain ⟨rfl, rfl⟩ := hG
              refine W.eq (g2 := F0 m 390 ls [.int (iI (gol (τ 4) ((j : Int) / 4) ((j : Int) / 2 % 2) 1))]) rfl ?_
              refine lv_aload_n hx hb (k := 0) (i := 0) (x := ad 0) (by decide +kernel) rfl (lv_at hl 12 rfl) ?_
              refine lv_iload hx hb (i := 6) (x := iI ((j : Int) / 4)) (by decide +kernel) (lv_at hl 6 rfl) ?_
              refine lv_iload hx hb (i := 7) (x := iI ((j : Int) / 2 % 2)) (by decide +kernel) (lv_at hl 5 rfl) ?_
              refine lk_call (x := 166) (rest := [.int (iI (gol (τ 4) ((j : Int) / 4) ((j : Int) / 2 % 2) 1))]) (as := [.ref (ad 0), .int (iI ((j : Int) / 4)), .int (iI ((j : Int) / 2 % 2))]) (n := 3) F hw hl.1 (K_placeOf (X := [(q1, aI cA 0 2 (g1)), (q2, aI cA 0 2 (g2)), (q3, aI cA 3 N (g3))]) (τ := τ) (f := ((j : Int) / 4)) (r := ((j : Int) / 2 % 2)) (B := B) F.l0 (by omega) (by omega) hS) (lr58 36 rfl) (lr58 37 rfl) (lr58 38 rfl) (lr58 8 rfl) ⟨rfl, by decide, by decide, by decide +kernel⟩ rfl ⟨Nat.le_of_ble_eq_true rfl, Nat.le_of_ble_eq_true rfl, (by show _ ≤ 1400; omega), (by show _ ≤ 8600; omega)⟩ (Nat.le_of_ble_eq_true rfl) (by decide +kernel) rfl (fun v9 V9 hG H locs hw => ?_)
              obtain ⟨rfl, rfl⟩ := hG
              refine W.eq (g2 := F0 m 398 ls [.int (iI (cel (τ 4) (0 + ((j : Int) / 4) * 6 + (1 + ((j : Int) / 2 % 2))))), .int (iI (gol (τ 4) ((j : Int) / 4) ((j : Int) / 2 % 2) 1))]) rfl ?_
              refine lv_iload hx hb (i := 13) (x := iI (oco (τ 4) ((j : Int) / 4) ((j : Int) / 2 % 2) 1)) (by decide +kernel) (lv_at hl 0 rfl) ?_
              refine lv_iconst hx hb (n := 1) (v := iI 1) (by decide +kernel) rfl ?_
              refine lz_icmp_ne hx hb (a := (oco (τ 4) ((j : Int) / 4) ((j : Int) / 2 % 2) 1)) (b := 1) (off := 8) (tgt := 409) (by decide +kernel) (by decide) ⟨by omega, by omega⟩ ⟨by decide, by decide⟩ (fun h8 => ?_) (fun h8 => ?_)
              ·
                refine lv_iconst hx hb (n := 2) (v := iI 2) (by decide +kernel) rfl ?_
                refine lv_iload hx hb (i := 8) (x := iI 1) (by decide +kernel) (lv_at hl 4 rfl) ?_
                refine lz_imul hx hb (a := 2) (b := 1) (by decide +kernel) ?_
                refine W.eq (g2 := F0 m 413 ls [.int (iI 2), .int (iI (cel (τ 4) (0 + ((j : Int) / 4) * 6 + (1 + ((j : Int) / 2 % 2))))), .int (iI (gol (τ 4) ((j : Int) / 4) ((j : Int) / 2 % 2) 1))]) rfl ?_
                refine lz_iadd hx hb (a := (cel (τ 4) (0 + ((j : Int) / 4) * 6 + (1 + ((j : Int) / 2 % 2))))) (b := 2) (by decide +kernel) ?_
                refine lz_icmp_ne hx hb (a := (gol (τ 4) ((j : Int) / 4) ((j : Int) / 2 % 2) 1)) (b := ((cel (τ 4) (0 + ((j : Int) / 4) * 6 + (1 + ((j : Int) / 2 % 2)))) + 2)) (off := 7) (tgt := 421) (by decide +kernel) (by decide) ⟨by omega, by omega⟩ ⟨by omega, by omega⟩ (fun h9 => absurd h9 (by omega)) (fun _ => ?_)
                refine lv_iconst hx hb (n := 1) (v := iI 1) (by decide +kernel) rfl ?_
                refine lv_goto hx hb (off := 4) (tgt := 422) (by decide +kernel) (by decide) ?_
                refine lv_istore hx hb (i := 12) (lv' := [(12, .int (iI 1)), (13, .int (iI (oco (τ 4) ((j : Int) / 4) ((j : Int) / 2 % 2) 1))), (11, .int (iI (hnd (τ 4) ((j : Int) / 4) ((j : Int) / 2 % 2) 1))), (10, .int (iI (hnd (τ 4) ((j : Int) / 4) ((j : Int) / 2 % 2) 1))), (9, .int (iI (cel (τ 4) (0 + ((j : Int) / 4) * 6 + 0)))), (8, .int (iI 1)), (7, .int (iI ((j : Int) / 2 % 2))), (6, .int (iI ((j : Int) / 4))), (5, .int (iI (j : Int))), (4, .ref q3), (3, .ref q2), (2, .ref q1), (1, .int (iI (cel (τ 4) 107))), (0, .ref (ad 0))]) (by decide +kernel) hl (by decide) rfl (fun ls hl => ?_)
                refine lv_iload hx hb (i := 12) (x := iI 1) (by decide +kernel) (lv_at hl 0 rfl) ?_
                refine lz_if_ne hx hb (a := 1) (off := 5) (tgt := 431) (by decide +kernel) (by decide) ⟨by decide, by decide⟩ (fun _ => ?_) (fun h9 => absurd (by decide) h9)
                refine lv_iinc hx hb (i := 5) (n := 1) (v := iI ((j : Int) + 1)) (lv' := [(5, .int (iI ((j : Int) + 1))), (12, .int (iI 1)), (13, .int (iI (oco (τ 4) ((j : Int) / 4) ((j : Int) / 2 % 2) 1))), (11, .int (iI (hnd (τ 4) ((j : Int) / 4) ((j : Int) / 2 % 2) 1))), (10, .int (iI (hnd (τ 4) ((j : Int) / 4) ((j : Int) / 2 % 2) 1))), (9, .int (iI (cel (τ 4) (0 + ((j : Int) / 4) * 6 + 0)))), (8, .int (iI 1)), (7, .int (iI ((j : Int) / 2 % 2))), (6, .int (iI ((j : Int) / 4))), (4, .ref q3), (3, .ref q2), (2, .ref q1), (1, .int (iI (cel (τ 4) 107))), (0, .ref (ad 0))]) (by decide +kernel) hl (k := 8) rfl (iI_add _ _) (by decide) rfl (fun ls hl => ?_)
                refine lv_goto hx hb (off := (-412)) (tgt := 22) (by decide +kernel) (by decide) ?_
                exact ih (j + 1) _ g1 g2 g3 ls _ _ _ _ (by omega) (by omega) hg1 hg2 hg3 (by omega) (by omega) (lv_sub hl [0, 9, 10, 11, 12, 13] rfl) hw
              ·
                refine lv_iload hx hb (i := 8) (x := iI 1) (by decide +kernel) (lv_at hl 4 rfl) ?_
                refine lv_goto hx hb (off := 7) (tgt := 413) (by decide +kernel) (by decide) ?_
                refine lz_iadd hx hb (a := (cel (τ 4) (0 + ((j : Int) / 4) * 6 + (1 + ((j : Int) / 2 % 2))))) (b := 1) (by decide +kernel) ?_
                refine lz_icmp_ne hx hb (a := (gol (τ 4) ((j : Int) / 4) ((j : Int) / 2 % 2) 1)) (b := ((cel (τ 4) (0 + ((j : Int) / 4) * 6 + (1 + ((j : Int) / 2 % 2)))) + 1)) (off := 7) (tgt := 421) (by decide +kernel) (by decide) ⟨by omega, by omega⟩ ⟨by omega, by omega⟩ (fun h9 => absurd h9 (by omega)) (fun _ => ?_)
                refine lv_iconst hx hb (n := 1) (v := iI 1) (by decide +kernel) rfl ?_
                refine lv_goto hx hb (off := 4) (tgt := 422) (by decide +kernel) (by decide) ?_
                refine lv_istore hx hb (i := 12) (lv' := [(12, .int (iI 1)), (13, .int (iI (oco (τ 4) ((j : Int) / 4) ((j : Int) / 2 % 2) 1))), (11, .int (iI (hnd (τ 4) ((j : Int) / 4) ((j : Int) / 2 % 2) 1))), (10, .int (iI (hnd (τ 4) ((j : Int) / 4) ((j : Int) / 2 % 2) 1))), (9, .int (iI (cel (τ 4) (0 + ((j : Int) / 4) * 6 + 0)))), (8, .int (iI 1)), (7, .int (iI ((j : Int) / 2 % 2))), (6, .int (iI ((j : Int) / 4))), (5, .int (iI (j : Int))), (4, .ref q3), (3, .ref q2), (2, .ref q1), (1, .int (iI (cel (τ 4) 107))), (0, .ref (ad 0))]) (by decide +kernel) hl (by decide) rfl (fun ls hl => ?_)
                refine lv_iload hx hb (i := 12) (x := iI 1) (by decide +kernel) (lv_at hl 0 rfl) ?_
                refine lz_if_ne hx hb (a := 1) (off := 5) (tgt := 431) (by decide +kernel) (by decide) ⟨by decide, by decide⟩ (fun _ => ?_) (fun h9 => absurd (by decide) h9)
                refine lv_iinc hx hb (i := 5) (n := 1) (v := iI ((j : Int) + 1)) (lv' := [(5, .int (iI ((j : Int) + 1))), (12, .int (iI 1)), (13, .int (iI (oco (τ 4) ((j : Int) / 4) ((j : Int) / 2 % 2) 1))), (11, .int (iI (hnd (τ 4) ((j : Int) / 4) ((j : Int) / 2 % 2) 1))), (10, .int (iI (hnd (τ 4) ((j : Int) / 4) ((j : Int) / 2 % 2) 1))), (9, .int (iI (cel (τ 4) (0 + ((j : Int) / 4) * 6 + 0)))), (8, .int (iI 1)), (7, .int (iI ((j : Int) / 2 % 2))), (6, .int (iI ((j : Int) / 4))), (4, .ref q3), (3, .ref q2), (2, .ref q1), (1, .int (iI (cel (τ 4) 107))), (0, .ref (ad 0))]) (by decide +kernel) hl (k := 8) rfl (iI_add _ _) (by decide) rfl (fun ls hl => ?_)
                refine lv_goto hx hb (off := (-412)) (tgt := 22) (by decide +kernel) (by decide) ?_
                exact ih (j + 1) _ g1 g2 g3 ls _ _ _ _ (by omega) (by omega) hg1 hg2 hg3 (by omega) (by omega) (lv_sub hl [0, 9, 10, 11, 12, 13] rfl) hw
        · have hd1 : (1 - (j : Int) % 2 * 2) = -1 := by omega
          rw [hd1] at hl hhb hoi
          have hl : lv_has ls 14 [(10, .int (iI (hnd (τ 4) ((j : Int) / 4) ((j : Int) / 2 % 2) (-1)))), (9, .int (iI (cel (τ 4) (0 + ((j : Int) / 4) * 6 + 0)))), (8, .int (iI (-1))), (7, .int (iI ((j : Int) / 2 % 2))), (6, .int (iI ((j : Int) / 4))), (5, .int (iI (j : Int))), (4, .ref q3), (3, .ref q2), (2, .ref q1), (1, .int (iI (cel (τ 4) 107))), (0, .ref (ad 0))] := hl
          by_cases hsd2 : ¬ cel (τ 4) (0 + ((j : Int) / 4) * 6 + 0) = cel (τ 4) 108
          · have hocn : ocn (τ 4) ((j : Int) / 4) ((j : Int) / 2 % 2) (-1) = 11 := if_neg hsd2
            refine lv_iload hx hb (i := 9) (x := iI (cel (τ 4) (0 + ((j : Int) / 4) * 6 + 0))) (by decide +kernel) (lv_at hl 1 rfl) ?_
            refine lv_aload_n hx hb (k := 0) (i := 0) (x := ad 0) (by decide +kernel) rfl (lv_at hl 10 rfl) ?_
            refine fl_call (d := 6) (j := m7_turn) (as := []) (X := [(q1, aI cA 0 2 (g1)), (q2, aI cA 0 2 (g2)), (q3, aI cA 3 N (g3))]) (x := 200) (rest := [.int (iI (cel (τ 4) (0 + ((j : Int) / 4) * 6 + 0)))]) F hw hl.1 (c_trn (τ := τ) rfl) (by decide) rfl rfl (lr58 30 rfl) (lr58 31 rfl) (lr58 32 rfl) ⟨Nat.le_of_ble_eq_true rfl, Nat.le_of_ble_eq_true rfl, (by show _ ≤ 1400; omega), (by show _ ≤ 8600; omega)⟩ (Nat.le_of_ble_eq_true rfl) (by decide +kernel) rfl (fun E9 τ9 e9 => by cases e9) (fun v9 τ9 e9 H locs hw => ?_)
            cases e9
            refine W.eq (g2 := F0 m 151 ls [.int (iI (cel (τ 4) 108)), .int (iI (cel (τ 4) (0 + ((j : Int) / 4) * 6 + 0)))]) rfl ?_
            refine lz_icmp_ne hx hb (a := (cel (τ 4) (0 + ((j : Int) / 4) * 6 + 0))) (b := (cel (τ 4) 108)) (off := 8) (tgt := 159) (by decide +kernel) (by decide) ⟨by omega, by omega⟩ ⟨by omega, by omega⟩ (fun _ => ?_) (fun h9 => absurd (by omega) h9)
            refine lv_sipush hx hb (n := 1100) (v := iI 1100) (by decide +kernel) (by decide) ?_
            refine lv_aload_n hx hb (k := 0) (i := 0) (x := ad 0) (by decide +kernel) rfl (lv_at hl 10 rfl) ?_
            refine fl_call (d := 6) (j := m7_turn) (as := []) (X := [(q1, aI cA 0 2 (g1)), (q2, aI cA 0 2 (g2)), (q3, aI cA 3 N (g3))]) (x := 200) (rest := [.int (iI 1100)]) F hw hl.1 (c_trn (τ := τ) rfl) (by decide) rfl rfl (lr58 30 rfl) (lr58 31 rfl) (lr58 32 rfl) ⟨Nat.le_of_ble_eq_true rfl, Nat.le_of_ble_eq_true rfl, (by show _ ≤ 1400; omega), (by show _ ≤ 8600; omega)⟩ (Nat.le_of_ble_eq_true rfl) (by decide +kernel) rfl (fun E9 τ9 e9 => by cases e9) (fun v9 τ9 e9 H locs hw => ?_)
            cases e9
            refine W.eq (g2 := F0 m 166 ls [.int (iI (cel (τ 4) 108)), .int (iI 1100)]) rfl ?_
            refine lz_iadd hx hb (a := 1100) (b := (cel (τ 4) 108)) (by decide +kernel) ?_
            refine lv_istore hx hb (i := 11) (lv' := [(11, .int (iI (1100 + (cel (τ 4) 108)))), (10, .int (iI (hnd (τ 4) ((j : Int) / 4) ((j : Int) / 2 % 2) (-1)))), (9, .int (iI (cel (τ 4) (0 + ((j : Int) / 4) * 6 + 0)))), (8, .int (iI (-1))), (7, .int (iI ((j : Int) / 2 % 2))), (6, .int (iI ((j : Int) / 4))), (5, .int (iI (j : Int))), (4, .ref q3), (3, .ref q2), (2, .ref q1), (1, .int (iI (cel (τ 4) 107))), (0, .ref (ad 0))]) (by decide +kernel) hl (by decide) rfl (fun ls hl => ?_)
            refine lv_iload hx hb (i := 11) (x := iI (1100 + (cel (τ 4) 108))) (by decide +kernel) (lv_at hl 0 rfl) ?_
            refine lz_if_le hx hb (a := (1100 + (cel (τ 4) 108))) (off := 139) (tgt := 310) (by decide +kernel) (by decide) ⟨by omega, by omega⟩ (fun h9 => absurd h9 (by omega)) (fun _ => ?_)
            refine lv_aload_n hx hb (k := 0) (i := 0) (x := ad 0) (by decide +kernel) rfl (lv_at hl 11 rfl) ?_
            refine lv_iload hx hb (i := 6) (x := iI ((j : Int) / 4)) (by decide +kernel) (lv_at hl 5 rfl) ?_
            refine lv_iload hx hb (i := 7) (x := iI ((j : Int) / 2 % 2)) (by decide +kernel) (lv_at hl 4 rfl) ?_
            refine lv_iload hx hb (i := 8) (x := iI (-1)) (by decide +kernel) (lv_at hl 3 rfl) ?_
            refine lv_iconst hx hb (n := 1) (v := iI 1) (by decide +kernel) rfl ?_
            refine lz_icmp_ne hx hb (a := (-1)) (b := 1) (off := 7) (tgt := 189) (by decide +kernel) (by decide) ⟨by decide, by decide⟩ ⟨by decide, by decide⟩ (fun _ => ?_) (fun h9 => absurd (by decide) h9)
            refine lv_iconst hx hb (n := 0) (v := iI 0) (by decide +kernel) rfl ?_
            refine lk_callH (x := 158) (rest := []) (as := [.ref (ad 0), .int (iI ((j : Int) / 4)), .int (iI ((j : Int) / 2 % 2)), .int (iI 0)]) (n := 4) F hw hl.1 ((N_would_0 (X := [(q1, aI cA 0 2 (g1)), (q2, aI cA 0 2 (g2)), (q3, aI cA 3 N (g3))]) F.l0 hS rfl hf hr).to (k' := 0) (by rw [hocn, if_neg (by omega)])) (lr58 15 rfl) (lr58 16 rfl) (lr58 17 rfl) (lr58 8 rfl) ⟨by decide, by decide, by decide +kernel⟩ rfl ⟨Nat.le_of_ble_eq_true rfl, Nat.le_of_ble_eq_true rfl, (by show _ ≤ 1400; omega), (by show _ ≤ 8600; omega)⟩ (Nat.le_of_ble_eq_true rfl) (by decide +kernel) rfl (fun v9 V9 hG H locs hw => ?_)
            obtain ⟨rfl, rfl⟩ := hG
            refine W.eq (g2 := F0 m 193 ls [.int (iI 0)]) rfl ?_
            refine lz_if_ne hx hb (a := 0) (off := 111) (tgt := 304) (by decide +kernel) (by decide) ⟨by decide, by decide⟩ (fun h9 => absurd h9 (by decide)) (fun _ => ?_)
            refine lv_aload_n hx hb (k := 0) (i := 0) (x := ad 0) (by decide +kernel) rfl (lv_at hl 11 rfl) ?_
            refine lv_iload hx hb (i := 6) (x := iI ((j : Int) / 4)) (by decide +kernel) (lv_at hl 5 rfl) ?_
            refine lv_iload hx hb (i := 7) (x := iI ((j : Int) / 2 % 2)) (by decide +kernel) (lv_at hl 4 rfl) ?_
            refine lv_iload hx hb (i := 8) (x := iI (-1)) (by decide +kernel) (lv_at hl 3 rfl) ?_
            refine lv_iconst hx hb (n := 1) (v := iI 1) (by decide +kernel) rfl ?_
            refine lz_icmp_ne hx hb (a := (-1)) (b := 1) (off := 7) (tgt := 211) (by decide +kernel) (by decide) ⟨by decide, by decide⟩ ⟨by decide, by decide⟩ (fun _ => ?_) (fun h9 => absurd (by decide) h9)
            refine lv_iconst hx hb (n := 0) (v := iI 0) (by decide +kernel) rfl ?_
            refine lv_iconst hx hb (n := 0) (v := iI 0) (by decide +kernel) rfl ?_
            refine lk_callH (x := 203) (rest := []) (as := [.ref (ad 0), .int (iI ((j : Int) / 4)), .int (iI ((j : Int) / 2 % 2)), .int (iI 0), .int (iI 0)]) (n := 5) F hw hl.1 ((N_why_0_0 (X := [(q1, aI cA 0 2 (g1)), (q2, aI cA 0 2 (g2)), (q3, aI cA 3 N (g3))]) F.l0 hS rfl hf hr).to (k' := 11) (by rw [hocn, if_neg (by omega)])) (lr58 18 rfl) (lr58 19 rfl) (lr58 20 rfl) (lr58 8 rfl) ⟨by decide, by decide, by decide +kernel⟩ rfl ⟨Nat.le_of_ble_eq_true rfl, Nat.le_of_ble_eq_true rfl, (by show _ ≤ 1400; omega), (by show _ ≤ 8600; omega)⟩ (Nat.le_of_ble_eq_true rfl) (by decide +kernel) rfl (fun v9 V9 hG H locs hw => ?_)
            obtain ⟨rfl, rfl⟩ := hG
            refine W.eq (g2 := F0 m 216 ls [.int (iI 11)]) rfl ?_
            refine lv_iload hx hb (i := 11) (x := iI (1100 + (cel (τ 4) 108))) (by decide +kernel) (lv_at hl 0 rfl) ?_
            refine lv_bipush hx hb (n := 100) (v := iI 100) (by decide +kernel) (by decide) ?_
            refine lz_idiv hx hb (a := (1100 + (cel (τ 4) 108))) (b := 100) (by decide +kernel) ⟨by omega, by omega, by omega, by omega⟩ ?_
            refine lz_icmp_ne hx hb (a := 11) (b := ((1100 + (cel (τ 4) 108)) / 100)) (off := 83) (tgt := 304) (by decide +kernel) (by decide) ⟨by decide, by decide⟩ ⟨by omega, by omega⟩ (fun h9 => absurd h9 (by omega)) (fun _ => ?_)
            refine lv_aload_n hx hb (k := 0) (i := 0) (x := ad 0) (by decide +kernel) rfl (lv_at hl 11 rfl) ?_
            refine lv_iload hx hb (i := 6) (x := iI ((j : Int) / 4)) (by decide +kernel) (lv_at hl 5 rfl) ?_
            refine lv_iload hx hb (i := 7) (x := iI ((j : Int) / 2 % 2)) (by decide +kernel) (lv_at hl 4 rfl) ?_
            refine lv_iload hx hb (i := 8) (x := iI (-1)) (by decide +kernel) (lv_at hl 3 rfl) ?_
            refine lv_iconst hx hb (n := 1) (v := iI 1) (by decide +kernel) rfl ?_
            refine lz_icmp_ne hx hb (a := (-1)) (b := 1) (off := 7) (tgt := 239) (by decide +kernel) (by decide) ⟨by decide, by decide⟩ ⟨by decide, by decide⟩ (fun _ => ?_) (fun h9 => absurd (by decide) h9)
            refine lv_iconst hx hb (n := 0) (v := iI 0) (by decide +kernel) rfl ?_
            refine lv_iconst hx hb (n := 1) (v := iI 1) (by decide +kernel) rfl ?_
            refine lk_callH (x := 203) (rest := []) (as := [.ref (ad 0), .int (iI ((j : Int) / 4)), .int (iI ((j : Int) / 2 % 2)), .int (iI 0), .int (iI 1)]) (n := 5) F hw hl.1 ((N_why_0_1 (X := [(q1, aI cA 0 2 (g1)), (q2, aI cA 0 2 (g2)), (q3, aI cA 3 N (g3))]) F.l0 hS rfl hf hr).to (k' := cel (τ 4) 108) (by rw [hocn, if_neg (by omega)]; rfl)) (lr58 18 rfl) (lr58 19 rfl) (lr58 20 rfl) (lr58 8 rfl) ⟨by decide, by decide, by decide +kernel⟩ rfl ⟨Nat.le_of_ble_eq_true rfl, Nat.le_of_ble_eq_true rfl, (by show _ ≤ 1400; omega), (by show _ ≤ 8600; omega)⟩ (Nat.le_of_ble_eq_true rfl) (by decide +kernel) rfl (fun v9 V9 hG H locs hw => ?_)
            obtain ⟨rfl, rfl⟩ := hG
            refine W.eq (g2 := F0 m 244 ls [.int (iI (cel (τ 4) 108))]) rfl ?_
            refine lv_iload hx hb (i := 11) (x := iI (1100 + (cel (τ 4) 108))) (by decide +kernel) (lv_at hl 0 rfl) ?_
            refine lv_bipush hx hb (n := 100) (v := iI 100) (by decide +kernel) (by decide) ?_
            refine lz_irem hx hb (a := (1100 + (cel (τ 4) 108))) (b := 100) (by decide +kernel) ⟨by omega, by omega, by omega, by omega⟩ ?_
            refine lz_icmp_ne hx hb (a := (cel (τ 4) 108)) (b := ((1100 + (cel (τ 4) 108)) % 100)) (off := 55) (tgt := 304) (by decide +kernel) (by decide) ⟨by omega, by omega⟩ ⟨by omega, by omega⟩ (fun h9 => absurd h9 (by omega)) (fun _ => ?_)
            refine lv_aload_n hx hb (k := 0) (i := 0) (x := ad 0) (by decide +kernel) rfl (lv_at hl 11 rfl) ?_
            refine lv_iload hx hb (i := 6) (x := iI ((j : Int) / 4)) (by decide +kernel) (lv_at hl 5 rfl) ?_
            refine lv_iload hx hb (i := 7) (x := iI ((j : Int) / 2 % 2)) (by decide +kernel) (lv_at hl 4 rfl) ?_
            refine lv_iload hx hb (i := 8) (x := iI (-1)) (by decide +kernel) (lv_at hl 3 rfl) ?_
            refine lv_iconst hx hb (n := 1) (v := iI 1) (by decide +kernel) rfl ?_
            refine lz_icmp_ne hx hb (a := (-1)) (b := 1) (off := 7) (tgt := 267) (by decide +kernel) (by decide) ⟨by decide, by decide⟩ ⟨by decide, by decide⟩ (fun _ => ?_) (fun h9 => absurd (by decide) h9)
            refine lv_iconst hx hb (n := 0) (v := iI 0) (by decide +kernel) rfl ?_
            refine lk_callH (x := 206) (rest := []) (as := [.ref (ad 0), .int (iI ((j : Int) / 4)), .int (iI ((j : Int) / 2 % 2)), .int (iI 0)]) (n := 4) F hw hl.1 ((N_to_0 (X := [(q1, aI cA 0 2 (g1)), (q2, aI cA 0 2 (g2)), (q3, aI cA 3 N (g3))]) F.l0 hS rfl hf hr).to (k' := (-13)) (by rw [hocn, if_neg (by omega)])) (lr58 21 rfl) (lr58 22 rfl) (lr58 23 rfl) (lr58 8 rfl) ⟨by decide, by decide, by decide +kernel⟩ rfl ⟨Nat.le_of_ble_eq_true rfl, Nat.le_of_ble_eq_true rfl, (by show _ ≤ 1400; omega), (by show _ ≤ 8600; omega)⟩ (Nat.le_of_ble_eq_true rfl) (by decide +kernel) rfl (fun v9 V9 hG H locs hw => ?_)
            obtain ⟨rfl, rfl⟩ := hG
            refine W.eq (g2 := F0 m 271 ls [.int (iI (-13))]) rfl ?_
            refine lv_bipush hx hb (n := (-13)) (v := iI (-13)) (by decide +kernel) (by decide) ?_
            refine lz_icmp_ne hx hb (a := (-13)) (b := (-13)) (off := 31) (tgt := 304) (by decide +kernel) (by decide) ⟨by decide, by decide⟩ ⟨by decide, by decide⟩ (fun h9 => absurd h9 (by decide)) (fun _ => ?_)
            refine lv_aload_n hx hb (k := 0) (i := 0) (x := ad 0) (by decide +kernel) rfl (lv_at hl 11 rfl) ?_
            refine lv_iload hx hb (i := 6) (x := iI ((j : Int) / 4)) (by decide +kernel) (lv_at hl 5 rfl) ?_
            refine lv_iload hx hb (i := 7) (x := iI ((j : Int) / 2 % 2)) (by decide +kernel) (lv_at hl 4 rfl) ?_
            refine lv_iload hx hb (i := 8) (x := iI (-1)) (by decide +kernel) (lv_at hl 3 rfl) ?_
            refine lv_iconst hx hb (n := 1) (v := iI 1) (by decide +kernel) rfl ?_
            refine lz_icmp_ne hx hb (a := (-1)) (b := 1) (off := 7) (tgt := 291) (by decide +kernel) (by decide) ⟨by decide, by decide⟩ ⟨by decide, by decide⟩ (fun _ => ?_) (fun h9 => absurd (by decide) h9)
            refine lv_iconst hx hb (n := 0) (v := iI 0) (by decide +kernel) rfl ?_
            refine lk_callH (x := 208) (rest := []) (as := [.ref (ad 0), .int (iI ((j : Int) / 4)), .int (iI ((j : Int) / 2 % 2)), .int (iI 0)]) (n := 4) F hw hl.1 (M_gainN_0 (X := [(q1, aI cA 0 2 (g1)), (q2, aI cA 0 2 (g2)), (q3, aI cA 3 N (g3))]) F.l0 C rfl hB hf hr (by omega)) (lr58 24 rfl) (lr58 25 rfl) (lr58 26 rfl) (lr58 8 rfl) ⟨by decide, by decide, by decide +kernel⟩ rfl ⟨Nat.le_of_ble_eq_true rfl, Nat.le_of_ble_eq_true rfl, (by show _ ≤ 1400; omega), (by show _ ≤ 8600; omega)⟩ (Nat.le_of_ble_eq_true rfl) (by decide +kernel) rfl (fun v9 V9 hG H locs hw => ?_)
            obtain ⟨rfl, rfl⟩ := hG
            refine W.eq (g2 := F0 m 295 ls [.int (iI (-13))]) rfl ?_
            refine lv_bipush hx hb (n := (-13)) (v := iI (-13)) (by decide +kernel) (by decide) ?_
            refine lz_icmp_ne hx hb (a := (-13)) (b := (-13)) (off := 7) (tgt := 304) (by decide +kernel) (by decide) ⟨by decide, by decide⟩ ⟨by decide, by decide⟩ (fun h9 => absurd h9 (by decide)) (fun _ => ?_)
            refine lv_iconst hx hb (n := 1) (v := iI 1) (by decide +kernel) rfl ?_
            refine lv_goto hx hb (off := 4) (tgt := 305) (by decide +kernel) (by decide) ?_
            refine lv_istore hx hb (i := 12) (lv' := [(12, .int (iI 1)), (11, .int (iI (1100 + (cel (τ 4) 108)))), (10, .int (iI (hnd (τ 4) ((j : Int) / 4) ((j : Int) / 2 % 2) (-1)))), (9, .int (iI (cel (τ 4) (0 + ((j : Int) / 4) * 6 + 0)))), (8, .int (iI (-1))), (7, .int (iI ((j : Int) / 2 % 2))), (6, .int (iI ((j : Int) / 4))), (5, .int (iI (j : Int))), (4, .ref q3), (3, .ref q2), (2, .ref q1), (1, .int (iI (cel (τ 4) 107))), (0, .ref (ad 0))]) (by decide +kernel) hl (by decide) rfl (fun ls hl => ?_)
            refine lv_goto hx hb (off := 117) (tgt := 424) (by decide +kernel) (by decide) ?_
            refine lv_iload hx hb (i := 12) (x := iI 1) (by decide +kernel) (lv_at hl 0 rfl) ?_
            refine lz_if_ne hx hb (a := 1) (off := 5) (tgt := 431) (by decide +kernel) (by decide) ⟨by decide, by decide⟩ (fun _ => ?_) (fun h9 => absurd (by decide) h9)
            refine lv_iinc hx hb (i := 5) (n := 1) (v := iI ((j : Int) + 1)) (lv' := [(5, .int (iI ((j : Int) + 1))), (12, .int (iI 1)), (11, .int (iI (1100 + (cel (τ 4) 108)))), (10, .int (iI (hnd (τ 4) ((j : Int) / 4) ((j : Int) / 2 % 2) (-1)))), (9, .int (iI (cel (τ 4) (0 + ((j : Int) / 4) * 6 + 0)))), (8, .int (iI (-1))), (7, .int (iI ((j : Int) / 2 % 2))), (6, .int (iI ((j : Int) / 4))), (4, .ref q3), (3, .ref q2), (2, .ref q1), (1, .int (iI (cel (τ 4) 107))), (0, .ref (ad 0))]) (by decide +kernel) hl (k := 7) rfl (iI_add _ _) (by decide) rfl (fun ls hl => ?_)
            refine lv_goto hx hb (off := (-412)) (tgt := 22) (by decide +kernel) (by decide) ?_
            exact ih (j + 1) _ g1 g2 g3 ls _ _ _ _ (by omega) (by omega) hg1 hg2 hg3 (by omega) (by omega) (lv_sub hl [0, 8, 9, 10, 11, 12] rfl) hw
          · have hocn : ocn (τ 4) ((j : Int) / 4) ((j : Int) / 2 % 2) (-1) = oco (τ 4) ((j : Int) / 4) ((j : Int) / 2 % 2) (-1) := if_pos (by omega)
            by_cases hok : ¬ oco (τ 4) ((j : Int) / 4) ((j : Int) / 2 % 2) (-1) ≤ 3
            ·
              refine lv_iload hx hb (i := 9) (x := iI (cel (τ 4) (0 + ((j : Int) / 4) * 6 + 0))) (by decide +kernel) (lv_at hl 1 rfl) ?_
              refine lv_aload_n hx hb (k := 0) (i := 0) (x := ad 0) (by decide +kernel) rfl (lv_at hl 10 rfl) ?_
              refine fl_call (d := 6) (j := m7_turn) (as := []) (X := [(q1, aI cA 0 2 (g1)), (q2, aI cA 0 2 (g2)), (q3, aI cA 3 N (g3))]) (x := 200) (rest := [.int (iI (cel (τ 4) (0 + ((j : Int) / 4) * 6 + 0)))]) F hw hl.1 (c_trn (τ := τ) rfl) (by decide) rfl rfl (lr58 30 rfl) (lr58 31 rfl) (lr58 32 rfl) ⟨Nat.le_of_ble_eq_true rfl, Nat.le_of_ble_eq_true rfl, (by show _ ≤ 1400; omega), (by show _ ≤ 8600; omega)⟩ (Nat.le_of_ble_eq_true rfl) (by decide +kernel) rfl (fun E9 τ9 e9 => by cases e9) (fun v9 τ9 e9 H locs hw => ?_)
              cases e9
              refine W.eq (g2 := F0 m 151 ls [.int (iI (cel (τ 4) 108)), .int (iI (cel (τ 4) (0 + ((j : Int) / 4) * 6 + 0)))]) rfl ?_
              refine lz_icmp_ne hx hb (a := (cel (τ 4) (0 + ((j : Int) / 4) * 6 + 0))) (b := (cel (τ 4) 108)) (off := 8) (tgt := 159) (by decide +kernel) (by decide) ⟨by omega, by omega⟩ ⟨by omega, by omega⟩ (fun h9 => absurd h9 (by omega)) (fun _ => ?_)
              refine lv_iload hx hb (i := 10) (x := iI (hnd (τ 4) ((j : Int) / 4) ((j : Int) / 2 % 2) (-1))) (by decide +kernel) (lv_at hl 0 rfl) ?_
              refine lv_goto hx hb (off := 11) (tgt := 167) (by decide +kernel) (by decide) ?_
              refine lv_istore hx hb (i := 11) (lv' := [(11, .int (iI (hnd (τ 4) ((j : Int) / 4) ((j : Int) / 2 % 2) (-1)))), (10, .int (iI (hnd (τ 4) ((j : Int) / 4) ((j : Int) / 2 % 2) (-1)))), (9, .int (iI (cel (τ 4) (0 + ((j : Int) / 4) * 6 + 0)))), (8, .int (iI (-1))), (7, .int (iI ((j : Int) / 2 % 2))), (6, .int (iI ((j : Int) / 4))), (5, .int (iI (j : Int))), (4, .ref q3), (3, .ref q2), (2, .ref q1), (1, .int (iI (cel (τ 4) 107))), (0, .ref (ad 0))]) (by decide +kernel) hl (by decide) rfl (fun ls hl => ?_)
              refine lv_iload hx hb (i := 11) (x := iI (hnd (τ 4) ((j : Int) / 4) ((j : Int) / 2 % 2) (-1))) (by decide +kernel) (lv_at hl 0 rfl) ?_
              refine lz_if_le hx hb (a := (hnd (τ 4) ((j : Int) / 4) ((j : Int) / 2 % 2) (-1))) (off := 139) (tgt := 310) (by decide +kernel) (by decide) ⟨by omega, by omega⟩ (fun h9 => absurd h9 (by omega)) (fun _ => ?_)
              refine lv_aload_n hx hb (k := 0) (i := 0) (x := ad 0) (by decide +kernel) rfl (lv_at hl 11 rfl) ?_
              refine lv_iload hx hb (i := 6) (x := iI ((j : Int) / 4)) (by decide +kernel) (lv_at hl 5 rfl) ?_
              refine lv_iload hx hb (i := 7) (x := iI ((j : Int) / 2 % 2)) (by decide +kernel) (lv_at hl 4 rfl) ?_
              refine lv_iload hx hb (i := 8) (x := iI (-1)) (by decide +kernel) (lv_at hl 3 rfl) ?_
              refine lv_iconst hx hb (n := 1) (v := iI 1) (by decide +kernel) rfl ?_
              refine lz_icmp_ne hx hb (a := (-1)) (b := 1) (off := 7) (tgt := 189) (by decide +kernel) (by decide) ⟨by decide, by decide⟩ ⟨by decide, by decide⟩ (fun _ => ?_) (fun h9 => absurd (by decide) h9)
              refine lv_iconst hx hb (n := 0) (v := iI 0) (by decide +kernel) rfl ?_
              refine lk_callH (x := 158) (rest := []) (as := [.ref (ad 0), .int (iI ((j : Int) / 4)), .int (iI ((j : Int) / 2 % 2)), .int (iI 0)]) (n := 4) F hw hl.1 ((N_would_0 (X := [(q1, aI cA 0 2 (g1)), (q2, aI cA 0 2 (g2)), (q3, aI cA 3 N (g3))]) F.l0 hS rfl hf hr).to (k' := 0) (by rw [hocn, if_neg (by omega)])) (lr58 15 rfl) (lr58 16 rfl) (lr58 17 rfl) (lr58 8 rfl) ⟨by decide, by decide, by decide +kernel⟩ rfl ⟨Nat.le_of_ble_eq_true rfl, Nat.le_of_ble_eq_true rfl, (by show _ ≤ 1400; omega), (by show _ ≤ 8600; omega)⟩ (Nat.le_of_ble_eq_true rfl) (by decide +kernel) rfl (fun v9 V9 hG H locs hw => ?_)
              obtain ⟨rfl, rfl⟩ := hG
              refine W.eq (g2 := F0 m 193 ls [.int (iI 0)]) rfl ?_
              refine lz_if_ne hx hb (a := 0) (off := 111) (tgt := 304) (by decide +kernel) (by decide) ⟨by decide, by decide⟩ (fun h9 => absurd h9 (by decide)) (fun _ => ?_)
              refine lv_aload_n hx hb (k := 0) (i := 0) (x := ad 0) (by decide +kernel) rfl (lv_at hl 11 rfl) ?_
              refine lv_iload hx hb (i := 6) (x := iI ((j : Int) / 4)) (by decide +kernel) (lv_at hl 5 rfl) ?_
              refine lv_iload hx hb (i := 7) (x := iI ((j : Int) / 2 % 2)) (by decide +kernel) (lv_at hl 4 rfl) ?_
              refine lv_iload hx hb (i := 8) (x := iI (-1)) (by decide +kernel) (lv_at hl 3 rfl) ?_
              refine lv_iconst hx hb (n := 1) (v := iI 1) (by decide +kernel) rfl ?_
              refine lz_icmp_ne hx hb (a := (-1)) (b := 1) (off := 7) (tgt := 211) (by decide +kernel) (by decide) ⟨by decide, by decide⟩ ⟨by decide, by decide⟩ (fun _ => ?_) (fun h9 => absurd (by decide) h9)
              refine lv_iconst hx hb (n := 0) (v := iI 0) (by decide +kernel) rfl ?_
              refine lv_iconst hx hb (n := 0) (v := iI 0) (by decide +kernel) rfl ?_
              refine lk_callH (x := 203) (rest := []) (as := [.ref (ad 0), .int (iI ((j : Int) / 4)), .int (iI ((j : Int) / 2 % 2)), .int (iI 0), .int (iI 0)]) (n := 5) F hw hl.1 ((N_why_0_0 (X := [(q1, aI cA 0 2 (g1)), (q2, aI cA 0 2 (g2)), (q3, aI cA 3 N (g3))]) F.l0 hS rfl hf hr).to (k' := oco (τ 4) ((j : Int) / 4) ((j : Int) / 2 % 2) (-1)) (by rw [hocn, if_neg (by omega)])) (lr58 18 rfl) (lr58 19 rfl) (lr58 20 rfl) (lr58 8 rfl) ⟨by decide, by decide, by decide +kernel⟩ rfl ⟨Nat.le_of_ble_eq_true rfl, Nat.le_of_ble_eq_true rfl, (by show _ ≤ 1400; omega), (by show _ ≤ 8600; omega)⟩ (Nat.le_of_ble_eq_true rfl) (by decide +kernel) rfl (fun v9 V9 hG H locs hw => ?_)
              obtain ⟨rfl, rfl⟩ := hG
              refine W.eq (g2 := F0 m 216 ls [.int (iI (oco (τ 4) ((j : Int) / 4) ((j : Int) / 2 % 2) (-1)))]) rfl ?_
              refine lv_iload hx hb (i := 11) (x := iI (hnd (τ 4) ((j : Int) / 4) ((j : Int) / 2 % 2) (-1))) (by decide +kernel) (lv_at hl 0 rfl) ?_
              refine lv_bipush hx hb (n := 100) (v := iI 100) (by decide +kernel) (by decide) ?_
              refine lz_idiv hx hb (a := (hnd (τ 4) ((j : Int) / 4) ((j : Int) / 2 % 2) (-1))) (b := 100) (by decide +kernel) ⟨by omega, by omega, by omega, by omega⟩ ?_
              refine lz_icmp_ne hx hb (a := (oco (τ 4) ((j : Int) / 4) ((j : Int) / 2 % 2) (-1))) (b := ((hnd (τ 4) ((j : Int) / 4) ((j : Int) / 2 % 2) (-1)) / 100)) (off := 83) (tgt := 304) (by decide +kernel) (by decide) ⟨by omega, by omega⟩ ⟨by omega, by omega⟩ (fun h9 => absurd h9 (by omega)) (fun _ => ?_)
              refine lv_aload_n hx hb (k := 0) (i := 0) (x := ad 0) (by decide +kernel) rfl (lv_at hl 11 rfl) ?_
              refine lv_iload hx hb (i := 6) (x := iI ((j : Int) / 4)) (by decide +kernel) (lv_at hl 5 rfl) ?_
              refine lv_iload hx hb (i := 7) (x := iI ((j : Int) / 2 % 2)) (by decide +kernel) (lv_at hl 4 rfl) ?_
              refine lv_iload hx hb (i := 8) (x := iI (-1)) (by decide +kernel) (lv_at hl 3 rfl) ?_
              refine lv_iconst hx hb (n := 1) (v := iI 1) (by decide +kernel) rfl ?_
              refine lz_icmp_ne hx hb (a := (-1)) (b := 1) (off := 7) (tgt := 239) (by decide +kernel) (by decide) ⟨by decide, by decide⟩ ⟨by decide, by decide⟩ (fun _ => ?_) (fun h9 => absurd (by decide) h9)
              refine lv_iconst hx hb (n := 0) (v := iI 0) (by decide +kernel) rfl ?_
              refine lv_iconst hx hb (n := 1) (v := iI 1) (by decide +kernel) rfl ?_
              refine lk_callH (x := 203) (rest := []) (as := [.ref (ad 0), .int (iI ((j : Int) / 4)), .int (iI ((j : Int) / 2 % 2)), .int (iI 0), .int (iI 1)]) (n := 5) F hw hl.1 ((N_why_0_1 (X := [(q1, aI cA 0 2 (g1)), (q2, aI cA 0 2 (g2)), (q3, aI cA 3 N (g3))]) F.l0 hS rfl hf hr).to (k' := dtl (τ 4) (oco (τ 4) ((j : Int) / 4) ((j : Int) / 2 % 2) (-1)) ((j : Int) / 4) ((j : Int) / 2 % 2) (-1)) (by rw [hocn, if_neg (by omega)])) (lr58 18 rfl) (lr58 19 rfl) (lr58 20 rfl) (lr58 8 rfl) ⟨by decide, by decide, by decide +kernel⟩ rfl ⟨Nat.le_of_ble_eq_true rfl, Nat.le_of_ble_eq_true rfl, (by show _ ≤ 1400; omega), (by show _ ≤ 8600; omega)⟩ (Nat.le_of_ble_eq_true rfl) (by decide +kernel) rfl (fun v9 V9 hG H locs hw => ?_)
              obtain ⟨rfl, rfl⟩ := hG
              refine W.eq (g2 := F0 m 244 ls [.int (iI (dtl (τ 4) (oco (τ 4) ((j : Int) / 4) ((j : Int) / 2 % 2) (-1)) ((j : Int) / 4) ((j : Int) / 2 % 2) (-1)))]) rfl ?_
              refine lv_iload hx hb (i := 11) (x := iI (hnd (τ 4) ((j : Int) / 4) ((j : Int) / 2 % 2) (-1))) (by decide +kernel) (lv_at hl 0 rfl) ?_
              refine lv_bipush hx hb (n := 100) (v := iI 100) (by decide +kernel) (by decide) ?_
              refine lz_irem hx hb (a := (hnd (τ 4) ((j : Int) / 4) ((j : Int) / 2 % 2) (-1))) (b := 100) (by decide +kernel) ⟨by omega, by omega, by omega, by omega⟩ ?_
              refine lz_icmp_ne hx hb (a := (dtl (τ 4) (oco (τ 4) ((j : Int) / 4) ((j : Int) / 2 % 2) (-1)) ((j : Int) / 4) ((j : Int) / 2 % 2) (-1))) (b := ((hnd (τ 4) ((j : Int) / 4) ((j : Int) / 2 % 2) (-1)) % 100)) (off := 55) (tgt := 304) (by decide +kernel) (by decide) ⟨by omega, by omega⟩ ⟨by omega, by omega⟩ (fun h9 => absurd h9 (by omega)) (fun _ => ?_)
              refine lv_aload_n hx hb (k := 0) (i := 0) (x := ad 0) (by decide +kernel) rfl (lv_at hl 11 rfl) ?_
              refine lv_iload hx hb (i := 6) (x := iI ((j : Int) / 4)) (by decide +kernel) (lv_at hl 5 rfl) ?_
              refine lv_iload hx hb (i := 7) (x := iI ((j : Int) / 2 % 2)) (by decide +kernel) (lv_at hl 4 rfl) ?_
              refine lv_iload hx hb (i := 8) (x := iI (-1)) (by decide +kernel) (lv_at hl 3 rfl) ?_
              refine lv_iconst hx hb (n := 1) (v := iI 1) (by decide +kernel) rfl ?_
              refine lz_icmp_ne hx hb (a := (-1)) (b := 1) (off := 7) (tgt := 267) (by decide +kernel) (by decide) ⟨by decide, by decide⟩ ⟨by decide, by decide⟩ (fun _ => ?_) (fun h9 => absurd (by decide) h9)
              refine lv_iconst hx hb (n := 0) (v := iI 0) (by decide +kernel) rfl ?_
              refine lk_callH (x := 206) (rest := []) (as := [.ref (ad 0), .int (iI ((j : Int) / 4)), .int (iI ((j : Int) / 2 % 2)), .int (iI 0)]) (n := 4) F hw hl.1 ((N_to_0 (X := [(q1, aI cA 0 2 (g1)), (q2, aI cA 0 2 (g2)), (q3, aI cA 3 N (g3))]) F.l0 hS rfl hf hr).to (k' := (-13)) (by rw [hocn, if_neg (by omega)])) (lr58 21 rfl) (lr58 22 rfl) (lr58 23 rfl) (lr58 8 rfl) ⟨by decide, by decide, by decide +kernel⟩ rfl ⟨Nat.le_of_ble_eq_true rfl, Nat.le_of_ble_eq_true rfl, (by show _ ≤ 1400; omega), (by show _ ≤ 8600; omega)⟩ (Nat.le_of_ble_eq_true rfl) (by decide +kernel) rfl (fun v9 V9 hG H locs hw => ?_)
              obtain ⟨rfl, rfl⟩ := hG
              refine W.eq (g2 := F0 m 271 ls [.int (iI (-13))]) rfl ?_
              refine lv_bipush hx hb (n := (-13)) (v := iI (-13)) (by decide +kernel) (by decide) ?_
              refine lz_icmp_ne hx hb (a := (-13)) (b := (-13)) (off := 31) (tgt := 304) (by decide +kernel) (by decide) ⟨by decide, by decide⟩ ⟨by decide, by decide⟩ (fun h9 => absurd h9 (by decide)) (fun _ => ?_)
              refine lv_aload_n hx hb (k := 0) (i := 0) (x := ad 0) (by decide +kernel) rfl (lv_at hl 11 rfl) ?_
              refine lv_iload hx hb (i := 6) (x := iI ((j : Int) / 4)) (by decide +kernel) (lv_at hl 5 rfl) ?_
              refine lv_iload hx hb (i := 7) (x := iI ((j : Int) / 2 % 2)) (by decide +kernel) (lv_at hl 4 rfl) ?_
              refine lv_iload hx hb (i := 8) (x := iI (-1)) (by decide +kernel) (lv_at hl 3 rfl) ?_
              refine lv_iconst hx hb (n := 1) (v := iI 1) (by decide +kernel) rfl ?_
              refine lz_icmp_ne hx hb (a := (-1)) (b := 1) (off := 7) (tgt := 291) (by decide +kernel) (by decide) ⟨by decide, by decide⟩ ⟨by decide, by decide⟩ (fun _ => ?_) (fun h9 => absurd (by decide) h9)
              refine lv_iconst hx hb (n := 0) (v := iI 0) (by decide +kernel) rfl ?_
              refine lk_callH (x := 208) (rest := []) (as := [.ref (ad 0), .int (iI ((j : Int) / 4)), .int (iI ((j : Int) / 2 % 2)), .int (iI 0)]) (n := 4) F hw hl.1 (M_gainN_0 (X := [(q1, aI cA 0 2 (g1)), (q2, aI cA 0 2 (g2)), (q3, aI cA 3 N (g3))]) F.l0 C rfl hB hf hr (by omega)) (lr58 24 rfl) (lr58 25 rfl) (lr58 26 rfl) (lr58 8 rfl) ⟨by decide, by decide, by decide +kernel⟩ rfl ⟨Nat.le_of_ble_eq_true rfl, Nat.le_of_ble_eq_true rfl, (by show _ ≤ 1400; omega), (by show _ ≤ 8600; omega)⟩ (Nat.le_of_ble_eq_true rfl) (by decide +kernel) rfl (fun v9 V9 hG H locs hw => ?_)
              obtain ⟨rfl, rfl⟩ := hG
              refine W.eq (g2 := F0 m 295 ls [.int (iI (-13))]) rfl ?_
              refine lv_bipush hx hb (n := (-13)) (v := iI (-13)) (by decide +kernel) (by decide) ?_
              refine lz_icmp_ne hx hb (a := (-13)) (b := (-13)) (off := 7) (tgt := 304) (by decide +kernel) (by decide) ⟨by decide, by decide⟩ ⟨by decide, by decide⟩ (fun h9 => absurd h9 (by decide)) (fun _ => ?_)
              refine lv_iconst hx hb (n := 1) (v := iI 1) (by decide +kernel) rfl ?_
              refine lv_goto hx hb (off := 4) (tgt := 305) (by decide +kernel) (by decide) ?_
              refine lv_istore hx hb (i := 12) (lv' := [(12, .int (iI 1)), (11, .int (iI (hnd (τ 4) ((j : Int) / 4) ((j : Int) / 2 % 2) (-1)))), (10, .int (iI (hnd (τ 4) ((j : Int) / 4) ((j : Int) / 2 % 2) (-1)))), (9, .int (iI (cel (τ 4) (0 + ((j : Int) / 4) * 6 + 0)))), (8, .int (iI (-1))), (7, .int (iI ((j : Int) / 2 % 2))), (6, .int (iI ((j : Int) / 4))), (5, .int (iI (j : Int))), (4, .ref q3), (3, .ref q2), (2, .ref q1), (1, .int (iI (cel (τ 4) 107))), (0, .ref (ad 0))]) (by decide +kernel) hl (by decide) rfl (fun ls hl => ?_)
              refine lv_goto hx hb (off := 117) (tgt := 424) (by decide +kernel) (by decide) ?_
              refine lv_iload hx hb (i := 12) (x := iI 1) (by decide +kernel) (lv_at hl 0 rfl) ?_
              refine lz_if_ne hx hb (a := 1) (off := 5) (tgt := 431) (by decide +kernel) (by decide) ⟨by decide, by decide⟩ (fun _ => ?_) (fun h9 => absurd (by decide) h9)
              refine lv_iinc hx hb (i := 5) (n := 1) (v := iI ((j : Int) + 1)) (lv' := [(5, .int (iI ((j : Int) + 1))), (12, .int (iI 1)), (11, .int (iI (hnd (τ 4) ((j : Int) / 4) ((j : Int) / 2 % 2) (-1)))), (10, .int (iI (hnd (τ 4) ((j : Int) / 4) ((j : Int) / 2 % 2) (-1)))), (9, .int (iI (cel (τ 4) (0 + ((j : Int) / 4) * 6 + 0)))), (8, .int (iI (-1))), (7, .int (iI ((j : Int) / 2 % 2))), (6, .int (iI ((j : Int) / 4))), (4, .ref q3), (3, .ref q2), (2, .ref q1), (1, .int (iI (cel (τ 4) 107))), (0, .ref (ad 0))]) (by decide +kernel) hl (k := 7) rfl (iI_add _ _) (by decide) rfl (fun ls hl => ?_)
              refine lv_goto hx hb (off := (-412)) (tgt := 22) (by decide +kernel) (by decide) ?_
              exact ih (j + 1) _ g1 g2 g3 ls _ _ _ _ (by omega) (by omega) hg1 hg2 hg3 (by omega) (by omega) (lv_sub hl [0, 8, 9, 10, 11, 12] rfl) hw
            ·
              have hg1g := @gol_1 (τ 4) ((j : Int) / 4) ((j : Int) / 2 % 2) (-1)
              have hg2g := @gol_2 (τ 4) ((j : Int) / 4) ((j : Int) / 2 % 2) (-1)
              refine lv_iload hx hb (i := 9) (x := iI (cel (τ 4) (0 + ((j : Int) / 4) * 6 + 0))) (by decide +kernel) (lv_at hl 1 rfl) ?_
              refine lv_aload_n hx hb (k := 0) (i := 0) (x := ad 0) (by decide +kernel) rfl (lv_at hl 10 rfl) ?_
              refine fl_call (d := 6) (j := m7_turn) (as := []) (X := [(q1, aI cA 0 2 (g1)), (q2, aI cA 0 2 (g2)), (q3, aI cA 3 N (g3))]) (x := 200) (rest := [.int (iI (cel (τ 4) (0 + ((j : Int) / 4) * 6 + 0)))]) F hw hl.1 (c_trn (τ := τ) rfl) (by decide) rfl rfl (lr58 30 rfl) (lr58 31 rfl) (lr58 32 rfl) ⟨Nat.le_of_ble_eq_true rfl, Nat.le_of_ble_eq_true rfl, (by show _ ≤ 1400; omega), (by show _ ≤ 8600; omega)⟩ (Nat.le_of_ble_eq_true rfl) (by decide +kernel) rfl (fun E9 τ9 e9 => by cases e9) (fun v9 τ9 e9 H locs hw => ?_)
              cases e9
              refine W.eq (g2 := F0 m 151 ls [.int (iI (cel (τ 4) 108)), .int (iI (cel (τ 4) (0 + ((j : Int) / 4) * 6 + 0)))]) rfl ?_
              refine lz_icmp_ne hx hb (a := (cel (τ 4) (0 + ((j : Int) / 4) * 6 + 0))) (b := (cel (τ 4) 108)) (off := 8) (tgt := 159) (by decide +kernel) (by decide) ⟨by omega, by omega⟩ ⟨by omega, by omega⟩ (fun h9 => absurd h9 (by omega)) (fun _ => ?_)
              refine lv_iload hx hb (i := 10) (x := iI (hnd (τ 4) ((j : Int) / 4) ((j : Int) / 2 % 2) (-1))) (by decide +kernel) (lv_at hl 0 rfl) ?_
              refine lv_goto hx hb (off := 11) (tgt := 167) (by decide +kernel) (by decide) ?_
              refine lv_istore hx hb (i := 11) (lv' := [(11, .int (iI (hnd (τ 4) ((j : Int) / 4) ((j : Int) / 2 % 2) (-1)))), (10, .int (iI (hnd (τ 4) ((j : Int) / 4) ((j : Int) / 2 % 2) (-1)))), (9, .int (iI (cel (τ 4) (0 + ((j : Int) / 4) * 6 + 0)))), (8, .int (iI (-1))), (7, .int (iI ((j : Int) / 2 % 2))), (6, .int (iI ((j : Int) / 4))), (5, .int (iI (j : Int))), (4, .ref q3), (3, .ref q2), (2, .ref q1), (1, .int (iI (cel (τ 4) 107))), (0, .ref (ad 0))]) (by decide +kernel) hl (by decide) rfl (fun ls hl => ?_)
              refine lv_iload hx hb (i := 11) (x := iI (hnd (τ 4) ((j : Int) / 4) ((j : Int) / 2 % 2) (-1))) (by decide +kernel) (lv_at hl 0 rfl) ?_
              refine lz_if_le hx hb (a := (hnd (τ 4) ((j : Int) / 4) ((j : Int) / 2 % 2) (-1))) (off := 139) (tgt := 310) (by decide +kernel) (by decide) ⟨by omega, by omega⟩ (fun _ => ?_) (fun h9 => absurd (by omega) h9)
              refine lv_aload_n hx hb (k := 0) (i := 0) (x := ad 0) (by decide +kernel) rfl (lv_at hl 11 rfl) ?_
              refine lv_iload hx hb (i := 6) (x := iI ((j : Int) / 4)) (by decide +kernel) (lv_at hl 5 rfl) ?_
              refine lv_iload hx hb (i := 7) (x := iI ((j : Int) / 2 % 2)) (by decide +kernel) (lv_at hl 4 rfl) ?_
              refine lv_iload hx hb (i := 8) (x := iI (-1)) (by decide +kernel) (lv_at hl 3 rfl) ?_
              refine lk_call (x := 197) (rest := []) (as := [.ref (ad 0), .int (iI ((j : Int) / 4)), .int (iI ((j : Int) / 2 % 2)), .int (iI (-1))]) (n := 4) F hw hl.1 (K_kind (X := [(q1, aI cA 0 2 (g1)), (q2, aI cA 0 2 (g2)), (q3, aI cA 3 N (g3))]) (τ := τ) (f := ((j : Int) / 4)) (r := ((j : Int) / 2 % 2)) (d := (-1)) (B := B) F.l0 (by omega) (by omega) (by omega) hI (by omega)) (lr58 33 rfl) (lr58 34 rfl) (lr58 35 rfl) (lr58 8 rfl) ⟨rfl, by decide, by decide, by decide +kernel⟩ rfl ⟨Nat.le_of_ble_eq_true rfl, Nat.le_of_ble_eq_true rfl, (by show _ ≤ 1400; omega), (by show _ ≤ 8600; omega)⟩ (Nat.le_of_ble_eq_true rfl) (by decide +kernel) rfl (fun v9 V9 hG H locs hw => ?_)
              obtain ⟨rfl, rfl⟩ := hG
              refine W.eq (g2 := F0 m 320 ls [.int (iI (oco (τ 4) ((j : Int) / 4) ((j : Int) / 2 % 2) (-1)))]) rfl ?_
              refine lv_istore hx hb (i := 13) (lv' := [(13, .int (iI (oco (τ 4) ((j : Int) / 4) ((j : Int) / 2 % 2) (-1)))), (11, .int (iI (hnd (τ 4) ((j : Int) / 4) ((j : Int) / 2 % 2) (-1)))), (10, .int (iI (hnd (τ 4) ((j : Int) / 4) ((j : Int) / 2 % 2) (-1)))), (9, .int (iI (cel (τ 4) (0 + ((j : Int) / 4) * 6 + 0)))), (8, .int (iI (-1))), (7, .int (iI ((j : Int) / 2 % 2))), (6, .int (iI ((j : Int) / 4))), (5, .int (iI (j : Int))), (4, .ref q3), (3, .ref q2), (2, .ref q1), (1, .int (iI (cel (τ 4) 107))), (0, .ref (ad 0))]) (by decide +kernel) hl (by decide) rfl (fun ls hl => ?_)
              refine lv_aload_n hx hb (k := 0) (i := 0) (x := ad 0) (by decide +kernel) rfl (lv_at hl 12 rfl) ?_
              refine lv_iload hx hb (i := 6) (x := iI ((j : Int) / 4)) (by decide +kernel) (lv_at hl 6 rfl) ?_
              refine lv_iload hx hb (i := 7) (x := iI ((j : Int) / 2 % 2)) (by decide +kernel) (lv_at hl 5 rfl) ?_
              refine lv_iload hx hb (i := 8) (x := iI (-1)) (by decide +kernel) (lv_at hl 4 rfl) ?_
              refine lv_iconst hx hb (n := 1) (v := iI 1) (by decide +kernel) rfl ?_
              refine lz_icmp_ne hx hb (a := (-1)) (b := 1) (off := 7) (tgt := 337) (by decide +kernel) (by decide) ⟨by decide, by decide⟩ ⟨by decide, by decide⟩ (fun _ => ?_) (fun h9 => absurd (by decide) h9)
              refine lv_iconst hx hb (n := 0) (v := iI 0) (by decide +kernel) rfl ?_
              refine lk_callH (x := 158) (rest := []) (as := [.ref (ad 0), .int (iI ((j : Int) / 4)), .int (iI ((j : Int) / 2 % 2)), .int (iI 0)]) (n := 4) F hw hl.1 ((N_would_0 (X := [(q1, aI cA 0 2 (g1)), (q2, aI cA 0 2 (g2)), (q3, aI cA 3 N (g3))]) F.l0 hS rfl hf hr).to (k' := oco (τ 4) ((j : Int) / 4) ((j : Int) / 2 % 2) (-1)) (by rw [hocn, if_pos (by omega)])) (lr58 15 rfl) (lr58 16 rfl) (lr58 17 rfl) (lr58 8 rfl) ⟨by decide, by decide, by decide +kernel⟩ rfl ⟨Nat.le_of_ble_eq_true rfl, Nat.le_of_ble_eq_true rfl, (by show _ ≤ 1400; omega), (by show _ ≤ 8600; omega)⟩ (Nat.le_of_ble_eq_true rfl) (by decide +kernel) rfl (fun v9 V9 hG H locs hw => ?_)
              obtain ⟨rfl, rfl⟩ := hG
              refine W.eq (g2 := F0 m 341 ls [.int (iI (oco (τ 4) ((j : Int) / 4) ((j : Int) / 2 % 2) (-1)))]) rfl ?_
              refine lv_iload hx hb (i := 13) (x := iI (oco (τ 4) ((j : Int) / 4) ((j : Int) / 2 % 2) (-1))) (by decide +kernel) (lv_at hl 0 rfl) ?_
              refine lz_icmp_ne hx hb (a := (oco (τ 4) ((j : Int) / 4) ((j : Int) / 2 % 2) (-1))) (b := (oco (τ 4) ((j : Int) / 4) ((j : Int) / 2 % 2) (-1))) (off := 78) (tgt := 421) (by decide +kernel) (by decide) ⟨by omega, by omega⟩ ⟨by omega, by omega⟩ (fun h9 => absurd h9 (by omega)) (fun _ => ?_)
              refine lv_aload_n hx hb (k := 0) (i := 0) (x := ad 0) (by decide +kernel) rfl (lv_at hl 12 rfl) ?_
              refine lv_iload hx hb (i := 6) (x := iI ((j : Int) / 4)) (by decide +kernel) (lv_at hl 6 rfl) ?_
              refine lv_iload hx hb (i := 7) (x := iI ((j : Int) / 2 % 2)) (by decide +kernel) (lv_at hl 5 rfl) ?_
              refine lv_iload hx hb (i := 8) (x := iI (-1)) (by decide +kernel) (lv_at hl 4 rfl) ?_
              refine lv_iconst hx hb (n := 1) (v := iI 1) (by decide +kernel) rfl ?_
              refine lz_icmp_ne hx hb (a := (-1)) (b := 1) (off := 7) (tgt := 361) (by decide +kernel) (by decide) ⟨by decide, by decide⟩ ⟨by decide, by decide⟩ (fun _ => ?_) (fun h9 => absurd (by decide) h9)
              refine lv_iconst hx hb (n := 0) (v := iI 0) (by decide +kernel) rfl ?_
              refine lv_iconst hx hb (n := 1) (v := iI 1) (by decide +kernel) rfl ?_
              refine lk_callH (x := 203) (rest := []) (as := [.ref (ad 0), .int (iI ((j : Int) / 4)), .int (iI ((j : Int) / 2 % 2)), .int (iI 0), .int (iI 1)]) (n := 5) F hw hl.1 ((N_why_0_1 (X := [(q1, aI cA 0 2 (g1)), (q2, aI cA 0 2 (g2)), (q3, aI cA 3 N (g3))]) F.l0 hS rfl hf hr).to (k' := (-13)) (by rw [hocn, if_pos (by omega)])) (lr58 18 rfl) (lr58 19 rfl) (lr58 20 rfl) (lr58 8 rfl) ⟨by decide, by decide, by decide +kernel⟩ rfl ⟨Nat.le_of_ble_eq_true rfl, Nat.le_of_ble_eq_true rfl, (by show _ ≤ 1400; omega), (by show _ ≤ 8600; omega)⟩ (Nat.le_of_ble_eq_true rfl) (by decide +kernel) rfl (fun v9 V9 hG H locs hw => ?_)
              obtain ⟨rfl, rfl⟩ := hG
              refine W.eq (g2 := F0 m 366 ls [.int (iI (-13))]) rfl ?_
              refine lv_bipush hx hb (n := (-13)) (v := iI (-13)) (by decide +kernel) (by decide) ?_
              refine lz_icmp_ne hx hb (a := (-13)) (b := (-13)) (off := 53) (tgt := 421) (by decide +kernel) (by decide) ⟨by decide, by decide⟩ ⟨by decide, by decide⟩ (fun h9 => absurd h9 (by decide)) (fun _ => ?_)
              refine lv_aload_n hx hb (k := 0) (i := 0) (x := ad 0) (by decide +kernel) rfl (lv_at hl 12 rfl) ?_
              refine lv_iload hx hb (i := 6) (x := iI ((j : Int) / 4)) (by decide +kernel) (lv_at hl 6 rfl) ?_
              refine lv_iload hx hb (i := 7) (x := iI ((j : Int) / 2 % 2)) (by decide +kernel) (lv_at hl 5 rfl) ?_
              refine lv_iload hx hb (i := 8) (x := iI (-1)) (by decide +kernel) (lv_at hl 4 rfl) ?_
              refine lv_iconst hx hb (n := 1) (v := iI 1) (by decide +kernel) rfl ?_
              refine lz_icmp_ne hx hb (a := (-1)) (b := 1) (off := 7) (tgt := 386) (by decide +kernel) (by decide) ⟨by decide, by decide⟩ ⟨by decide, by decide⟩ (fun _ => ?_) (fun h9 => absurd (by decide) h9)
              refine lv_iconst hx hb (n := 0) (v := iI 0) (by decide +kernel) rfl ?_
              refine lk_callH (x := 206) (rest := []) (as := [.ref (ad 0), .int (iI ((j : Int) / 4)), .int (iI ((j : Int) / 2 % 2)), .int (iI 0)]) (n := 4) F hw hl.1 ((N_to_0 (X := [(q1, aI cA 0 2 (g1)), (q2, aI cA 0 2 (g2)), (q3, aI cA 3 N (g3))]) F.l0 hS rfl hf hr).to (k' := gol (τ 4) ((j : Int) / 4) ((j : Int) / 2 % 2) (-1)) (by rw [hocn, if_pos (by omega)])) (lr58 21 rfl) (lr58 22 rfl) (lr58 23 rfl) (lr58 8 rfl) ⟨by decide, by decide, by decide +kernel⟩ rfl ⟨Nat.le_of_ble_eq_true rfl, Nat.le_of_ble_eq_true rfl, (by show _ ≤ 1400; omega), (by show _ ≤ 8600; omega)⟩ (Nat.le_of_ble_eq_true rfl) (by decide +kernel) rfl (fun v9 V9 hG H locs hw => ?_)
              obtain ⟨rfl, rfl⟩ := hG
              refine W.eq (g2 := F0 m 390 ls [.int (iI (gol (τ 4) ((j : Int) / 4) ((j : Int) / 2 % 2) (-1)))]) rfl ?_
              refine lv_aload_n hx hb (k := 0) (i := 0) (x := ad 0) (by decide +kernel) rfl (lv_at hl 12 rfl) ?_
              refine lv_iload hx hb (i := 6) (x := iI ((j : Int) / 4)) (by decide +kernel) (lv_at hl 6 rfl) ?_
              refine lv_iload hx hb (i := 7) (x := iI ((j : Int) / 2 % 2)) (by decide +kernel) (lv_at hl 5 rfl) ?_
              refine lk_call (x := 166) (rest := [.int (iI (gol (τ 4) ((j : Int) / 4) ((j : Int) / 2 % 2) (-1)))]) (as := [.ref (ad 0), .int (iI ((j : Int) / 4)), .int (iI ((j : Int) / 2 % 2))]) (n := 3) F hw hl.1 (K_placeOf (X := [(q1, aI cA 0 2 (g1)), (q2, aI cA 0 2 (g2)), (q3, aI cA 3 N (g3))]) (τ := τ) (f := ((j : Int) / 4)) (r := ((j : Int) / 2 % 2)) (B := B) F.l0 (by omega) (by omega) hS) (lr58 36 rfl) (lr58 37 rfl) (lr58 38 rfl) (lr58 8 rfl) ⟨rfl, by decide, by decide, by decide +kernel⟩ rfl ⟨Nat.le_of_ble_eq_true rfl, Nat.le_of_ble_eq_true rfl, (by show _ ≤ 1400; omega), (by show _ ≤ 8600; omega)⟩ (Nat.le_of_ble_eq_true rfl) (by decide +kernel) rfl (fun v9 V9 hG H locs hw => ?_)
              obtain ⟨rfl, rfl⟩ := hG
              refine W.eq (g2 := F0 m 398 ls [.int (iI (cel (τ 4) (0 + ((j : Int) / 4) * 6 + (1 + ((j : Int) / 2 % 2))))), .int (iI (gol (τ 4) ((j : Int) / 4) ((j : Int) / 2 % 2) (-1)))]) rfl ?_
              refine lv_iload hx hb (i := 13) (x := iI (oco (τ 4) ((j : Int) / 4) ((j : Int) / 2 % 2) (-1))) (by decide +kernel) (lv_at hl 0 rfl) ?_
              refine lv_iconst hx hb (n := 1) (v := iI 1) (by decide +kernel) rfl ?_
              refine lz_icmp_ne hx hb (a := (oco (τ 4) ((j : Int) / 4) ((j : Int) / 2 % 2) (-1))) (b := 1) (off := 8) (tgt := 409) (by decide +kernel) (by decide) ⟨by omega, by omega⟩ ⟨by decide, by decide⟩ (fun h8 => ?_) (fun h8 => ?_)
              ·
                refine lv_iconst hx hb (n := 2) (v := iI 2) (by decide +kernel) rfl ?_
                refine lv_iload hx hb (i := 8) (x := iI (-1)) (by decide +kernel) (lv_at hl 4 rfl) ?_
                refine lz_imul hx hb (a := 2) (b := (-1)) (by decide +kernel) ?_
                refine W.eq (g2 := F0 m 413 ls [.int (iI (-2)), .int (iI (cel (τ 4) (0 + ((j : Int) / 4) * 6 + (1 + ((j : Int) / 2 % 2))))), .int (iI (gol (τ 4) ((j : Int) / 4) ((j : Int) / 2 % 2) (-1)))]) rfl ?_
                refine lz_iadd hx hb (a := (cel (τ 4) (0 + ((j : Int) / 4) * 6 + (1 + ((j : Int) / 2 % 2))))) (b := (-2)) (by decide +kernel) ?_
                refine lz_icmp_ne hx hb (a := (gol (τ 4) ((j : Int) / 4) ((j : Int) / 2 % 2) (-1))) (b := ((cel (τ 4) (0 + ((j : Int) / 4) * 6 + (1 + ((j : Int) / 2 % 2)))) + (-2))) (off := 7) (tgt := 421) (by decide +kernel) (by decide) ⟨by omega, by omega⟩ ⟨by omega, by omega⟩ (fun h9 => absurd h9 (by omega)) (fun _ => ?_)
                refine lv_iconst hx hb (n := 1) (v := iI 1) (by decide +kernel) rfl ?_
                refine lv_goto hx hb (off := 4) (tgt := 422) (by decide +kernel) (by decide) ?_
                refine lv_istore hx hb (i := 12) (lv' := [(12, .int (iI 1)), (13, .int (iI (oco (τ 4) ((j : Int) / 4) ((j : Int) / 2 % 2) (-1)))), (11, .int (iI (hnd (τ 4) ((j : Int) / 4) ((j : Int) / 2 % 2) (-1)))), (10, .int (iI (hnd (τ 4) ((j : Int) / 4) ((j : Int) / 2 % 2) (-1)))), (9, .int (iI (cel (τ 4) (0 + ((j : Int) / 4) * 6 + 0)))), (8, .int (iI (-1))), (7, .int (iI ((j : Int) / 2 % 2))), (6, .int (iI ((j : Int) / 4))), (5, .int (iI (j : Int))), (4, .ref q3), (3, .ref q2), (2, .ref q1), (1, .int (iI (cel (τ 4) 107))), (0, .ref (ad 0))]) (by decide +kernel) hl (by decide) rfl (fun ls hl => ?_)
                refine lv_iload hx hb (i := 12) (x := iI 1) (by decide +kernel) (lv_at hl 0 rfl) ?_
                refine lz_if_ne hx hb (a := 1) (off := 5) (tgt := 431) (by decide +kernel) (by decide) ⟨by decide, by decide⟩ (fun _ => ?_) (fun h9 => absurd (by decide) h9)
                refine lv_iinc hx hb (i := 5) (n := 1) (v := iI ((j : Int) + 1)) (lv' := [(5, .int (iI ((j : Int) + 1))), (12, .int (iI 1)), (13, .int (iI (oco (τ 4) ((j : Int) / 4) ((j : Int) / 2 % 2) (-1)))), (11, .int (iI (hnd (τ 4) ((j : Int) / 4) ((j : Int) / 2 % 2) (-1)))), (10, .int (iI (hnd (τ 4) ((j : Int) / 4) ((j : Int) / 2 % 2) (-1)))), (9, .int (iI (cel (τ 4) (0 + ((j : Int) / 4) * 6 + 0)))), (8, .int (iI (-1))), (7, .int (iI ((j : Int) / 2 % 2))), (6, .int (iI ((j : Int) / 4))), (4, .ref q3), (3, .ref q2), (2, .ref q1), (1, .int (iI (cel (τ 4) 107))), (0, .ref (ad 0))]) (by decide +kernel) hl (k := 8) rfl (iI_add _ _) (by decide) rfl (fun ls hl => ?_)
                refine lv_goto hx hb (off := (-412)) (tgt := 22) (by decide +kernel) (by decide) ?_
                exact ih (j + 1) _ g1 g2 g3 ls _ _ _ _ (by omega) (by omega) hg1 hg2 hg3 (by omega) (by omega) (lv_sub hl [0, 9, 10, 11, 12, 13] rfl) hw
              ·
                refine lv_iload hx hb (i := 8) (x := iI (-1)) (by decide +kernel) (lv_at hl 4 rfl) ?_
                refine lv_goto hx hb (off := 7) (tgt := 413) (by decide +kernel) (by decide) ?_
                refine lz_iadd hx hb (a := (cel (τ 4) (0 + ((j : Int) / 4) * 6 + (1 + ((j : Int) / 2 % 2))))) (b := (-1)) (by decide +kernel) ?_
                refine lz_icmp_ne hx hb (a := (gol (τ 4) ((j : Int) / 4) ((j : Int) / 2 % 2) (-1))) (b := ((cel (τ 4) (0 + ((j : Int) / 4) * 6 + (1 + ((j : Int) / 2 % 2)))) + (-1))) (off := 7) (tgt := 421) (by decide +kernel) (by decide) ⟨by omega, by omega⟩ ⟨by omega, by omega⟩ (fun h9 => absurd h9 (by omega)) (fun _ => ?_)
                refine lv_iconst hx hb (n := 1) (v := iI 1) (by decide +kernel) rfl ?_
                refine lv_goto hx hb (off := 4) (tgt := 422) (by decide +kernel) (by decide) ?_
                refine lv_istore hx hb (i := 12) (lv' := [(12, .int (iI 1)), (13, .int (iI (oco (τ 4) ((j : Int) / 4) ((j : Int) / 2 % 2) (-1)))), (11, .int (iI (hnd (τ 4) ((j : Int) / 4) ((j : Int) / 2 % 2) (-1)))), (10, .int (iI (hnd (τ 4) ((j : Int) / 4) ((j : Int) / 2 % 2) (-1)))), (9, .int (iI (cel (τ 4) (0 + ((j : Int) / 4) * 6 + 0)))), (8, .int (iI (-1))), (7, .int (iI ((j : Int) / 2 % 2))), (6, .int (iI ((j : Int) / 4))), (5, .int (iI (j : Int))), (4, .ref q3), (3, .ref q2), (2, .ref q1), (1, .int (iI (cel (τ 4) 107))), (0, .ref (ad 0))]) (by decide +kernel) hl (by decide) rfl (fun ls hl => ?_)
                refine lv_iload hx hb (i := 12) (x := iI 1) (by decide +kernel) (lv_at hl 0 rfl) ?_
                refine lz_if_ne hx hb (a := 1) (off := 5) (tgt := 431) (by decide +kernel) (by decide) ⟨by decide, by decide⟩ (fun _ => ?_) (fun h9 => absurd (by decide) h9)
                refine lv_iinc hx hb (i := 5) (n := 1) (v := iI ((j : Int) + 1)) (lv' := [(5, .int (iI ((j : Int) + 1))), (12, .int (iI 1)), (13, .int (iI (oco (τ 4) ((j : Int) / 4) ((j : Int) / 2 % 2) (-1)))), (11, .int (iI (hnd (τ 4) ((j : Int) / 4) ((j : Int) / 2 % 2) (-1)))), (10, .int (iI (hnd (τ 4) ((j : Int) / 4) ((j : Int) / 2 % 2) (-1)))), (9, .int (iI (cel (τ 4) (0 + ((j : Int) / 4) * 6 + 0)))), (8, .int (iI (-1))), (7, .int (iI ((j : Int) / 2 % 2))), (6, .int (iI ((j : Int) / 4))), (4, .ref q3), (3, .ref q2), (2, .ref q1), (1, .int (iI (cel (τ 4) 107))), (0, .ref (ad 0))]) (by decide +kernel) hl (k := 8) rfl (iI_add _ _) (by decide) rfl (fun ls hl => ?_)
                refine lv_goto hx hb (off := (-412)) (tgt := 22) (by decide +kernel) (by decide) ?_
                exact ih (j + 1) _ g1 g2 g3 ls _ _ _ _ (by omega) (by omega) hg1 hg2 hg3 (by omega) (by omega) (lv_sub hl [0, 9, 10, 11, 12, 13] rfl) hw
      by_cases hok : ¬ oco (τ 4) ((j : Int) / 4) ((j : Int) / 2 % 2) (1 - (j : Int) % 2 * 2) ≤ 3
      ·
        have hgs : g1 (cel (τ 4) (0 + ((j : Int) / 4) * 6 + 0)).toNat = g1 0 ∨ g1 (cel (τ 4) (0 + ((j : Int) / 4) * 6 + 0)).toNat = g1 1 := by rcases (show cel (τ 4) (0 + ((j : Int) / 4) * 6 + 0) = 0 ∨ cel (τ 4) (0 + ((j : Int) / 4) * 6 + 0) = 1 by omega) with q | q <;> rw [q] <;> first | exact Or.inl rfl | exact Or.inr rfl
        have hgs2 : g2 (cel (τ 4) (0 + ((j : Int) / 4) * 6 + 0)).toNat = g2 0 ∨ g2 (cel (τ 4) (0 + ((j : Int) / 4) * 6 + 0)).toNat = g2 1 := by rcases (show cel (τ 4) (0 + ((j : Int) / 4) * 6 + 0) = 0 ∨ cel (τ 4) (0 + ((j : Int) / 4) * 6 + 0) = 1 by omega) with q | q <;> rw [q] <;> first | exact Or.inl rfl | exact Or.inr rfl
        refine lv_iload hx hb (i := 5) (x := iI (j : Int)) (by decide +kernel) (lv_at hl 0 rfl) ?_
        refine lv_iconst hx hb (n := 4) (v := iI 4) (by decide +kernel) rfl ?_
        refine lv_iload_n hx hb (k := 1) (i := 1) (x := iI (cel (τ 4) 107)) (by decide +kernel) rfl (lv_at hl 4 rfl) ?_
        refine lz_imul hx hb (a := 4) (b := (cel (τ 4) 107)) (by decide +kernel) ?_
        refine lz_icmp_ge hx hb (a := (j : Int)) (b := (4 * (cel (τ 4) 107))) (off := 410) (tgt := 437) (by decide +kernel) (by decide) ⟨by omega, by omega⟩ ⟨by omega, by omega⟩ (fun h9 => absurd h9 (by omega)) (fun _ => ?_)
        refine lv_iload hx hb (i := 5) (x := iI (j : Int)) (by decide +kernel) (lv_at hl 0 rfl) ?_
        refine lv_iconst hx hb (n := 4) (v := iI 4) (by decide +kernel) rfl ?_
        refine lz_idiv hx hb (a := (j : Int)) (b := 4) (by decide +kernel) ⟨by omega, by omega, by omega, by omega⟩ ?_
        refine lv_istore hx hb (i := 6) (lv' := [(6, .int (iI ((j : Int) / 4))), (5, .int (iI (j : Int))), (4, .ref q3), (3, .ref q2), (2, .ref q1), (1, .int (iI (cel (τ 4) 107))), (0, .ref (ad 0))]) (by decide +kernel) hl (by decide) rfl (fun ls hl => ?_)
        refine lv_iload hx hb (i := 5) (x := iI (j : Int)) (by decide +kernel) (lv_at hl 1 rfl) ?_
        refine lv_iconst hx hb (n := 2) (v := iI 2) (by decide +kernel) rfl ?_
        refine lz_idiv hx hb (a := (j : Int)) (b := 2) (by decide +kernel) ⟨by omega, by omega, by omega, by omega⟩ ?_
        refine lv_iconst hx hb (n := 2) (v := iI 2) (by decide +kernel) rfl ?_
        refine lz_irem hx hb (a := ((j : Int) / 2)) (b := 2) (by decide +kernel) ⟨by omega, by omega, by omega, by omega⟩ ?_
        refine lv_istore hx hb (i := 7) (lv' := [(7, .int (iI (((j : Int) / 2) % 2))), (6, .int (iI ((j : Int) / 4))), (5, .int (iI (j : Int))), (4, .ref q3), (3, .ref q2), (2, .ref q1), (1, .int (iI (cel (τ 4) 107))), (0, .ref (ad 0))]) (by decide +kernel) hl (by decide) rfl (fun ls hl => ?_)
        refine lv_iconst hx hb (n := 1) (v := iI 1) (by decide +kernel) rfl ?_
        refine lv_iload hx hb (i := 5) (x := iI (j : Int)) (by decide +kernel) (lv_at hl 2 rfl) ?_
        refine lv_iconst hx hb (n := 2) (v := iI 2) (by decide +kernel) rfl ?_
        refine lz_irem hx hb (a := (j : Int)) (b := 2) (by decide +kernel) ⟨by omega, by omega, by omega, by omega⟩ ?_
        refine lv_iconst hx hb (n := 2) (v := iI 2) (by decide +kernel) rfl ?_
        refine lz_imul hx hb (a := ((j : Int) % 2)) (b := 2) (by decide +kernel) ?_
        refine lz_isub hx hb (a := 1) (b := (((j : Int) % 2) * 2)) (by decide +kernel) ?_
        refine lv_istore hx hb (i := 8) (lv' := [(8, .int (iI (1 - (((j : Int) % 2) * 2)))), (7, .int (iI (((j : Int) / 2) % 2))), (6, .int (iI ((j : Int) / 4))), (5, .int (iI (j : Int))), (4, .ref q3), (3, .ref q2), (2, .ref q1), (1, .int (iI (cel (τ 4) 107))), (0, .ref (ad 0))]) (by decide +kernel) hl (by decide) rfl (fun ls hl => ?_)
        refine lv_aload_n hx hb (k := 0) (i := 0) (x := ad 0) (by decide +kernel) rfl (lv_at hl 8 rfl) ?_
        refine lv_iload hx hb (i := 6) (x := iI ((j : Int) / 4)) (by decide +kernel) (lv_at hl 2 rfl) ?_
        refine lv_iconst hx hb (n := 0) (v := iI 0) (by decide +kernel) rfl ?_
        refine lk_callH (x := 163) (rest := []) (as := [.ref (ad 0), .int (iI ((j : Int) / 4)), .int (iI 0)]) (n := 3) F hw hl.1 (K_of (X := [(q1, aI cA 0 2 (g1)), (q2, aI cA 0 2 (g2)), (q3, aI cA 3 N (g3))]) (τ := τ) (f := ((j : Int) / 4)) (w := 0) (B := B) F.l0 (by omega) (by omega) hS) (lr58 39 rfl) (lr58 40 rfl) (lr58 41 rfl) (lr58 8 rfl) ⟨by decide, by decide, by decide +kernel⟩ rfl ⟨Nat.le_of_ble_eq_true rfl, Nat.le_of_ble_eq_true rfl, (by show _ ≤ 1400; omega), (by show _ ≤ 8600; omega)⟩ (Nat.le_of_ble_eq_true rfl) (by decide +kernel) rfl (fun v9 V9 hG H locs hw => ?_)
        obtain ⟨rfl, rfl⟩ := hG
        refine W.eq (g2 := F0 m 61 ls [.int (iI (cel (τ 4) (0 + ((j : Int) / 4) * 6 + 0)))]) rfl ?_
        refine lv_istore hx hb (i := 9) (lv' := [(9, .int (iI (cel (τ 4) (0 + ((j : Int) / 4) * 6 + 0)))), (8, .int (iI (1 - (((j : Int) % 2) * 2)))), (7, .int (iI (((j : Int) / 2) % 2))), (6, .int (iI ((j : Int) / 4))), (5, .int (iI (j : Int))), (4, .ref q3), (3, .ref q2), (2, .ref q1), (1, .int (iI (cel (τ 4) 107))), (0, .ref (ad 0))]) (by decide +kernel) hl (by decide) rfl (fun ls hl => ?_)
        refine lv_aload_n hx hb (k := 0) (i := 0) (x := ad 0) (by decide +kernel) rfl (lv_at hl 9 rfl) ?_
        refine lv_iload hx hb (i := 6) (x := iI ((j : Int) / 4)) (by decide +kernel) (lv_at hl 3 rfl) ?_
        refine lv_iload hx hb (i := 7) (x := iI (((j : Int) / 2) % 2)) (by decide +kernel) (lv_at hl 2 rfl) ?_
        refine lv_iload hx hb (i := 8) (x := iI (1 - (((j : Int) % 2) * 2))) (by decide +kernel) (lv_at hl 1 rfl) ?_
        refine lk_call (x := 194) (rest := []) (as := [.ref (ad 0), .int (iI ((j : Int) / 4)), .int (iI (((j : Int) / 2) % 2)), .int (iI (1 - (((j : Int) % 2) * 2)))]) (n := 4) F hw hl.1 (K_hinders (X := [(q1, aI cA 0 2 (g1)), (q2, aI cA 0 2 (g2)), (q3, aI cA 3 N (g3))]) (τ := τ) (f := ((j : Int) / 4)) (r := ((j : Int) / 2 % 2)) (d := (1 - (j : Int) % 2 * 2)) (B := B) F.l0 (by omega) (by omega) (by omega) hI) (lr58 42 rfl) (lr58 43 rfl) (lr58 44 rfl) (lr58 8 rfl) ⟨rfl, by decide, by decide, by decide +kernel⟩ rfl ⟨Nat.le_of_ble_eq_true rfl, Nat.le_of_ble_eq_true rfl, (by show _ ≤ 1400; omega), (by show _ ≤ 8600; omega)⟩ (Nat.le_of_ble_eq_true rfl) (by decide +kernel) rfl (fun v9 V9 hG H locs hw => ?_)
        obtain ⟨rfl, rfl⟩ := hG
        refine W.eq (g2 := F0 m 73 ls [.int (iI (hnd (τ 4) ((j : Int) / 4) ((j : Int) / 2 % 2) (1 - (j : Int) % 2 * 2)))]) rfl ?_
        refine lv_istore hx hb (i := 10) (lv' := [(10, .int (iI (hnd (τ 4) ((j : Int) / 4) ((j : Int) / 2 % 2) (1 - (j : Int) % 2 * 2)))), (9, .int (iI (cel (τ 4) (0 + ((j : Int) / 4) * 6 + 0)))), (8, .int (iI (1 - (((j : Int) % 2) * 2)))), (7, .int (iI (((j : Int) / 2) % 2))), (6, .int (iI ((j : Int) / 4))), (5, .int (iI (j : Int))), (4, .ref q3), (3, .ref q2), (2, .ref q1), (1, .int (iI (cel (τ 4) 107))), (0, .ref (ad 0))]) (by decide +kernel) hl (by decide) rfl (fun ls hl => ?_)
        refine lv_iload hx hb (i := 10) (x := iI (hnd (τ 4) ((j : Int) / 4) ((j : Int) / 2 % 2) (1 - (j : Int) % 2 * 2))) (by decide +kernel) (lv_at hl 0 rfl) ?_
        refine lz_if_ne hx hb (a := (hnd (τ 4) ((j : Int) / 4) ((j : Int) / 2 % 2) (1 - (j : Int) % 2 * 2))) (off := 68) (tgt := 145) (by decide +kernel) (by decide) ⟨by omega, by omega⟩ (fun _ => ?_) (fun h9 => absurd (by omega) h9)
        exact tail g1 g2 g3 ls _ _ _ _ (cnt_0 hg1 (by omega)) (ccn_0 hg2 (by omega)) (thn_0 hg3 (by omega)) (by omega) (by omega) (lv_sub hl [0, 1, 2, 3, 4, 5, 6, 7, 8, 9, 10] rfl) hw
      · by_cases h3 : ¬ oco (τ 4) ((j : Int) / 4) ((j : Int) / 2 % 2) (1 - (j : Int) % 2 * 2) = 3
        ·
          have hgs : g1 (cel (τ 4) (0 + ((j : Int) / 4) * 6 + 0)).toNat = g1 0 ∨ g1 (cel (τ 4) (0 + ((j : Int) / 4) * 6 + 0)).toNat = g1 1 := by rcases (show cel (τ 4) (0 + ((j : Int) / 4) * 6 + 0) = 0 ∨ cel (τ 4) (0 + ((j : Int) / 4) * 6 + 0) = 1 by omega) with q | q <;> rw [q] <;> first | exact Or.inl rfl | exact Or.inr rfl
          have hgs2 : g2 (cel (τ 4) (0 + ((j : Int) / 4) * 6 + 0)).toNat = g2 0 ∨ g2 (cel (τ 4) (0 + ((j : Int) / 4) * 6 + 0)).toNat = g2 1 := by rcases (show cel (τ 4) (0 + ((j : Int) / 4) * 6 + 0) = 0 ∨ cel (τ 4) (0 + ((j : Int) / 4) * 6 + 0) = 1 by omega) with q | q <;> rw [q] <;> first | exact Or.inl rfl | exact Or.inr rfl
          refine lv_iload hx hb (i := 5) (x := iI (j : Int)) (by decide +kernel) (lv_at hl 0 rfl) ?_
          refine lv_iconst hx hb (n := 4) (v := iI 4) (by decide +kernel) rfl ?_
          refine lv_iload_n hx hb (k := 1) (i := 1) (x := iI (cel (τ 4) 107)) (by decide +kernel) rfl (lv_at hl 4 rfl) ?_
          refine lz_imul hx hb (a := 4) (b := (cel (τ 4) 107)) (by decide +kernel) ?_
          refine lz_icmp_ge hx hb (a := (j : Int)) (b := (4 * (cel (τ 4) 107))) (off := 410) (tgt := 437) (by decide +kernel) (by decide) ⟨by omega, by omega⟩ ⟨by omega, by omega⟩ (fun h9 => absurd h9 (by omega)) (fun _ => ?_)
          refine lv_iload hx hb (i := 5) (x := iI (j : Int)) (by decide +kernel) (lv_at hl 0 rfl) ?_
          refine lv_iconst hx hb (n := 4) (v := iI 4) (by decide +kernel) rfl ?_
          refine lz_idiv hx hb (a := (j : Int)) (b := 4) (by decide +kernel) ⟨by omega, by omega, by omega, by omega⟩ ?_
          refine lv_istore hx hb (i := 6) (lv' := [(6, .int (iI ((j : Int) / 4))), (5, .int (iI (j : Int))), (4, .ref q3), (3, .ref q2), (2, .ref q1), (1, .int (iI (cel (τ 4) 107))), (0, .ref (ad 0))]) (by decide +kernel) hl (by decide) rfl (fun ls hl => ?_)
          refine lv_iload hx hb (i := 5) (x := iI (j : Int)) (by decide +kernel) (lv_at hl 1 rfl) ?_
          refine lv_iconst hx hb (n := 2) (v := iI 2) (by decide +kernel) rfl ?_
          refine lz_idiv hx hb (a := (j : Int)) (b := 2) (by decide +kernel) ⟨by omega, by omega, by omega, by omega⟩ ?_
          refine lv_iconst hx hb (n := 2) (v := iI 2) (by decide +kernel) rfl ?_
          refine lz_irem hx hb (a := ((j : Int) / 2)) (b := 2) (by decide +kernel) ⟨by omega, by omega, by omega, by omega⟩ ?_
          refine lv_istore hx hb (i := 7) (lv' := [(7, .int (iI (((j : Int) / 2) % 2))), (6, .int (iI ((j : Int) / 4))), (5, .int (iI (j : Int))), (4, .ref q3), (3, .ref q2), (2, .ref q1), (1, .int (iI (cel (τ 4) 107))), (0, .ref (ad 0))]) (by decide +kernel) hl (by decide) rfl (fun ls hl => ?_)
          refine lv_iconst hx hb (n := 1) (v := iI 1) (by decide +kernel) rfl ?_
          refine lv_iload hx hb (i := 5) (x := iI (j : Int)) (by decide +kernel) (lv_at hl 2 rfl) ?_
          refine lv_iconst hx hb (n := 2) (v := iI 2) (by decide +kernel) rfl ?_
          refine lz_irem hx hb (a := (j : Int)) (b := 2) (by decide +kernel) ⟨by omega, by omega, by omega, by omega⟩ ?_
          refine lv_iconst hx hb (n := 2) (v := iI 2) (by decide +kernel) rfl ?_
          refine lz_imul hx hb (a := ((j : Int) % 2)) (b := 2) (by decide +kernel) ?_
          refine lz_isub hx hb (a := 1) (b := (((j : Int) % 2) * 2)) (by decide +kernel) ?_
          refine lv_istore hx hb (i := 8) (lv' := [(8, .int (iI (1 - (((j : Int) % 2) * 2)))), (7, .int (iI (((j : Int) / 2) % 2))), (6, .int (iI ((j : Int) / 4))), (5, .int (iI (j : Int))), (4, .ref q3), (3, .ref q2), (2, .ref q1), (1, .int (iI (cel (τ 4) 107))), (0, .ref (ad 0))]) (by decide +kernel) hl (by decide) rfl (fun ls hl => ?_)
          refine lv_aload_n hx hb (k := 0) (i := 0) (x := ad 0) (by decide +kernel) rfl (lv_at hl 8 rfl) ?_
          refine lv_iload hx hb (i := 6) (x := iI ((j : Int) / 4)) (by decide +kernel) (lv_at hl 2 rfl) ?_
          refine lv_iconst hx hb (n := 0) (v := iI 0) (by decide +kernel) rfl ?_
          refine lk_callH (x := 163) (rest := []) (as := [.ref (ad 0), .int (iI ((j : Int) / 4)), .int (iI 0)]) (n := 3) F hw hl.1 (K_of (X := [(q1, aI cA 0 2 (g1)), (q2, aI cA 0 2 (g2)), (q3, aI cA 3 N (g3))]) (τ := τ) (f := ((j : Int) / 4)) (w := 0) (B := B) F.l0 (by omega) (by omega) hS) (lr58 39 rfl) (lr58 40 rfl) (lr58 41 rfl) (lr58 8 rfl) ⟨by decide, by decide, by decide +kernel⟩ rfl ⟨Nat.le_of_ble_eq_true rfl, Nat.le_of_ble_eq_true rfl, (by show _ ≤ 1400; omega), (by show _ ≤ 8600; omega)⟩ (Nat.le_of_ble_eq_true rfl) (by decide +kernel) rfl (fun v9 V9 hG H locs hw => ?_)
          obtain ⟨rfl, rfl⟩ := hG
          refine W.eq (g2 := F0 m 61 ls [.int (iI (cel (τ 4) (0 + ((j : Int) / 4) * 6 + 0)))]) rfl ?_
          refine lv_istore hx hb (i := 9) (lv' := [(9, .int (iI (cel (τ 4) (0 + ((j : Int) / 4) * 6 + 0)))), (8, .int (iI (1 - (((j : Int) % 2) * 2)))), (7, .int (iI (((j : Int) / 2) % 2))), (6, .int (iI ((j : Int) / 4))), (5, .int (iI (j : Int))), (4, .ref q3), (3, .ref q2), (2, .ref q1), (1, .int (iI (cel (τ 4) 107))), (0, .ref (ad 0))]) (by decide +kernel) hl (by decide) rfl (fun ls hl => ?_)
          refine lv_aload_n hx hb (k := 0) (i := 0) (x := ad 0) (by decide +kernel) rfl (lv_at hl 9 rfl) ?_
          refine lv_iload hx hb (i := 6) (x := iI ((j : Int) / 4)) (by decide +kernel) (lv_at hl 3 rfl) ?_
          refine lv_iload hx hb (i := 7) (x := iI (((j : Int) / 2) % 2)) (by decide +kernel) (lv_at hl 2 rfl) ?_
          refine lv_iload hx hb (i := 8) (x := iI (1 - (((j : Int) % 2) * 2))) (by decide +kernel) (lv_at hl 1 rfl) ?_
          refine lk_call (x := 194) (rest := []) (as := [.ref (ad 0), .int (iI ((j : Int) / 4)), .int (iI (((j : Int) / 2) % 2)), .int (iI (1 - (((j : Int) % 2) * 2)))]) (n := 4) F hw hl.1 (K_hinders (X := [(q1, aI cA 0 2 (g1)), (q2, aI cA 0 2 (g2)), (q3, aI cA 3 N (g3))]) (τ := τ) (f := ((j : Int) / 4)) (r := ((j : Int) / 2 % 2)) (d := (1 - (j : Int) % 2 * 2)) (B := B) F.l0 (by omega) (by omega) (by omega) hI) (lr58 42 rfl) (lr58 43 rfl) (lr58 44 rfl) (lr58 8 rfl) ⟨rfl, by decide, by decide, by decide +kernel⟩ rfl ⟨Nat.le_of_ble_eq_true rfl, Nat.le_of_ble_eq_true rfl, (by show _ ≤ 1400; omega), (by show _ ≤ 8600; omega)⟩ (Nat.le_of_ble_eq_true rfl) (by decide +kernel) rfl (fun v9 V9 hG H locs hw => ?_)
          obtain ⟨rfl, rfl⟩ := hG
          refine W.eq (g2 := F0 m 73 ls [.int (iI (hnd (τ 4) ((j : Int) / 4) ((j : Int) / 2 % 2) (1 - (j : Int) % 2 * 2)))]) rfl ?_
          refine lv_istore hx hb (i := 10) (lv' := [(10, .int (iI (hnd (τ 4) ((j : Int) / 4) ((j : Int) / 2 % 2) (1 - (j : Int) % 2 * 2)))), (9, .int (iI (cel (τ 4) (0 + ((j : Int) / 4) * 6 + 0)))), (8, .int (iI (1 - (((j : Int) % 2) * 2)))), (7, .int (iI (((j : Int) / 2) % 2))), (6, .int (iI ((j : Int) / 4))), (5, .int (iI (j : Int))), (4, .ref q3), (3, .ref q2), (2, .ref q1), (1, .int (iI (cel (τ 4) 107))), (0, .ref (ad 0))]) (by decide +kernel) hl (by decide) rfl (fun ls hl => ?_)
          refine lv_iload hx hb (i := 10) (x := iI (hnd (τ 4) ((j : Int) / 4) ((j : Int) / 2 % 2) (1 - (j : Int) % 2 * 2))) (by decide +kernel) (lv_at hl 0 rfl) ?_
          refine lz_if_ne hx hb (a := (hnd (τ 4) ((j : Int) / 4) ((j : Int) / 2 % 2) (1 - (j : Int) % 2 * 2))) (off := 68) (tgt := 145) (by decide +kernel) (by decide) ⟨by omega, by omega⟩ (fun h9 => absurd h9 (by omega)) (fun _ => ?_)
          refine lv_aload_n hx hb (k := 0) (i := 0) (x := ad 0) (by decide +kernel) rfl (lv_at hl 10 rfl) ?_
          refine lv_iload hx hb (i := 6) (x := iI ((j : Int) / 4)) (by decide +kernel) (lv_at hl 4 rfl) ?_
          refine lv_iload hx hb (i := 7) (x := iI (((j : Int) / 2) % 2)) (by decide +kernel) (lv_at hl 3 rfl) ?_
          refine lv_iload hx hb (i := 8) (x := iI (1 - (((j : Int) % 2) * 2))) (by decide +kernel) (lv_at hl 2 rfl) ?_
          refine lk_call (x := 197) (rest := []) (as := [.ref (ad 0), .int (iI ((j : Int) / 4)), .int (iI (((j : Int) / 2) % 2)), .int (iI (1 - (((j : Int) % 2) * 2)))]) (n := 4) F hw hl.1 (K_kind (X := [(q1, aI cA 0 2 (g1)), (q2, aI cA 0 2 (g2)), (q3, aI cA 3 N (g3))]) (τ := τ) (f := ((j : Int) / 4)) (r := ((j : Int) / 2 % 2)) (d := (1 - (j : Int) % 2 * 2)) (B := B) F.l0 (by omega) (by omega) (by omega) hI (by omega)) (lr58 33 rfl) (lr58 34 rfl) (lr58 35 rfl) (lr58 8 rfl) ⟨rfl, by decide, by decide, by decide +kernel⟩ rfl ⟨Nat.le_of_ble_eq_true rfl, Nat.le_of_ble_eq_true rfl, (by show _ ≤ 1400; omega), (by show _ ≤ 8600; omega)⟩ (Nat.le_of_ble_eq_true rfl) (by decide +kernel) rfl (fun v9 V9 hG H locs hw => ?_)
          obtain ⟨rfl, rfl⟩ := hG
          refine W.eq (g2 := F0 m 90 ls [.int (iI (oco (τ 4) ((j : Int) / 4) ((j : Int) / 2 % 2) (1 - (j : Int) % 2 * 2)))]) rfl ?_
          refine lv_istore hx hb (i := 11) (lv' := [(11, .int (iI (oco (τ 4) ((j : Int) / 4) ((j : Int) / 2 % 2) (1 - (j : Int) % 2 * 2)))), (10, .int (iI (hnd (τ 4) ((j : Int) / 4) ((j : Int) / 2 % 2) (1 - (j : Int) % 2 * 2)))), (9, .int (iI (cel (τ 4) (0 + ((j : Int) / 4) * 6 + 0)))), (8, .int (iI (1 - (((j : Int) % 2) * 2)))), (7, .int (iI (((j : Int) / 2) % 2))), (6, .int (iI ((j : Int) / 4))), (5, .int (iI (j : Int))), (4, .ref q3), (3, .ref q2), (2, .ref q1), (1, .int (iI (cel (τ 4) 107))), (0, .ref (ad 0))]) (by decide +kernel) hl (by decide) rfl (fun ls hl => ?_)
          refine lv_aload_n hx hb (k := 2) (i := 2) (x := q1) (by decide +kernel) rfl (lv_at hl 9 rfl) ?_
          refine lv_iload hx hb (i := 9) (x := iI (cel (τ 4) (0 + ((j : Int) / 4) * 6 + 0))) (by decide +kernel) (lv_at hl 2 rfl) ?_
          refine lv_dup2_11 hx hb (by decide +kernel) rfl rfl ?_
          refine lx_iald (σ := sz τ) (X := [(q1, aI cA 0 2 (g1)), (q2, aI cA 0 2 (g2)), (q3, aI cA 3 N (g3))]) (k := 0) (q := q1) (n := 2) (g := g1) (z := (cel (τ 4) (0 + ((j : Int) / 4) * 6 + 0))) F hw rfl ⟨by omega, by omega⟩ (by omega) (by decide +kernel) ?_
          refine lv_iconst hx hb (n := 1) (v := iI 1) (by decide +kernel) rfl ?_
          refine lz_iadd hx hb (a := (g1 (cel (τ 4) (0 + ((j : Int) / 4) * 6 + 0)).toNat)) (b := 1) (by decide +kernel) ?_
          refine lx_iast (σ := sz τ) (X := [(q1, aI cA 0 2 (g1)), (q2, aI cA 0 2 (g2)), (q3, aI cA 3 N (g3))]) (k := 0) (q := q1) (n := 2) (g := g1) (z := (cel (τ 4) (0 + ((j : Int) / 4) * 6 + 0))) (v := ((g1 (cel (τ 4) (0 + ((j : Int) / 4) * 6 + 0)).toNat) + 1)) F hw rfl ⟨by omega, by omega⟩ (by omega) (by decide +kernel) (fun H locs hw => ?_)
          have hw : WV D A s (wO ad cA (sz τ) ++ [(q1, aI cA 0 2 (zu g1 (cel (τ 4) (0 + ((j : Int) / 4) * 6 + 0)).toNat ((g1 (cel (τ 4) (0 + ((j : Int) / 4) * 6 + 0)).toNat) + 1))), (q2, aI cA 0 2 (g2)), (q3, aI cA 3 N (g3))]) H locs := hw
          refine lv_aload_n hx hb (k := 3) (i := 3) (x := q2) (by decide +kernel) rfl (lv_at hl 8 rfl) ?_
          refine lv_iload hx hb (i := 9) (x := iI (cel (τ 4) (0 + ((j : Int) / 4) * 6 + 0))) (by decide +kernel) (lv_at hl 2 rfl) ?_
          refine lv_dup2_11 hx hb (by decide +kernel) rfl rfl ?_
          refine lx_iald (σ := sz τ) (X := [(q1, aI cA 0 2 (zu g1 (cel (τ 4) (0 + ((j : Int) / 4) * 6 + 0)).toNat ((g1 (cel (τ 4) (0 + ((j : Int) / 4) * 6 + 0)).toNat) + 1))), (q2, aI cA 0 2 (g2)), (q3, aI cA 3 N (g3))]) (k := 1) (q := q2) (n := 2) (g := g2) (z := (cel (τ 4) (0 + ((j : Int) / 4) * 6 + 0))) F hw rfl ⟨by omega, by omega⟩ (by omega) (by decide +kernel) ?_
          refine lv_iload hx hb (i := 11) (x := iI (oco (τ 4) ((j : Int) / 4) ((j : Int) / 2 % 2) (1 - (j : Int) % 2 * 2))) (by decide +kernel) (lv_at hl 0 rfl) ?_
          refine lv_iconst hx hb (n := 3) (v := iI 3) (by decide +kernel) rfl ?_
          refine lz_icmp_ne hx hb (a := (oco (τ 4) ((j : Int) / 4) ((j : Int) / 2 % 2) (1 - (j : Int) % 2 * 2))) (b := 3) (off := 7) (tgt := 115) (by decide +kernel) (by decide) ⟨by omega, by omega⟩ ⟨by decide, by decide⟩ (fun _ => ?_) (fun h9 => absurd (by omega) h9)
          refine lv_iconst hx hb (n := 0) (v := iI 0) (by decide +kernel) rfl ?_
          refine lz_iadd hx hb (a := (g2 (cel (τ 4) (0 + ((j : Int) / 4) * 6 + 0)).toNat)) (b := 0) (by decide +kernel) ?_
          refine lx_iast (σ := sz τ) (X := [(q1, aI cA 0 2 (zu g1 (cel (τ 4) (0 + ((j : Int) / 4) * 6 + 0)).toNat ((g1 (cel (τ 4) (0 + ((j : Int) / 4) * 6 + 0)).toNat) + 1))), (q2, aI cA 0 2 (g2)), (q3, aI cA 3 N (g3))]) (k := 1) (q := q2) (n := 2) (g := g2) (z := (cel (τ 4) (0 + ((j : Int) / 4) * 6 + 0))) (v := ((g2 (cel (τ 4) (0 + ((j : Int) / 4) * 6 + 0)).toNat) + 0)) F hw rfl ⟨by omega, by omega⟩ (by omega) (by decide +kernel) (fun H locs hw => ?_)
          have hw : WV D A s (wO ad cA (sz τ) ++ [(q1, aI cA 0 2 (zu g1 (cel (τ 4) (0 + ((j : Int) / 4) * 6 + 0)).toNat ((g1 (cel (τ 4) (0 + ((j : Int) / 4) * 6 + 0)).toNat) + 1))), (q2, aI cA 0 2 (zu g2 (cel (τ 4) (0 + ((j : Int) / 4) * 6 + 0)).toNat ((g2 (cel (τ 4) (0 + ((j : Int) / 4) * 6 + 0)).toNat) + 0))), (q3, aI cA 3 N (g3))]) H locs := hw
          refine lv_iload hx hb (i := 11) (x := iI (oco (τ 4) ((j : Int) / 4) ((j : Int) / 2 % 2) (1 - (j : Int) % 2 * 2))) (by decide +kernel) (lv_at hl 0 rfl) ?_
          refine lv_iconst hx hb (n := 3) (v := iI 3) (by decide +kernel) rfl ?_
          refine lz_icmp_ne hx hb (a := (oco (τ 4) ((j : Int) / 4) ((j : Int) / 2 % 2) (1 - (j : Int) % 2 * 2))) (b := 3) (off := 24) (tgt := 145) (by decide +kernel) (by decide) ⟨by omega, by omega⟩ ⟨by decide, by decide⟩ (fun _ => ?_) (fun h9 => absurd (by omega) h9)
          exact tail (zu g1 (cel (τ 4) (0 + ((j : Int) / 4) * 6 + 0)).toNat ((g1 (cel (τ 4) (0 + ((j : Int) / 4) * 6 + 0)).toNat) + 1)) (zu g2 (cel (τ 4) (0 + ((j : Int) / 4) * 6 + 0)).toNat ((g2 (cel (τ 4) (0 + ((j : Int) / 4) * 6 + 0)).toNat) + 0)) g3 ls _ _ _ _ (cnt_1 hg1 hsd (by omega)) (ccn_z hg2 hsd (by omega)) (thn_0 hg3 (by omega)) (by omega) (by omega) (lv_sub hl [1, 2, 3, 4, 5, 6, 7, 8, 9, 10, 11] rfl) hw
        · have hnx := oco_nx (c := τ 4) (f := ((j : Int) / 4)) (r := ((j : Int) / 2 % 2)) (s := (1 - (j : Int) % 2 * 2)) (by omega)
          have hwho := oco_who hI (f := ((j : Int) / 4)) (r := ((j : Int) / 2 % 2)) (s := (1 - (j : Int) % 2 * 2)) hr (by omega)
          have hgs : g1 (cel (τ 4) (0 + ((j : Int) / 4) * 6 + 0)).toNat = g1 0 ∨ g1 (cel (τ 4) (0 + ((j : Int) / 4) * 6 + 0)).toNat = g1 1 := by rcases (show cel (τ 4) (0 + ((j : Int) / 4) * 6 + 0) = 0 ∨ cel (τ 4) (0 + ((j : Int) / 4) * 6 + 0) = 1 by omega) with q | q <;> rw [q] <;> first | exact Or.inl rfl | exact Or.inr rfl
          have hgs2 : g2 (cel (τ 4) (0 + ((j : Int) / 4) * 6 + 0)).toNat = g2 0 ∨ g2 (cel (τ 4) (0 + ((j : Int) / 4) * 6 + 0)).toNat = g2 1 := by rcases (show cel (τ 4) (0 + ((j : Int) / 4) * 6 + 0) = 0 ∨ cel (τ 4) (0 + ((j : Int) / 4) * 6 + 0) = 1 by omega) with q | q <;> rw [q] <;> first | exact Or.inl rfl | exact Or.inr rfl
          refine lv_iload hx hb (i := 5) (x := iI (j : Int)) (by decide +kernel) (lv_at hl 0 rfl) ?_
          refine lv_iconst hx hb (n := 4) (v := iI 4) (by decide +kernel) rfl ?_
          refine lv_iload_n hx hb (k := 1) (i := 1) (x := iI (cel (τ 4) 107)) (by decide +kernel) rfl (lv_at hl 4 rfl) ?_
          refine lz_imul hx hb (a := 4) (b := (cel (τ 4) 107)) (by decide +kernel) ?_
          refine lz_icmp_ge hx hb (a := (j : Int)) (b := (4 * (cel (τ 4) 107))) (off := 410) (tgt := 437) (by decide +kernel) (by decide) ⟨by omega, by omega⟩ ⟨by omega, by omega⟩ (fun h9 => absurd h9 (by omega)) (fun _ => ?_)
          refine lv_iload hx hb (i := 5) (x := iI (j : Int)) (by decide +kernel) (lv_at hl 0 rfl) ?_
          refine lv_iconst hx hb (n := 4) (v := iI 4) (by decide +kernel) rfl ?_
          refine lz_idiv hx hb (a := (j : Int)) (b := 4) (by decide +kernel) ⟨by omega, by omega, by omega, by omega⟩ ?_
          refine lv_istore hx hb (i := 6) (lv' := [(6, .int (iI ((j : Int) / 4))), (5, .int (iI (j : Int))), (4, .ref q3), (3, .ref q2), (2, .ref q1), (1, .int (iI (cel (τ 4) 107))), (0, .ref (ad 0))]) (by decide +kernel) hl (by decide) rfl (fun ls hl => ?_)
          refine lv_iload hx hb (i := 5) (x := iI (j : Int)) (by decide +kernel) (lv_at hl 1 rfl) ?_
          refine lv_iconst hx hb (n := 2) (v := iI 2) (by decide +kernel) rfl ?_
          refine lz_idiv hx hb (a := (j : Int)) (b := 2) (by decide +kernel) ⟨by omega, by omega, by omega, by omega⟩ ?_
          refine lv_iconst hx hb (n := 2) (v := iI 2) (by decide +kernel) rfl ?_
          refine lz_irem hx hb (a := ((j : Int) / 2)) (b := 2) (by decide +kernel) ⟨by omega, by omega, by omega, by omega⟩ ?_
          refine lv_istore hx hb (i := 7) (lv' := [(7, .int (iI (((j : Int) / 2) % 2))), (6, .int (iI ((j : Int) / 4))), (5, .int (iI (j : Int))), (4, .ref q3), (3, .ref q2), (2, .ref q1), (1, .int (iI (cel (τ 4) 107))), (0, .ref (ad 0))]) (by decide +kernel) hl (by decide) rfl (fun ls hl => ?_)
          refine lv_iconst hx hb (n := 1) (v := iI 1) (by decide +kernel) rfl ?_
          refine lv_iload hx hb (i := 5) (x := iI (j : Int)) (by decide +kernel) (lv_at hl 2 rfl) ?_
          refine lv_iconst hx hb (n := 2) (v := iI 2) (by decide +kernel) rfl ?_
          refine lz_irem hx hb (a := (j : Int)) (b := 2) (by decide +kernel) ⟨by omega, by omega, by omega, by omega⟩ ?_
          refine lv_iconst hx hb (n := 2) (v := iI 2) (by decide +kernel) rfl ?_
          refine lz_imul hx hb (a := ((j : Int) % 2)) (b := 2) (by decide +kernel) ?_
          refine lz_isub hx hb (a := 1) (b := (((j : Int) % 2) * 2)) (by decide +kernel) ?_
          refine lv_istore hx hb (i := 8) (lv' := [(8, .int (iI (1 - (((j : Int) % 2) * 2)))), (7, .int (iI (((j : Int) / 2) % 2))), (6, .int (iI ((j : Int) / 4))), (5, .int (iI (j : Int))), (4, .ref q3), (3, .ref q2), (2, .ref q1), (1, .int (iI (cel (τ 4) 107))), (0, .ref (ad 0))]) (by decide +kernel) hl (by decide) rfl (fun ls hl => ?_)
          refine lv_aload_n hx hb (k := 0) (i := 0) (x := ad 0) (by decide +kernel) rfl (lv_at hl 8 rfl) ?_
          refine lv_iload hx hb (i := 6) (x := iI ((j : Int) / 4)) (by decide +kernel) (lv_at hl 2 rfl) ?_
          refine lv_iconst hx hb (n := 0) (v := iI 0) (by decide +kernel) rfl ?_
          refine lk_callH (x := 163) (rest := []) (as := [.ref (ad 0), .int (iI ((j : Int) / 4)), .int (iI 0)]) (n := 3) F hw hl.1 (K_of (X := [(q1, aI cA 0 2 (g1)), (q2, aI cA 0 2 (g2)), (q3, aI cA 3 N (g3))]) (τ := τ) (f := ((j : Int) / 4)) (w := 0) (B := B) F.l0 (by omega) (by omega) hS) (lr58 39 rfl) (lr58 40 rfl) (lr58 41 rfl) (lr58 8 rfl) ⟨by decide, by decide, by decide +kernel⟩ rfl ⟨Nat.le_of_ble_eq_true rfl, Nat.le_of_ble_eq_true rfl, (by show _ ≤ 1400; omega), (by show _ ≤ 8600; omega)⟩ (Nat.le_of_ble_eq_true rfl) (by decide +kernel) rfl (fun v9 V9 hG H locs hw => ?_)
          obtain ⟨rfl, rfl⟩ := hG
          refine W.eq (g2 := F0 m 61 ls [.int (iI (cel (τ 4) (0 + ((j : Int) / 4) * 6 + 0)))]) rfl ?_
          refine lv_istore hx hb (i := 9) (lv' := [(9, .int (iI (cel (τ 4) (0 + ((j : Int) / 4) * 6 + 0)))), (8, .int (iI (1 - (((j : Int) % 2) * 2)))), (7, .int (iI (((j : Int) / 2) % 2))), (6, .int (iI ((j : Int) / 4))), (5, .int (iI (j : Int))), (4, .ref q3), (3, .ref q2), (2, .ref q1), (1, .int (iI (cel (τ 4) 107))), (0, .ref (ad 0))]) (by decide +kernel) hl (by decide) rfl (fun ls hl => ?_)
          refine lv_aload_n hx hb (k := 0) (i := 0) (x := ad 0) (by decide +kernel) rfl (lv_at hl 9 rfl) ?_
          refine lv_iload hx hb (i := 6) (x := iI ((j : Int) / 4)) (by decide +kernel) (lv_at hl 3 rfl) ?_
          refine lv_iload hx hb (i := 7) (x := iI (((j : Int) / 2) % 2)) (by decide +kernel) (lv_at hl 2 rfl) ?_
          refine lv_iload hx hb (i := 8) (x := iI (1 - (((j : Int) % 2) * 2))) (by decide +kernel) (lv_at hl 1 rfl) ?_
          refine lk_call (x := 194) (rest := []) (as := [.ref (ad 0), .int (iI ((j : Int) / 4)), .int (iI (((j : Int) / 2) % 2)), .int (iI (1 - (((j : Int) % 2) * 2)))]) (n := 4) F hw hl.1 (K_hinders (X := [(q1, aI cA 0 2 (g1)), (q2, aI cA 0 2 (g2)), (q3, aI cA 3 N (g3))]) (τ := τ) (f := ((j : Int) / 4)) (r := ((j : Int) / 2 % 2)) (d := (1 - (j : Int) % 2 * 2)) (B := B) F.l0 (by omega) (by omega) (by omega) hI) (lr58 42 rfl) (lr58 43 rfl) (lr58 44 rfl) (lr58 8 rfl) ⟨rfl, by decide, by decide, by decide +kernel⟩ rfl ⟨Nat.le_of_ble_eq_true rfl, Nat.le_of_ble_eq_true rfl, (by show _ ≤ 1400; omega), (by show _ ≤ 8600; omega)⟩ (Nat.le_of_ble_eq_true rfl) (by decide +kernel) rfl (fun v9 V9 hG H locs hw => ?_)
          obtain ⟨rfl, rfl⟩ := hG
          refine W.eq (g2 := F0 m 73 ls [.int (iI (hnd (τ 4) ((j : Int) / 4) ((j : Int) / 2 % 2) (1 - (j : Int) % 2 * 2)))]) rfl ?_
          refine lv_istore hx hb (i := 10) (lv' := [(10, .int (iI (hnd (τ 4) ((j : Int) / 4) ((j : Int) / 2 % 2) (1 - (j : Int) % 2 * 2)))), (9, .int (iI (cel (τ 4) (0 + ((j : Int) / 4) * 6 + 0)))), (8, .int (iI (1 - (((j : Int) % 2) * 2)))), (7, .int (iI (((j : Int) / 2) % 2))), (6, .int (iI ((j : Int) / 4))), (5, .int (iI (j : Int))), (4, .ref q3), (3, .ref q2), (2, .ref q1), (1, .int (iI (cel (τ 4) 107))), (0, .ref (ad 0))]) (by decide +kernel) hl (by decide) rfl (fun ls hl => ?_)
          refine lv_iload hx hb (i := 10) (x := iI (hnd (τ 4) ((j : Int) / 4) ((j : Int) / 2 % 2) (1 - (j : Int) % 2 * 2))) (by decide +kernel) (lv_at hl 0 rfl) ?_
          refine lz_if_ne hx hb (a := (hnd (τ 4) ((j : Int) / 4) ((j : Int) / 2 % 2) (1 - (j : Int) % 2 * 2))) (off := 68) (tgt := 145) (by decide +kernel) (by decide) ⟨by omega, by omega⟩ (fun h9 => absurd h9 (by omega)) (fun _ => ?_)
          refine lv_aload_n hx hb (k := 0) (i := 0) (x := ad 0) (by decide +kernel) rfl (lv_at hl 10 rfl) ?_
          refine lv_iload hx hb (i := 6) (x := iI ((j : Int) / 4)) (by decide +kernel) (lv_at hl 4 rfl) ?_
          refine lv_iload hx hb (i := 7) (x := iI (((j : Int) / 2) % 2)) (by decide +kernel) (lv_at hl 3 rfl) ?_
          refine lv_iload hx hb (i := 8) (x := iI (1 - (((j : Int) % 2) * 2))) (by decide +kernel) (lv_at hl 2 rfl) ?_
          refine lk_call (x := 197) (rest := []) (as := [.ref (ad 0), .int (iI ((j : Int) / 4)), .int (iI (((j : Int) / 2) % 2)), .int (iI (1 - (((j : Int) % 2) * 2)))]) (n := 4) F hw hl.1 (K_kind (X := [(q1, aI cA 0 2 (g1)), (q2, aI cA 0 2 (g2)), (q3, aI cA 3 N (g3))]) (τ := τ) (f := ((j : Int) / 4)) (r := ((j : Int) / 2 % 2)) (d := (1 - (j : Int) % 2 * 2)) (B := B) F.l0 (by omega) (by omega) (by omega) hI (by omega)) (lr58 33 rfl) (lr58 34 rfl) (lr58 35 rfl) (lr58 8 rfl) ⟨rfl, by decide, by decide, by decide +kernel⟩ rfl ⟨Nat.le_of_ble_eq_true rfl, Nat.le_of_ble_eq_true rfl, (by show _ ≤ 1400; omega), (by show _ ≤ 8600; omega)⟩ (Nat.le_of_ble_eq_true rfl) (by decide +kernel) rfl (fun v9 V9 hG H locs hw => ?_)
          obtain ⟨rfl, rfl⟩ := hG
          refine W.eq (g2 := F0 m 90 ls [.int (iI (oco (τ 4) ((j : Int) / 4) ((j : Int) / 2 % 2) (1 - (j : Int) % 2 * 2)))]) rfl ?_
          refine lv_istore hx hb (i := 11) (lv' := [(11, .int (iI (oco (τ 4) ((j : Int) / 4) ((j : Int) / 2 % 2) (1 - (j : Int) % 2 * 2)))), (10, .int (iI (hnd (τ 4) ((j : Int) / 4) ((j : Int) / 2 % 2) (1 - (j : Int) % 2 * 2)))), (9, .int (iI (cel (τ 4) (0 + ((j : Int) / 4) * 6 + 0)))), (8, .int (iI (1 - (((j : Int) % 2) * 2)))), (7, .int (iI (((j : Int) / 2) % 2))), (6, .int (iI ((j : Int) / 4))), (5, .int (iI (j : Int))), (4, .ref q3), (3, .ref q2), (2, .ref q1), (1, .int (iI (cel (τ 4) 107))), (0, .ref (ad 0))]) (by decide +kernel) hl (by decide) rfl (fun ls hl => ?_)
          refine lv_aload_n hx hb (k := 2) (i := 2) (x := q1) (by decide +kernel) rfl (lv_at hl 9 rfl) ?_
          refine lv_iload hx hb (i := 9) (x := iI (cel (τ 4) (0 + ((j : Int) / 4) * 6 + 0))) (by decide +kernel) (lv_at hl 2 rfl) ?_
          refine lv_dup2_11 hx hb (by decide +kernel) rfl rfl ?_
          refine lx_iald (σ := sz τ) (X := [(q1, aI cA 0 2 (g1)), (q2, aI cA 0 2 (g2)), (q3, aI cA 3 N (g3))]) (k := 0) (q := q1) (n := 2) (g := g1) (z := (cel (τ 4) (0 + ((j : Int) / 4) * 6 + 0))) F hw rfl ⟨by omega, by omega⟩ (by omega) (by decide +kernel) ?_
          refine lv_iconst hx hb (n := 1) (v := iI 1) (by decide +kernel) rfl ?_
          refine lz_iadd hx hb (a := (g1 (cel (τ 4) (0 + ((j : Int) / 4) * 6 + 0)).toNat)) (b := 1) (by decide +kernel) ?_
          refine lx_iast (σ := sz τ) (X := [(q1, aI cA 0 2 (g1)), (q2, aI cA 0 2 (g2)), (q3, aI cA 3 N (g3))]) (k := 0) (q := q1) (n := 2) (g := g1) (z := (cel (τ 4) (0 + ((j : Int) / 4) * 6 + 0))) (v := ((g1 (cel (τ 4) (0 + ((j : Int) / 4) * 6 + 0)).toNat) + 1)) F hw rfl ⟨by omega, by omega⟩ (by omega) (by decide +kernel) (fun H locs hw => ?_)
          have hw : WV D A s (wO ad cA (sz τ) ++ [(q1, aI cA 0 2 (zu g1 (cel (τ 4) (0 + ((j : Int) / 4) * 6 + 0)).toNat ((g1 (cel (τ 4) (0 + ((j : Int) / 4) * 6 + 0)).toNat) + 1))), (q2, aI cA 0 2 (g2)), (q3, aI cA 3 N (g3))]) H locs := hw
          refine lv_aload_n hx hb (k := 3) (i := 3) (x := q2) (by decide +kernel) rfl (lv_at hl 8 rfl) ?_
          refine lv_iload hx hb (i := 9) (x := iI (cel (τ 4) (0 + ((j : Int) / 4) * 6 + 0))) (by decide +kernel) (lv_at hl 2 rfl) ?_
          refine lv_dup2_11 hx hb (by decide +kernel) rfl rfl ?_
          refine lx_iald (σ := sz τ) (X := [(q1, aI cA 0 2 (zu g1 (cel (τ 4) (0 + ((j : Int) / 4) * 6 + 0)).toNat ((g1 (cel (τ 4) (0 + ((j : Int) / 4) * 6 + 0)).toNat) + 1))), (q2, aI cA 0 2 (g2)), (q3, aI cA 3 N (g3))]) (k := 1) (q := q2) (n := 2) (g := g2) (z := (cel (τ 4) (0 + ((j : Int) / 4) * 6 + 0))) F hw rfl ⟨by omega, by omega⟩ (by omega) (by decide +kernel) ?_
          refine lv_iload hx hb (i := 11) (x := iI (oco (τ 4) ((j : Int) / 4) ((j : Int) / 2 % 2) (1 - (j : Int) % 2 * 2))) (by decide +kernel) (lv_at hl 0 rfl) ?_
          refine lv_iconst hx hb (n := 3) (v := iI 3) (by decide +kernel) rfl ?_
          refine lz_icmp_ne hx hb (a := (oco (τ 4) ((j : Int) / 4) ((j : Int) / 2 % 2) (1 - (j : Int) % 2 * 2))) (b := 3) (off := 7) (tgt := 115) (by decide +kernel) (by decide) ⟨by omega, by omega⟩ ⟨by decide, by decide⟩ (fun h9 => absurd h9 (by omega)) (fun _ => ?_)
          refine lv_iconst hx hb (n := 1) (v := iI 1) (by decide +kernel) rfl ?_
          refine lv_goto hx hb (off := 4) (tgt := 116) (by decide +kernel) (by decide) ?_
          refine lz_iadd hx hb (a := (g2 (cel (τ 4) (0 + ((j : Int) / 4) * 6 + 0)).toNat)) (b := 1) (by decide +kernel) ?_
          refine lx_iast (σ := sz τ) (X := [(q1, aI cA 0 2 (zu g1 (cel (τ 4) (0 + ((j : Int) / 4) * 6 + 0)).toNat ((g1 (cel (τ 4) (0 + ((j : Int) / 4) * 6 + 0)).toNat) + 1))), (q2, aI cA 0 2 (g2)), (q3, aI cA 3 N (g3))]) (k := 1) (q := q2) (n := 2) (g := g2) (z := (cel (τ 4) (0 + ((j : Int) / 4) * 6 + 0))) (v := ((g2 (cel (τ 4) (0 + ((j : Int) / 4) * 6 + 0)).toNat) + 1)) F hw rfl ⟨by omega, by omega⟩ (by omega) (by decide +kernel) (fun H locs hw => ?_)
          have hw : WV D A s (wO ad cA (sz τ) ++ [(q1, aI cA 0 2 (zu g1 (cel (τ 4) (0 + ((j : Int) / 4) * 6 + 0)).toNat ((g1 (cel (τ 4) (0 + ((j : Int) / 4) * 6 + 0)).toNat) + 1))), (q2, aI cA 0 2 (zu g2 (cel (τ 4) (0 + ((j : Int) / 4) * 6 + 0)).toNat ((g2 (cel (τ 4) (0 + ((j : Int) / 4) * 6 + 0)).toNat) + 1))), (q3, aI cA 3 N (g3))]) H locs := hw
          refine lv_iload hx hb (i := 11) (x := iI (oco (τ 4) ((j : Int) / 4) ((j : Int) / 2 % 2) (1 - (j : Int) % 2 * 2))) (by decide +kernel) (lv_at hl 0 rfl) ?_
          refine lv_iconst hx hb (n := 3) (v := iI 3) (by decide +kernel) rfl ?_
          refine lz_icmp_ne hx hb (a := (oco (τ 4) ((j : Int) / 4) ((j : Int) / 2 % 2) (1 - (j : Int) % 2 * 2))) (b := 3) (off := 24) (tgt := 145) (by decide +kernel) (by decide) ⟨by omega, by omega⟩ ⟨by decide, by decide⟩ (fun h9 => absurd h9 (by omega)) (fun _ => ?_)
          refine lv_aload hx hb (i := 4) (x := q3) (by decide +kernel) (lv_at hl 7 rfl) ?_
          refine lv_aload_n hx hb (k := 0) (i := 0) (x := ad 0) (by decide +kernel) rfl (lv_at hl 11 rfl) ?_
          refine lv_iload hx hb (i := 7) (x := iI (((j : Int) / 2) % 2)) (by decide +kernel) (lv_at hl 4 rfl) ?_
          refine lv_aload_n hx hb (k := 0) (i := 0) (x := ad 0) (by decide +kernel) rfl (lv_at hl 11 rfl) ?_
          refine lv_iload hx hb (i := 6) (x := iI ((j : Int) / 4)) (by decide +kernel) (lv_at hl 5 rfl) ?_
          refine lv_iload hx hb (i := 7) (x := iI (((j : Int) / 2) % 2)) (by decide +kernel) (lv_at hl 4 rfl) ?_
          refine lk_call (x := 166) (rest := [.int (iI (((j : Int) / 2) % 2)), .ref (ad 0), .ref q3]) (as := [.ref (ad 0), .int (iI ((j : Int) / 4)), .int (iI (((j : Int) / 2) % 2))]) (n := 3) F hw hl.1 (K_placeOf (X := [(q1, aI cA 0 2 (zu g1 (cel (τ 4) (0 + ((j : Int) / 4) * 6 + 0)).toNat ((g1 (cel (τ 4) (0 + ((j : Int) / 4) * 6 + 0)).toNat) + 1))), (q2, aI cA 0 2 (zu g2 (cel (τ 4) (0 + ((j : Int) / 4) * 6 + 0)).toNat ((g2 (cel (τ 4) (0 + ((j : Int) / 4) * 6 + 0)).toNat) + 1))), (q3, aI cA 3 N (g3))]) (τ := τ) (f := ((j : Int) / 4)) (r := (((j : Int) / 2) % 2)) (B := B) F.l0 (by omega) (by omega) hS) (lr58 36 rfl) (lr58 37 rfl) (lr58 38 rfl) (lr58 8 rfl) ⟨rfl, by decide, by decide, by decide +kernel⟩ rfl ⟨Nat.le_of_ble_eq_true rfl, Nat.le_of_ble_eq_true rfl, (by show _ ≤ 1400; omega), (by show _ ≤ 8600; omega)⟩ (Nat.le_of_ble_eq_true rfl) (by decide +kernel) rfl (fun v9 V9 hG H locs hw => ?_)
          obtain ⟨rfl, rfl⟩ := hG
          refine W.eq (g2 := F0 m 137 ls [.int (iI (cel (τ 4) (0 + ((j : Int) / 4) * 6 + (1 + (((j : Int) / 2) % 2))))), .int (iI (((j : Int) / 2) % 2)), .ref (ad 0), .ref q3]) rfl ?_
          refine lv_iload hx hb (i := 8) (x := iI (1 - (((j : Int) % 2) * 2))) (by decide +kernel) (lv_at hl 3 rfl) ?_
          refine lz_iadd hx hb (a := (cel (τ 4) (0 + ((j : Int) / 4) * 6 + (1 + (((j : Int) / 2) % 2))))) (b := (1 - (((j : Int) % 2) * 2))) (by decide +kernel) ?_
          refine lk_callH (x := 171) (rest := [.ref q3]) (as := [.ref (ad 0), .int (iI (((j : Int) / 2) % 2)), .int (iI ((cel (τ 4) (0 + ((j : Int) / 4) * 6 + (1 + (((j : Int) / 2) % 2)))) + (1 - (((j : Int) % 2) * 2))))]) (n := 3) F hw hl.1 (K_at (X := [(q1, aI cA 0 2 (zu g1 (cel (τ 4) (0 + ((j : Int) / 4) * 6 + 0)).toNat ((g1 (cel (τ 4) (0 + ((j : Int) / 4) * 6 + 0)).toNat) + 1))), (q2, aI cA 0 2 (zu g2 (cel (τ 4) (0 + ((j : Int) / 4) * 6 + 0)).toNat ((g2 (cel (τ 4) (0 + ((j : Int) / 4) * 6 + 0)).toNat) + 1))), (q3, aI cA 3 N (g3))]) (τ := τ) (r := (((j : Int) / 2) % 2)) (p := ((cel (τ 4) (0 + ((j : Int) / 4) * 6 + (1 + (((j : Int) / 2) % 2)))) + (1 - (((j : Int) % 2) * 2)))) F.l0 (by omega) (by omega)) (lr58 45 rfl) (lr58 46 rfl) (lr58 47 rfl) (lr58 8 rfl) ⟨by decide, by decide, by decide +kernel⟩ rfl ⟨Nat.le_of_ble_eq_true rfl, Nat.le_of_ble_eq_true rfl, (by show _ ≤ 1400; omega), (by show _ ≤ 8600; omega)⟩ (Nat.le_of_ble_eq_true rfl) (by decide +kernel) rfl (fun v9 V9 hG H locs hw => ?_)
          obtain ⟨rfl, rfl⟩ := hG
          refine W.eq (g2 := F0 m 143 ls [.int (iI (whz (τ 4) (((j : Int) / 2) % 2) ((cel (τ 4) (0 + ((j : Int) / 4) * 6 + (1 + (((j : Int) / 2) % 2)))) + (1 - (((j : Int) % 2) * 2))))), .ref q3]) rfl ?_
          refine lv_iconst hx hb (n := 1) (v := iI 1) (by decide +kernel) rfl ?_
          refine lx_zast (σ := sz τ) (X := [(q1, aI cA 0 2 (zu g1 (cel (τ 4) (0 + ((j : Int) / 4) * 6 + 0)).toNat ((g1 (cel (τ 4) (0 + ((j : Int) / 4) * 6 + 0)).toNat) + 1))), (q2, aI cA 0 2 (zu g2 (cel (τ 4) (0 + ((j : Int) / 4) * 6 + 0)).toNat ((g2 (cel (τ 4) (0 + ((j : Int) / 4) * 6 + 0)).toNat) + 1))), (q3, aI cA 3 N (g3))]) (k := 2) (q := q3) (n := N) (g := g3) (z := (whz (τ 4) (((j : Int) / 2) % 2) ((cel (τ 4) (0 + ((j : Int) / 4) * 6 + (1 + (((j : Int) / 2) % 2)))) + (1 - (((j : Int) % 2) * 2))))) (v := 1) F hw rfl ⟨by omega, by omega⟩ (by omega) (Or.inr rfl) (by decide +kernel) (fun H locs hw => ?_)
          have hw : WV D A s (wO ad cA (sz τ) ++ [(q1, aI cA 0 2 (zu g1 (cel (τ 4) (0 + ((j : Int) / 4) * 6 + 0)).toNat ((g1 (cel (τ 4) (0 + ((j : Int) / 4) * 6 + 0)).toNat) + 1))), (q2, aI cA 0 2 (zu g2 (cel (τ 4) (0 + ((j : Int) / 4) * 6 + 0)).toNat ((g2 (cel (τ 4) (0 + ((j : Int) / 4) * 6 + 0)).toNat) + 1))), (q3, aI cA 3 N (zu g3 (whz (τ 4) (((j : Int) / 2) % 2) ((cel (τ 4) (0 + ((j : Int) / 4) * 6 + (1 + (((j : Int) / 2) % 2)))) + (1 - (((j : Int) % 2) * 2)))).toNat 1))]) H locs := hw
          exact tail (zu g1 (cel (τ 4) (0 + ((j : Int) / 4) * 6 + 0)).toNat ((g1 (cel (τ 4) (0 + ((j : Int) / 4) * 6 + 0)).toNat) + 1)) (zu g2 (cel (τ 4) (0 + ((j : Int) / 4) * 6 + 0)).toNat ((g2 (cel (τ 4) (0 + ((j : Int) / 4) * 6 + 0)).toNat) + 1)) (zu g3 (whz (τ 4) (((j : Int) / 2) % 2) ((cel (τ 4) (0 + ((j : Int) / 4) * 6 + (1 + (((j : Int) / 2) % 2)))) + (1 - (((j : Int) % 2) * 2)))).toNat 1) ls _ _ _ _ (cnt_1 hg1 hsd (by omega)) (ccn_1 hg2 hsd (by omega)) (thn_1 hg3 (by omega)) (by omega) (by omega) (lv_sub hl [1, 2, 3, 4, 5, 6, 7, 8, 9, 10, 11] rfl) hw
  exact loop (4 * N) 0 0 (fun _ => 0) (fun _ => 0) (fun _ => 0) ls _ _ _ _ (by omega) rfl ⟨rfl, rfl⟩ ⟨rfl, rfl⟩ (fun _ _ => rfl) (by omega) (by omega) (lv_sub hl [0, 1, 2, 3, 4, 5] rfl) hw
end MVD
