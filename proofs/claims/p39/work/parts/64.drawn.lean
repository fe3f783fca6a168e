/-! rivers with ferries, tugs, locks and fog, and some moves, as the law draws them: printed by wip/p39/db64.py -/
section DRN
variable {l : Launch} {D : va_G} {A : Nat → Prop} {ad adV : Nat → Nat} {cA : Nat → ClassId}
def lr64W : List Jvm.Cond := [.methodLink RL 133 yL_cell,
  .static yL_cell,
  .code yL_cell method_2_code 2 (some .int),
  .initialized RL,
  .methodLink RL 150 yL_best,
  .static yL_best,
  .codeWith yL_best method_20_code 3 (some .int) [(0, 5, 6, 14), (0, 5, 10, 58)],
  .methodLink RL 153 yL_pass,
  .static yL_pass,
  .codeWith yL_pass method_8_code 2 (some .int) [(0, 4, 5, 16)],
  .methodLink RL 155 (mY m7_account),
  .instanceMethod (mY m7_account),
  .selects (mY m7_account).cls (mY m7_account) (mY m7_account),
  .methodLink RL 158 yL_would,
  .static yL_would,
  .codeWith yL_would method_13_code 5 (some .int) [(0, 7, 8, 22)],
  .methodLink RL 161 yL_move,
  .static yL_move,
  .codeWith yL_move method_7_code 5 (some .int) [(0, 7, 8, 22), (0, 7, 13, 16)],
  .methodLink RL 148 yL_fog,
  .static yL_fog,
  .codeWith yL_fog method_6_code 5 (some .int) [(0, 7, 8, 22), (0, 7, 13, 14), (0, 7, 18, 16)],
  .methodLink RL 143 yL_lock,
  .static yL_lock,
  .codeWith yL_lock method_5_code 5 (some .int) [(0, 7, 8, 22), (0, 7, 13, 14), (0, 7, 18, 16)],
  .methodLink RL 145 yL_tug,
  .static yL_tug,
  .codeWith yL_tug method_4_code 4 (some .int) [(0, 6, 7, 22), (0, 6, 11, 16)],
  .methodLink RL 140 yL_refusal,
  .static yL_refusal,
  .codeWith yL_refusal method_29_code 4 (some .int) [(0, 6, 7, 14), (0, 6, 12, 58)],
  .methodLink RL 137 yL_ferry,
  .static yL_ferry,
  .codeWith yL_ferry method_3_code 5 (some .int) [(0, 7, 8, 14), (0, 7, 13, 16)]]
theorem lr64_in : ∀ w ∈ lr64W, w ∈ lw_tbl := by decide +kernel
theorem lr64 (k : Nat) {w : Jvm.Cond} (h : lr64W[k]? = some w) : w ∈ lw_tbl := lr64_in w (List.mem_of_getElem? h)
theorem dr_moves {p : Program} {e : Env} {s : State} {m : MethodId} {args : Array Value} {below : List Frame} {meth : Method} {c : Code} {G : Option Value → va_W → Prop} (F : FL D A ad adV cA p l s m args c method_32_code 10) (hlk : meth.locks = false) (hrt : meth.sig.returnType = some (.object "FerryDraughts")) (hGr : ∀ (τ9 : SZ) (h9 : List (Nat → Int)), CV 6000 τ9 h9 → G (some (.ref (ad 0))) (wO ad cA (sz τ9) ++ [])) {cc : Int} (hcc : 0 ≤ cc ∧ cc < 2147483648) : ∀ (q j : Nat) (z : Int) (τ1 : SZ) (h1 : List (Nat → Int)) (ls : Array Slot) (H : Heap) (locs : List Loc) (cl sl : Nat), j + q = 8 → z = (j : Int) → CV (3000 + 200 * (j : Int)) τ1 h1 → cl ≤ 60 + 8 * j → sl ≤ 1800 + 48 * j → lv_has ls 10 [(4, .int (iI z)), (2, .int (iI cc)), (1, .ref (ad 0)), (0, .ref (ad 99))] → WV D A s (wO ad cA (sz τ1) ++ []) H locs → W p l e (rmK 23 200 2700) s m args below meth c H locs cl sl (vx_MQ below (LQ D A G) (fun _ _ _ => False) args s 200 2700 A) (F0 m 249 ls []) := by
  have hx := F.1
  have hb := F.2.1
  have hmx : mX m7_account = 1 := rfl
  intro q
  induction q with
  | zero =>
    intro j z τ1 h1 ls H locs cl sl hk hz C1 hcl hsl hl hw
    refine lv_iload hx hb (i := 4) (x := iI z) (by decide +kernel) (lv_at hl 0 rfl) ?_
    refine lv_bipush hx hb (n := 8) (v := iI 8) (by decide +kernel) (by decide) ?_
    refine lz_icmp_ge hx hb (a := z) (b := 8) (off := 157) (tgt := 410) (by decide +kernel) (by decide) ⟨by omega, by omega⟩ ⟨by decide, by decide⟩ (fun _ => ?_) (fun h9 => absurd (by omega) h9)
    refine lv_aload_n hx hb (k := 1) (i := 1) (x := ad 0) (by decide +kernel) rfl (lv_at hl 2 rfl) ?_
    exact lk_aret F hlk hrt hw (hGr _ _ (C1.mono (by omega) (by omega))) (by omega) (by omega) (by decide +kernel)
  | succ q ih =>
    intro j z τ1 h1 ls H locs cl sl hk hz C1 hcl hsl hl hw
    subst hz
    obtain ⟨c_, e1⟩ : ∃ c_, τ1 4 = c_ := ⟨_, rfl⟩
    have hI : Iv _ c_ := e1 ▸ C1.1
    have hS := hI.1
    have hn := hS.n
    have htu := hS.tu
    have hN : cel c_ 107 = ((cel c_ 107).toNat : Int) := by omega
    have hbi := (bsb_in hI (by omega) (4 * cel c_ 107).toNat (by omega)).1
    have hok := bsb_ok (c := c_) (4 * cel c_ 107).toNat
    generalize hbb : (bsb c_ (4 * cel c_ 107).toNat).1 = bb at hbi hok
    by_cases hneg : bb < 0
    ·
      refine lv_iload hx hb (i := 4) (x := iI (j : Int)) (by decide +kernel) (lv_at hl 0 rfl) ?_
      refine lv_bipush hx hb (n := 8) (v := iI 8) (by decide +kernel) (by decide) ?_
      refine lz_icmp_ge hx hb (a := (j : Int)) (b := 8) (off := 157) (tgt := 410) (by decide +kernel) (by decide) ⟨by omega, by omega⟩ ⟨by decide, by decide⟩ (fun h9 => absurd h9 (by omega)) (fun _ => ?_)
      refine lv_aload_n hx hb (k := 0) (i := 0) (x := ad 99) (by decide +kernel) rfl (lv_at hl 3 rfl) ?_
      refine lv_bipush hx hb (n := 12) (v := iI 12) (by decide +kernel) (by decide) ?_
      refine lv_iload hx hb (i := 4) (x := iI (j : Int)) (by decide +kernel) (lv_at hl 0 rfl) ?_
      refine lz_iadd hx hb (a := 12) (b := (j : Int)) (by decide +kernel) ?_
      refine lk_call (x := 133) (rest := []) (as := [.ref (ad 99), .int (iI (12 + (j : Int)))]) (n := 2) F hw hl.1 (K_cell (V := wO ad cA (sz τ1) ++ []) (k := 12 + (j : Int)) F.l0 (by omega)) (lr64 0 rfl) (lr64 1 rfl) (lr64 2 rfl) (lr64 3 rfl) ⟨rfl, by decide, by decide, by decide +kernel⟩ rfl ⟨Nat.le_of_ble_eq_true rfl, Nat.le_of_ble_eq_true rfl, (by show _ ≤ 200; omega), (by show _ ≤ 2700; omega)⟩ (Nat.le_of_ble_eq_true rfl) (by decide +kernel) rfl (fun v9 V9 hG H locs hw => ?_)
      obtain ⟨⟨x9, rfl⟩, rfl⟩ := hG
      refine W.eq (g2 := F0 m 265 ls [.int x9]) rfl ?_
      refine lv_iconst hx hb (n := 1) (v := iI 1) (by decide +kernel) rfl ?_
      obtain ⟨dd, hdd, edd⟩ := ush_ex x9
      refine lv_iushr hx hb (x := x9) (y := iI 1) (v := iI dd) (by decide +kernel) edd ?_
      refine lv_istore hx hb (i := 5) (lv' := [(5, .int (iI dd)), (4, .int (iI (j : Int))), (2, .int (iI cc)), (1, .ref (ad 0)), (0, .ref (ad 99))]) (by decide +kernel) hl (by decide) rfl (fun ls hl => ?_)
      refine lv_aload_n hx hb (k := 1) (i := 1) (x := ad 0) (by decide +kernel) rfl (lv_at hl 3 rfl) ?_
      refine lv_iconst hx hb (n := 0) (v := iI 0) (by decide +kernel) rfl ?_
      refine lk_callH (x := 150) (rest := []) (as := [.ref (ad 0), .int (iI 0)]) (n := 2) F hw hl.1 ((M_best_0 (X := []) (τ := τ1) (c := c_) F.l0 C1 e1 (by omega)).to (k' := (-13)) (by rw [hbb, if_pos (by omega)])) (lr64 4 rfl) (lr64 5 rfl) (lr64 6 rfl) (lr64 3 rfl) ⟨by decide, by decide, by decide +kernel⟩ rfl ⟨Nat.le_of_ble_eq_true rfl, Nat.le_of_ble_eq_true rfl, (by show _ ≤ 200; omega), (by show _ ≤ 2700; omega)⟩ (Nat.le_of_ble_eq_true rfl) (by decide +kernel) rfl (fun v9 V9 hG H locs hw => ?_)
      obtain ⟨rfl, rfl⟩ := hG
      refine W.eq (g2 := F0 m 274 ls [.int (iI (-13))]) rfl ?_
      have C20 := C1.t5 (bsd_tz hI (by omega) C1.2.2.2.1 (4 * cel c_ 107).toNat (by omega))
      have e20 : (zr τ1 5 (bsd c_ (τ1 5) (4 * cel c_ 107).toNat)) 4 = c_ := e1
      generalize hg0 : zr τ1 5 (bsd c_ (τ1 5) (4 * cel c_ 107).toNat) = τ20 at hw C20 e20
      refine lv_istore hx hb (i := 6) (lv' := [(6, .int (iI (-13))), (5, .int (iI dd)), (4, .int (iI (j : Int))), (2, .int (iI cc)), (1, .ref (ad 0)), (0, .ref (ad 99))]) (by decide +kernel) hl (by decide) rfl (fun ls hl => ?_)
      refine lv_iload hx hb (i := 6) (x := iI (-13)) (by decide +kernel) (lv_at hl 0 rfl) ?_
      refine lv_bipush hx hb (n := (-13)) (v := iI (-13)) (by decide +kernel) (by decide) ?_
      refine lz_icmp_ne hx hb (a := (-13)) (b := (-13)) (off := 12) (tgt := 292) (by decide +kernel) (by decide) ⟨by decide, by decide⟩ ⟨by decide, by decide⟩ (fun h9 => absurd h9 (by decide)) (fun _ => ?_)
      refine lv_aload_n hx hb (k := 1) (i := 1) (x := ad 0) (by decide +kernel) rfl (lv_at hl 4 rfl) ?_
      obtain ⟨z3, τ3, h3, w3, hz3, C3⟩ := D_pass (X := []) (ad := ad) (adV := adV) (cA := cA) (D := D) (A := A) F.l0 C20 (by omega) (by rw [e20, hbb]; omega)
      refine lk_callH (x := 153) (rest := []) (as := [.ref (ad 0)]) (n := 1) F hw hl.1 (w3) (lr64 7 rfl) (lr64 8 rfl) (lr64 9 rfl) (lr64 3 rfl) ⟨by decide, by decide, by decide +kernel⟩ rfl ⟨Nat.le_of_ble_eq_true rfl, Nat.le_of_ble_eq_true rfl, (by show _ ≤ 200; omega), (by show _ ≤ 2700; omega)⟩ (Nat.le_of_ble_eq_true rfl) (by decide +kernel) rfl (fun v9 V9 hG H locs hw => ?_)
      obtain ⟨rfl, rfl⟩ := hG
      refine W.eq (g2 := F0 m 287 ls [.int (iI z3)]) rfl ?_
      refine lz_if_ge hx hb (a := z3) (off := 117) (tgt := 404) (by decide +kernel) (by decide) ⟨by omega, by omega⟩ (fun _ => ?_) (fun h9 => absurd (by omega) h9)
      refine lv_iinc hx hb (i := 4) (n := 1) (v := iI ((j : Int) + 1)) (lv' := [(4, .int (iI ((j : Int) + 1))), (6, .int (iI (-13))), (5, .int (iI dd)), (2, .int (iI cc)), (1, .ref (ad 0)), (0, .ref (ad 99))]) (by decide +kernel) hl (k := 2) rfl (iI_add _ _) (by decide) rfl (fun ls hl => ?_)
      refine lv_goto hx hb (off := (-158)) (tgt := 249) (by decide +kernel) (by decide) ?_
      exact ih (j + 1) _ τ3 _ ls _ _ _ _ (by omega) (by omega) (C3.mono (by omega) (by omega)) (by omega) (by omega) (lv_sub hl [0, 3, 4, 5] rfl) hw
    ·
      refine lv_iload hx hb (i := 4) (x := iI (j : Int)) (by decide +kernel) (lv_at hl 0 rfl) ?_
      refine lv_bipush hx hb (n := 8) (v := iI 8) (by decide +kernel) (by decide) ?_
      refine lz_icmp_ge hx hb (a := (j : Int)) (b := 8) (off := 157) (tgt := 410) (by decide +kernel) (by decide) ⟨by omega, by omega⟩ ⟨by decide, by decide⟩ (fun h9 => absurd h9 (by omega)) (fun _ => ?_)
      refine lv_aload_n hx hb (k := 0) (i := 0) (x := ad 99) (by decide +kernel) rfl (lv_at hl 3 rfl) ?_
      refine lv_bipush hx hb (n := 12) (v := iI 12) (by decide +kernel) (by decide) ?_
      refine lv_iload hx hb (i := 4) (x := iI (j : Int)) (by decide +kernel) (lv_at hl 0 rfl) ?_
      refine lz_iadd hx hb (a := 12) (b := (j : Int)) (by decide +kernel) ?_
      refine lk_call (x := 133) (rest := []) (as := [.ref (ad 99), .int (iI (12 + (j : Int)))]) (n := 2) F hw hl.1 (K_cell (V := wO ad cA (sz τ1) ++ []) (k := 12 + (j : Int)) F.l0 (by omega)) (lr64 0 rfl) (lr64 1 rfl) (lr64 2 rfl) (lr64 3 rfl) ⟨rfl, by decide, by decide, by decide +kernel⟩ rfl ⟨Nat.le_of_ble_eq_true rfl, Nat.le_of_ble_eq_true rfl, (by show _ ≤ 200; omega), (by show _ ≤ 2700; omega)⟩ (Nat.le_of_ble_eq_true rfl) (by decide +kernel) rfl (fun v9 V9 hG H locs hw => ?_)
      obtain ⟨⟨x9, rfl⟩, rfl⟩ := hG
      refine W.eq (g2 := F0 m 265 ls [.int x9]) rfl ?_
      refine lv_iconst hx hb (n := 1) (v := iI 1) (by decide +kernel) rfl ?_
      obtain ⟨dd, hdd, edd⟩ := ush_ex x9
      refine lv_iushr hx hb (x := x9) (y := iI 1) (v := iI dd) (by decide +kernel) edd ?_
      refine lv_istore hx hb (i := 5) (lv' := [(5, .int (iI dd)), (4, .int (iI (j : Int))), (2, .int (iI cc)), (1, .ref (ad 0)), (0, .ref (ad 99))]) (by decide +kernel) hl (by decide) rfl (fun ls hl => ?_)
      refine lv_aload_n hx hb (k := 1) (i := 1) (x := ad 0) (by decide +kernel) rfl (lv_at hl 3 rfl) ?_
      refine lv_iconst hx hb (n := 0) (v := iI 0) (by decide +kernel) rfl ?_
      refine lk_callH (x := 150) (rest := []) (as := [.ref (ad 0), .int (iI 0)]) (n := 2) F hw hl.1 ((M_best_0 (X := []) (τ := τ1) (c := c_) F.l0 C1 e1 (by omega)).to (k' := bb / 4) (by rw [hbb, if_neg (by omega)])) (lr64 4 rfl) (lr64 5 rfl) (lr64 6 rfl) (lr64 3 rfl) ⟨by decide, by decide, by decide +kernel⟩ rfl ⟨Nat.le_of_ble_eq_true rfl, Nat.le_of_ble_eq_true rfl, (by show _ ≤ 200; omega), (by show _ ≤ 2700; omega)⟩ (Nat.le_of_ble_eq_true rfl) (by decide +kernel) rfl (fun v9 V9 hG H locs hw => ?_)
      obtain ⟨rfl, rfl⟩ := hG
      refine W.eq (g2 := F0 m 274 ls [.int (iI (bb / 4))]) rfl ?_
      have C20 := C1.t5 (bsd_tz hI (by omega) C1.2.2.2.1 (4 * cel c_ 107).toNat (by omega))
      have e20 : (zr τ1 5 (bsd c_ (τ1 5) (4 * cel c_ 107).toNat)) 4 = c_ := e1
      generalize hg0 : zr τ1 5 (bsd c_ (τ1 5) (4 * cel c_ 107).toNat) = τ20 at hw C20 e20
      refine lv_istore hx hb (i := 6) (lv' := [(6, .int (iI (bb / 4))), (5, .int (iI dd)), (4, .int (iI (j : Int))), (2, .int (iI cc)), (1, .ref (ad 0)), (0, .ref (ad 99))]) (by decide +kernel) hl (by decide) rfl (fun ls hl => ?_)
      refine lv_iload hx hb (i := 6) (x := iI (bb / 4)) (by decide +kernel) (lv_at hl 0 rfl) ?_
      refine lv_bipush hx hb (n := (-13)) (v := iI (-13)) (by decide +kernel) (by decide) ?_
      refine lz_icmp_ne hx hb (a := (bb / 4)) (b := (-13)) (off := 12) (tgt := 292) (by decide +kernel) (by decide) ⟨by omega, by omega⟩ ⟨by decide, by decide⟩ (fun _ => ?_) (fun h9 => absurd (by omega) h9)
      refine lv_aload_n hx hb (k := 1) (i := 1) (x := ad 0) (by decide +kernel) rfl (lv_at hl 4 rfl) ?_
      refine lv_iconst hx hb (n := 0) (v := iI 0) (by decide +kernel) rfl ?_
      refine fl_call (d := 6) (j := m7_account) (as := [.inr 0]) (X := []) (x := 155) (rest := []) F hw hl.1 (c_acc0 e20 hS hN) (by decide) rfl rfl (lr64 10 rfl) (lr64 11 rfl) (lr64 12 rfl) ⟨Nat.le_of_ble_eq_true rfl, Nat.le_of_ble_eq_true rfl, (by show _ ≤ 200; omega), (by show _ ≤ 2700; omega)⟩ (Nat.le_of_ble_eq_true rfl) (by decide +kernel) rfl (fun E9 τ9 e9 => by cases e9) (fun v9 τ9 e9 H locs hw => ?_)
      cases e9
      refine W.eq (g2 := F0 m 297 ls [.int (iI (cel c_ 107))]) rfl ?_
      refine lv_istore hx hb (i := 7) (lv' := [(7, .int (iI (cel c_ 107))), (6, .int (iI (bb / 4))), (5, .int (iI dd)), (4, .int (iI (j : Int))), (2, .int (iI cc)), (1, .ref (ad 0)), (0, .ref (ad 99))]) (by decide +kernel) hl (by decide) rfl (fun ls hl => ?_)
      refine lv_iload hx hb (i := 5) (x := iI dd) (by decide +kernel) (lv_at hl 2 rfl) ?_
      refine lv_iload hx hb (i := 7) (x := iI (cel c_ 107)) (by decide +kernel) (lv_at hl 0 rfl) ?_
      refine lz_irem hx hb (a := dd) (b := (cel c_ 107)) (by decide +kernel) ⟨by omega, by omega, by omega, by omega⟩ ?_
      refine lv_istore hx hb (i := 8) (lv' := [(8, .int (iI (dd % (cel c_ 107)))), (7, .int (iI (cel c_ 107))), (6, .int (iI (bb / 4))), (5, .int (iI dd)), (4, .int (iI (j : Int))), (2, .int (iI cc)), (1, .ref (ad 0)), (0, .ref (ad 99))]) (by decide +kernel) hl (by decide) rfl (fun ls hl => ?_)
      have hf : 0 ≤ dd % cel c_ 107 ∧ dd % cel c_ 107 < cel c_ 107 := ⟨Int.emod_nonneg _ (by omega), Int.emod_lt_of_pos _ (by omega)⟩
      generalize hff : dd % cel c_ 107 = ff at hl hf
      by_cases h5 : dd % 5 ≤ 1
      ·
        by_cases hm : ocn c_ ff (dd / 16 % 2) (-1) = 1 ∨ ocn c_ ff (dd / 16 % 2) (-1) = 2 ∨ ocn c_ ff (dd / 16 % 2) (-1) = 3
        ·
          refine lv_aload_n hx hb (k := 1) (i := 1) (x := ad 0) (by decide +kernel) rfl (lv_at hl 6 rfl) ?_
          refine lv_iload hx hb (i := 8) (x := iI ff) (by decide +kernel) (lv_at hl 0 rfl) ?_
          refine lv_iload hx hb (i := 5) (x := iI dd) (by decide +kernel) (lv_at hl 3 rfl) ?_
          refine lv_iconst hx hb (n := 4) (v := iI 4) (by decide +kernel) rfl ?_
          refine lv_iushr hx hb (x := iI dd) (y := iI 4) (v := iI (dd / 16)) (by decide +kernel) (iI_ushr (k := 4) (d := 16) ⟨by omega, by omega⟩ (by decide +kernel) (by decide)) ?_
          refine lv_iconst hx hb (n := 2) (v := iI 2) (by decide +kernel) rfl ?_
          refine lz_irem hx hb (a := (dd / 16)) (b := 2) (by decide +kernel) ⟨by omega, by omega, by omega, by omega⟩ ?_
          refine lv_iload hx hb (i := 5) (x := iI dd) (by decide +kernel) (lv_at hl 3 rfl) ?_
          refine lv_iconst hx hb (n := 5) (v := iI 5) (by decide +kernel) rfl ?_
          refine lz_irem hx hb (a := dd) (b := 5) (by decide +kernel) ⟨by omega, by omega, by omega, by omega⟩ ?_
          refine lv_iconst hx hb (n := 1) (v := iI 1) (by decide +kernel) rfl ?_
          refine lz_icmp_le hx hb (a := (dd % 5)) (b := 1) (off := 7) (tgt := 327) (by decide +kernel) (by decide) ⟨by omega, by omega⟩ ⟨by decide, by decide⟩ (fun _ => ?_) (fun h9 => absurd (by omega) h9)
          refine lv_iconst hx hb (n := 0) (v := iI 0) (by decide +kernel) rfl ?_
          refine lk_callH (x := 158) (rest := []) (as := [.ref (ad 0), .int (iI ff), .int (iI ((dd / 16) % 2)), .int (iI 0)]) (n := 4) F hw hl.1 ((N_would_0 (X := []) F.l0 hS e20 hf (by omega)).to (k' := ocn c_ ff (dd / 16 % 2) (-1)) (if_pos hm)) (lr64 13 rfl) (lr64 14 rfl) (lr64 15 rfl) (lr64 3 rfl) ⟨by decide, by decide, by decide +kernel⟩ rfl ⟨Nat.le_of_ble_eq_true rfl, Nat.le_of_ble_eq_true rfl, (by show _ ≤ 200; omega), (by show _ ≤ 2700; omega)⟩ (Nat.le_of_ble_eq_true rfl) (by decide +kernel) rfl (fun v9 V9 hG H locs hw => ?_)
          obtain ⟨rfl, rfl⟩ := hG
          refine W.eq (g2 := F0 m 331 ls [.int (iI (ocn c_ ff (dd / 16 % 2) (-1)))]) rfl ?_
          refine lz_if_le hx hb (a := (ocn c_ ff (dd / 16 % 2) (-1))) (off := 35) (tgt := 366) (by decide +kernel) (by decide) ⟨by omega, by omega⟩ (fun h9 => absurd h9 (by omega)) (fun _ => ?_)
          refine lv_aload_n hx hb (k := 1) (i := 1) (x := ad 0) (by decide +kernel) rfl (lv_at hl 6 rfl) ?_
          refine lv_iload hx hb (i := 8) (x := iI ff) (by decide +kernel) (lv_at hl 0 rfl) ?_
          refine lv_iload hx hb (i := 5) (x := iI dd) (by decide +kernel) (lv_at hl 3 rfl) ?_
          refine lv_iconst hx hb (n := 4) (v := iI 4) (by decide +kernel) rfl ?_
          refine lv_iushr hx hb (x := iI dd) (y := iI 4) (v := iI (dd / 16)) (by decide +kernel) (iI_ushr (k := 4) (d := 16) ⟨by omega, by omega⟩ (by decide +kernel) (by decide)) ?_
          refine lv_iconst hx hb (n := 2) (v := iI 2) (by decide +kernel) rfl ?_
          refine lz_irem hx hb (a := (dd / 16)) (b := 2) (by decide +kernel) ⟨by omega, by omega, by omega, by omega⟩ ?_
          refine lv_iload hx hb (i := 5) (x := iI dd) (by decide +kernel) (lv_at hl 3 rfl) ?_
          refine lv_iconst hx hb (n := 5) (v := iI 5) (by decide +kernel) rfl ?_
          refine lz_irem hx hb (a := dd) (b := 5) (by decide +kernel) ⟨by omega, by omega, by omega, by omega⟩ ?_
          refine lv_iconst hx hb (n := 1) (v := iI 1) (by decide +kernel) rfl ?_
          refine lz_icmp_le hx hb (a := (dd % 5)) (b := 1) (off := 7) (tgt := 355) (by decide +kernel) (by decide) ⟨by omega, by omega⟩ ⟨by decide, by decide⟩ (fun _ => ?_) (fun h9 => absurd (by omega) h9)
          refine lv_iconst hx hb (n := 0) (v := iI 0) (by decide +kernel) rfl ?_
          obtain ⟨z3, τ3, h3, w3, hz3, C3⟩ := D_move_0 (X := []) (ad := ad) (adV := adV) (cA := cA) (D := D) (A := A) F.l0 C20 (by omega) e20 hf (by omega) hm
          refine lk_callH (x := 161) (rest := []) (as := [.ref (ad 0), .int (iI ff), .int (iI ((dd / 16) % 2)), .int (iI 0)]) (n := 4) F hw hl.1 (w3) (lr64 16 rfl) (lr64 17 rfl) (lr64 18 rfl) (lr64 3 rfl) ⟨by decide, by decide, by decide +kernel⟩ rfl ⟨Nat.le_of_ble_eq_true rfl, Nat.le_of_ble_eq_true rfl, (by show _ ≤ 200; omega), (by show _ ≤ 2700; omega)⟩ (Nat.le_of_ble_eq_true rfl) (by decide +kernel) rfl (fun v9 V9 hG H locs hw => ?_)
          obtain ⟨rfl, rfl⟩ := hG
          refine W.eq (g2 := F0 m 359 ls [.int (iI z3)]) rfl ?_
          refine lz_if_lt hx hb (a := z3) (off := 7) (tgt := 366) (by decide +kernel) (by decide) ⟨by omega, by omega⟩ (fun h9 => absurd h9 (by omega)) (fun _ => ?_)
          refine lv_iconst hx hb (n := 1) (v := iI 1) (by decide +kernel) rfl ?_
          refine lv_goto hx hb (off := 4) (tgt := 367) (by decide +kernel) (by decide) ?_
          refine lv_istore hx hb (i := 9) (lv' := [(9, .int (iI 1)), (8, .int (iI ff)), (7, .int (iI (cel c_ 107))), (6, .int (iI (bb / 4))), (5, .int (iI dd)), (4, .int (iI (j : Int))), (2, .int (iI cc)), (1, .ref (ad 0)), (0, .ref (ad 99))]) (by decide +kernel) hl (by decide) rfl (fun ls hl => ?_)
          refine lv_iload hx hb (i := 9) (x := iI 1) (by decide +kernel) (lv_at hl 0 rfl) ?_
          refine lz_if_ne hx hb (a := 1) (off := 33) (tgt := 404) (by decide +kernel) (by decide) ⟨by decide, by decide⟩ (fun _ => ?_) (fun h9 => absurd (by decide) h9)
          refine lv_iinc hx hb (i := 4) (n := 1) (v := iI ((j : Int) + 1)) (lv' := [(4, .int (iI ((j : Int) + 1))), (9, .int (iI 1)), (8, .int (iI ff)), (7, .int (iI (cel c_ 107))), (6, .int (iI (bb / 4))), (5, .int (iI dd)), (2, .int (iI cc)), (1, .ref (ad 0)), (0, .ref (ad 99))]) (by decide +kernel) hl (k := 5) rfl (iI_add _ _) (by decide) rfl (fun ls hl => ?_)
          refine lv_goto hx hb (off := (-158)) (tgt := 249) (by decide +kernel) (by decide) ?_
          exact ih (j + 1) _ τ3 _ ls _ _ _ _ (by omega) (by omega) (C3.mono (by omega) (by omega)) (by omega) (by omega) (lv_sub hl [0, 6, 7, 8] rfl) hw
        ·
          by_cases hev : bb % 2 = 0
          ·
            have hst : stp bb = 1 := if_pos (by omega)
            have hm2 := hok (by omega)
            unfold omv at hm2
            rw [hst] at hm2
            refine lv_aload_n hx hb (k := 1) (i := 1) (x := ad 0) (by decide +kernel) rfl (lv_at hl 6 rfl) ?_
            refine lv_iload hx hb (i := 8) (x := iI ff) (by decide +kernel) (lv_at hl 0 rfl) ?_
            refine lv_iload hx hb (i := 5) (x := iI dd) (by decide +kernel) (lv_at hl 3 rfl) ?_
            refine lv_iconst hx hb (n := 4) (v := iI 4) (by decide +kernel) rfl ?_
            refine lv_iushr hx hb (x := iI dd) (y := iI 4) (v := iI (dd / 16)) (by decide +kernel) (iI_ushr (k := 4) (d := 16) ⟨by omega, by omega⟩ (by decide +kernel) (by decide)) ?_
            refine lv_iconst hx hb (n := 2) (v := iI 2) (by decide +kernel) rfl ?_
            refine lz_irem hx hb (a := (dd / 16)) (b := 2) (by decide +kernel) ⟨by omega, by omega, by omega, by omega⟩ ?_
            refine lv_iload hx hb (i := 5) (x := iI dd) (by decide +kernel) (lv_at hl 3 rfl) ?_
            refine lv_iconst hx hb (n := 5) (v := iI 5) (by decide +kernel) rfl ?_
            refine lz_irem hx hb (a := dd) (b := 5) (by decide +kernel) ⟨by omega, by omega, by omega, by omega⟩ ?_
            refine lv_iconst hx hb (n := 1) (v := iI 1) (by decide +kernel) rfl ?_
            refine lz_icmp_le hx hb (a := (dd % 5)) (b := 1) (off := 7) (tgt := 327) (by decide +kernel) (by decide) ⟨by omega, by omega⟩ ⟨by decide, by decide⟩ (fun _ => ?_) (fun h9 => absurd (by omega) h9)
            refine lv_iconst hx hb (n := 0) (v := iI 0) (by decide +kernel) rfl ?_
            refine lk_callH (x := 158) (rest := []) (as := [.ref (ad 0), .int (iI ff), .int (iI ((dd / 16) % 2)), .int (iI 0)]) (n := 4) F hw hl.1 ((N_would_0 (X := []) F.l0 hS e20 hf (by omega)).to (k' := 0) (if_neg hm)) (lr64 13 rfl) (lr64 14 rfl) (lr64 15 rfl) (lr64 3 rfl) ⟨by decide, by decide, by decide +kernel⟩ rfl ⟨Nat.le_of_ble_eq_true rfl, Nat.le_of_ble_eq_true rfl, (by show _ ≤ 200; omega), (by show _ ≤ 2700; omega)⟩ (Nat.le_of_ble_eq_true rfl) (by decide +kernel) rfl (fun v9 V9 hG H locs hw => ?_)
            obtain ⟨rfl, rfl⟩ := hG
            refine W.eq (g2 := F0 m 331 ls [.int (iI 0)]) rfl ?_
            refine lz_if_le hx hb (a := 0) (off := 35) (tgt := 366) (by decide +kernel) (by decide) ⟨by decide, by decide⟩ (fun _ => ?_) (fun h9 => absurd (by decide) h9)
            refine lv_iconst hx hb (n := 0) (v := iI 0) (by decide +kernel) rfl ?_
            refine lv_istore hx hb (i := 9) (lv' := [(9, .int (iI 0)), (8, .int (iI ff)), (7, .int (iI (cel c_ 107))), (6, .int (iI (bb / 4))), (5, .int (iI dd)), (4, .int (iI (j : Int))), (2, .int (iI cc)), (1, .ref (ad 0)), (0, .ref (ad 99))]) (by decide +kernel) hl (by decide) rfl (fun ls hl => ?_)
            refine lv_iload hx hb (i := 9) (x := iI 0) (by decide +kernel) (lv_at hl 0 rfl) ?_
            refine lz_if_ne hx hb (a := 0) (off := 33) (tgt := 404) (by decide +kernel) (by decide) ⟨by decide, by decide⟩ (fun h9 => absurd h9 (by decide)) (fun _ => ?_)
            refine lv_aload_n hx hb (k := 1) (i := 1) (x := ad 0) (by decide +kernel) rfl (lv_at hl 7 rfl) ?_
            refine lv_iload hx hb (i := 6) (x := iI (bb / 4)) (by decide +kernel) (lv_at hl 3 rfl) ?_
            refine lv_aload_n hx hb (k := 1) (i := 1) (x := ad 0) (by decide +kernel) rfl (lv_at hl 7 rfl) ?_
            refine lv_iconst hx hb (n := 1) (v := iI 1) (by decide +kernel) rfl ?_
            refine lk_callH (x := 150) (rest := [.int (iI (bb / 4)), .ref (ad 0)]) (as := [.ref (ad 0), .int (iI 1)]) (n := 2) F hw hl.1 ((M_best_1 (X := []) (τ := τ20) (c := c_) F.l0 C20 e20 (by omega)).to (k' := bb / 2 % 2) (by rw [hbb, if_neg (by omega)])) (lr64 4 rfl) (lr64 5 rfl) (lr64 6 rfl) (lr64 3 rfl) ⟨by decide, by decide, by decide +kernel⟩ rfl ⟨Nat.le_of_ble_eq_true rfl, Nat.le_of_ble_eq_true rfl, (by show _ ≤ 200; omega), (by show _ ≤ 2700; omega)⟩ (Nat.le_of_ble_eq_true rfl) (by decide +kernel) rfl (fun v9 V9 hG H locs hw => ?_)
            obtain ⟨rfl, rfl⟩ := hG
            refine W.eq (g2 := F0 m 382 ls [.int (iI (bb / 2 % 2)), .int (iI (bb / 4)), .ref (ad 0)]) rfl ?_
            have C21 := C20.t5 (bsd_tz hI (by omega) C20.2.2.2.1 (4 * cel c_ 107).toNat (by omega))
            have e21 : (zr τ20 5 (bsd c_ (τ20 5) (4 * cel c_ 107).toNat)) 4 = c_ := e20
            generalize hg1 : zr τ20 5 (bsd c_ (τ20 5) (4 * cel c_ 107).toNat) = τ21 at hw C21 e21
            refine lv_aload_n hx hb (k := 1) (i := 1) (x := ad 0) (by decide +kernel) rfl (lv_at hl 7 rfl) ?_
            refine lv_iconst hx hb (n := 2) (v := iI 2) (by decide +kernel) rfl ?_
            refine lk_callH (x := 150) (rest := [.int (iI (bb / 2 % 2)), .int (iI (bb / 4)), .ref (ad 0)]) (as := [.ref (ad 0), .int (iI 2)]) (n := 2) F hw hl.1 ((M_best_2 (X := []) (τ := τ21) (c := c_) F.l0 C21 e21 (by omega)).to (k' := 1 - bb % 2) (by rw [hbb, if_neg (by omega)])) (lr64 4 rfl) (lr64 5 rfl) (lr64 6 rfl) (lr64 3 rfl) ⟨by decide, by decide, by decide +kernel⟩ rfl ⟨Nat.le_of_ble_eq_true rfl, Nat.le_of_ble_eq_true rfl, (by show _ ≤ 200; omega), (by show _ ≤ 2700; omega)⟩ (Nat.le_of_ble_eq_true rfl) (by decide +kernel) rfl (fun v9 V9 hG H locs hw => ?_)
            obtain ⟨rfl, rfl⟩ := hG
            refine W.eq (g2 := F0 m 387 ls [.int (iI (1 - bb % 2)), .int (iI (bb / 2 % 2)), .int (iI (bb / 4)), .ref (ad 0)]) rfl ?_
            have C22 := C21.t5 (bsd_tz hI (by omega) C21.2.2.2.1 (4 * cel c_ 107).toNat (by omega))
            have e22 : (zr τ21 5 (bsd c_ (τ21 5) (4 * cel c_ 107).toNat)) 4 = c_ := e21
            generalize hg2 : zr τ21 5 (bsd c_ (τ21 5) (4 * cel c_ 107).toNat) = τ22 at hw C22 e22
            refine lv_iconst hx hb (n := 1) (v := iI 1) (by decide +kernel) rfl ?_
            refine lz_icmp_ne hx hb (a := (1 - bb % 2)) (b := 1) (off := 7) (tgt := 395) (by decide +kernel) (by decide) ⟨by omega, by omega⟩ ⟨by decide, by decide⟩ (fun h9 => absurd h9 (by omega)) (fun _ => ?_)
            refine lv_iconst hx hb (n := 1) (v := iI 1) (by decide +kernel) rfl ?_
            refine lv_goto hx hb (off := 4) (tgt := 396) (by decide +kernel) (by decide) ?_
            obtain ⟨z3, τ3, h3, w3, hz3, C3⟩ := D_move_1 (X := []) (ad := ad) (adV := adV) (cA := cA) (D := D) (A := A) F.l0 C22 (by omega) e22 (by omega) (by omega) hm2
            refine lk_callH (x := 161) (rest := []) (as := [.ref (ad 0), .int (iI (bb / 4)), .int (iI (bb / 2 % 2)), .int (iI 1)]) (n := 4) F hw hl.1 (w3) (lr64 16 rfl) (lr64 17 rfl) (lr64 18 rfl) (lr64 3 rfl) ⟨by decide, by decide, by decide +kernel⟩ rfl ⟨Nat.le_of_ble_eq_true rfl, Nat.le_of_ble_eq_true rfl, (by show _ ≤ 200; omega), (by show _ ≤ 2700; omega)⟩ (Nat.le_of_ble_eq_true rfl) (by decide +kernel) rfl (fun v9 V9 hG H locs hw => ?_)
            obtain ⟨rfl, rfl⟩ := hG
            refine W.eq (g2 := F0 m 399 ls [.int (iI z3)]) rfl ?_
            refine lz_if_ge hx hb (a := z3) (off := 5) (tgt := 404) (by decide +kernel) (by decide) ⟨by omega, by omega⟩ (fun _ => ?_) (fun h9 => absurd (by omega) h9)
            refine lv_iinc hx hb (i := 4) (n := 1) (v := iI ((j : Int) + 1)) (lv' := [(4, .int (iI ((j : Int) + 1))), (9, .int (iI 0)), (8, .int (iI ff)), (7, .int (iI (cel c_ 107))), (6, .int (iI (bb / 4))), (5, .int (iI dd)), (2, .int (iI cc)), (1, .ref (ad 0)), (0, .ref (ad 99))]) (by decide +kernel) hl (k := 5) rfl (iI_add _ _) (by decide) rfl (fun ls hl => ?_)
            refine lv_goto hx hb (off := (-158)) (tgt := 249) (by decide +kernel) (by decide) ?_
            exact ih (j + 1) _ τ3 _ ls _ _ _ _ (by omega) (by omega) (C3.mono (by omega) (by omega)) (by omega) (by omega) (lv_sub hl [0, 6, 7, 8] rfl) hw
          ·
            have hst : stp bb = -1 := if_neg (by omega)
            have hm2 := hok (by omega)
            unfold omv at hm2
            rw [hst] at hm2
            refine lv_aload_n hx hb (k := 1) (i := 1) (x := ad 0) (by decide +kernel) rfl (lv_at hl 6 rfl) ?_
            refine lv_iload hx hb (i := 8) (x := iI ff) (by decide +kernel) (lv_at hl 0 rfl) ?_
            refine lv_iload hx hb (i := 5) (x := iI dd) (by decide +kernel) (lv_at hl 3 rfl) ?_
            refine lv_iconst hx hb (n := 4) (v := iI 4) (by decide +kernel) rfl ?_
            refine lv_iushr hx hb (x := iI dd) (y := iI 4) (v := iI (dd / 16)) (by decide +kernel) (iI_ushr (k := 4) (d := 16) ⟨by omega, by omega⟩ (by decide +kernel) (by decide)) ?_
            refine lv_iconst hx hb (n := 2) (v := iI 2) (by decide +kernel) rfl ?_
            refine lz_irem hx hb (a := (dd / 16)) (b := 2) (by decide +kernel) ⟨by omega, by omega, by omega, by omega⟩ ?_
            refine lv_iload hx hb (i := 5) (x := iI dd) (by decide +kernel) (lv_at hl 3 rfl) ?_
            refine lv_iconst hx hb (n := 5) (v := iI 5) (by decide +kernel) rfl ?_
            refine lz_irem hx hb (a := dd) (b := 5) (by decide +kernel) ⟨by omega, by omega, by omega, by omega⟩ ?_
            refine lv_iconst hx hb (n := 1) (v := iI 1) (by decide +kernel) rfl ?_
            refine lz_icmp_le hx hb (a := (dd % 5)) (b := 1) (off := 7) (tgt := 327) (by decide +kernel) (by decide) ⟨by omega, by omega⟩ ⟨by decide, by decide⟩ (fun _ => ?_) (fun h9 => absurd (by omega) h9)
            refine lv_iconst hx hb (n := 0) (v := iI 0) (by decide +kernel) rfl ?_
            refine lk_callH (x := 158) (rest := []) (as := [.ref (ad 0), .int (iI ff), .int (iI ((dd / 16) % 2)), .int (iI 0)]) (n := 4) F hw hl.1 ((N_would_0 (X := []) F.l0 hS e20 hf (by omega)).to (k' := 0) (if_neg hm)) (lr64 13 rfl) (lr64 14 rfl) (lr64 15 rfl) (lr64 3 rfl) ⟨by decide, by decide, by decide +kernel⟩ rfl ⟨Nat.le_of_ble_eq_true rfl, Nat.le_of_ble_eq_true rfl, (by show _ ≤ 200; omega), (by show _ ≤ 2700; omega)⟩ (Nat.le_of_ble_eq_true rfl) (by decide +kernel) rfl (fun v9 V9 hG H locs hw => ?_)
            obtain ⟨rfl, rfl⟩ := hG
            refine W.eq (g2 := F0 m 331 ls [.int (iI 0)]) rfl ?_
            refine lz_if_le hx hb (a := 0) (off := 35) (tgt := 366) (by decide +kernel) (by decide) ⟨by decide, by decide⟩ (fun _ => ?_) (fun h9 => absurd (by decide) h9)
            refine lv_iconst hx hb (n := 0) (v := iI 0) (by decide +kernel) rfl ?_
            refine lv_istore hx hb (i := 9) (lv' := [(9, .int (iI 0)), (8, .int (iI ff)), (7, .int (iI (cel c_ 107))), (6, .int (iI (bb / 4))), (5, .int (iI dd)), (4, .int (iI (j : Int))), (2, .int (iI cc)), (1, .ref (ad 0)), (0, .ref (ad 99))]) (by decide +kernel) hl (by decide) rfl (fun ls hl => ?_)
            refine lv_iload hx hb (i := 9) (x := iI 0) (by decide +kernel) (lv_at hl 0 rfl) ?_
            refine lz_if_ne hx hb (a := 0) (off := 33) (tgt := 404) (by decide +kernel) (by decide) ⟨by decide, by decide⟩ (fun h9 => absurd h9 (by decide)) (fun _ => ?_)
            refine lv_aload_n hx hb (k := 1) (i := 1) (x := ad 0) (by decide +kernel) rfl (lv_at hl 7 rfl) ?_
            refine lv_iload hx hb (i := 6) (x := iI (bb / 4)) (by decide +kernel) (lv_at hl 3 rfl) ?_
            refine lv_aload_n hx hb (k := 1) (i := 1) (x := ad 0) (by decide +kernel) rfl (lv_at hl 7 rfl) ?_
            refine lv_iconst hx hb (n := 1) (v := iI 1) (by decide +kernel) rfl ?_
            refine lk_callH (x := 150) (rest := [.int (iI (bb / 4)), .ref (ad 0)]) (as := [.ref (ad 0), .int (iI 1)]) (n := 2) F hw hl.1 ((M_best_1 (X := []) (τ := τ20) (c := c_) F.l0 C20 e20 (by omega)).to (k' := bb / 2 % 2) (by rw [hbb, if_neg (by omega)])) (lr64 4 rfl) (lr64 5 rfl) (lr64 6 rfl) (lr64 3 rfl) ⟨by decide, by decide, by decide +kernel⟩ rfl ⟨Nat.le_of_ble_eq_true rfl, Nat.le_of_ble_eq_true rfl, (by show _ ≤ 200; omega), (by show _ ≤ 2700; omega)⟩ (Nat.le_of_ble_eq_true rfl) (by decide +kernel) rfl (fun v9 V9 hG H locs hw => ?_)
            obtain ⟨rfl, rfl⟩ := hG
            refine W.eq (g2 := F0 m 382 ls [.int (iI (bb / 2 % 2)), .int (iI (bb / 4)), .ref (ad 0)]) rfl ?_
            have C21 := C20.t5 (bsd_tz hI (by omega) C20.2.2.2.1 (4 * cel c_ 107).toNat (by omega))
            have e21 : (zr τ20 5 (bsd c_ (τ20 5) (4 * cel c_ 107).toNat)) 4 = c_ := e20
            generalize hg1 : zr τ20 5 (bsd c_ (τ20 5) (4 * cel c_ 107).toNat) = τ21 at hw C21 e21
            refine lv_aload_n hx hb (k := 1) (i := 1) (x := ad 0) (by decide +kernel) rfl (lv_at hl 7 rfl) ?_
            refine lv_iconst hx hb (n := 2) (v := iI 2) (by decide +kernel) rfl ?_
            refine lk_callH (x := 150) (rest := [.int (iI (bb / 2 % 2)), .int (iI (bb / 4)), .ref (ad 0)]) (as := [.ref (ad 0), .int (iI 2)]) (n := 2) F hw hl.1 ((M_best_2 (X := []) (τ := τ21) (c := c_) F.l0 C21 e21 (by omega)).to (k' := 1 - bb % 2) (by rw [hbb, if_neg (by omega)])) (lr64 4 rfl) (lr64 5 rfl) (lr64 6 rfl) (lr64 3 rfl) ⟨by decide, by decide, by decide +kernel⟩ rfl ⟨Nat.le_of_ble_eq_true rfl, Nat.le_of_ble_eq_true rfl, (by show _ ≤ 200; omega), (by show _ ≤ 2700; omega)⟩ (Nat.le_of_ble_eq_true rfl) (by decide +kernel) rfl (fun v9 V9 hG H locs hw => ?_)
            obtain ⟨rfl, rfl⟩ := hG
            refine W.eq (g2 := F0 m 387 ls [.int (iI (1 - bb % 2)), .int (iI (bb / 2 % 2)), .int (iI (bb / 4)), .ref (ad 0)]) rfl ?_
            have C22 := C21.t5 (bsd_tz hI (by omega) C21.2.2.2.1 (4 * cel c_ 107).toNat (by omega))
            have e22 : (zr τ21 5 (bsd c_ (τ21 5) (4 * cel c_ 107).toNat)) 4 = c_ := e21
            generalize hg2 : zr τ21 5 (bsd c_ (τ21 5) (4 * cel c_ 107).toNat) = τ22 at hw C22 e22
            refine lv_iconst hx hb (n := 1) (v := iI 1) (by decide +kernel) rfl ?_
            refine lz_icmp_ne hx hb (a := (1 - bb % 2)) (b := 1) (off := 7) (tgt := 395) (by decide +kernel) (by decide) ⟨by omega, by omega⟩ ⟨by decide, by decide⟩ (fun _ => ?_) (fun h9 => absurd (by omega) h9)
            refine lv_iconst hx hb (n := 0) (v := iI 0) (by decide +kernel) rfl ?_
            obtain ⟨z3, τ3, h3, w3, hz3, C3⟩ := D_move_0 (X := []) (ad := ad) (adV := adV) (cA := cA) (D := D) (A := A) F.l0 C22 (by omega) e22 (by omega) (by omega) hm2
            refine lk_callH (x := 161) (rest := []) (as := [.ref (ad 0), .int (iI (bb / 4)), .int (iI (bb / 2 % 2)), .int (iI 0)]) (n := 4) F hw hl.1 (w3) (lr64 16 rfl) (lr64 17 rfl) (lr64 18 rfl) (lr64 3 rfl) ⟨by decide, by decide, by decide +kernel⟩ rfl ⟨Nat.le_of_ble_eq_true rfl, Nat.le_of_ble_eq_true rfl, (by show _ ≤ 200; omega), (by show _ ≤ 2700; omega)⟩ (Nat.le_of_ble_eq_true rfl) (by decide +kernel) rfl (fun v9 V9 hG H locs hw => ?_)
            obtain ⟨rfl, rfl⟩ := hG
            refine W.eq (g2 := F0 m 399 ls [.int (iI z3)]) rfl ?_
            refine lz_if_ge hx hb (a := z3) (off := 5) (tgt := 404) (by decide +kernel) (by decide) ⟨by omega, by omega⟩ (fun _ => ?_) (fun h9 => absurd (by omega) h9)
            refine lv_iinc hx hb (i := 4) (n := 1) (v := iI ((j : Int) + 1)) (lv' := [(4, .int (iI ((j : Int) + 1))), (9, .int (iI 0)), (8, .int (iI ff)), (7, .int (iI (cel c_ 107))), (6, .int (iI (bb / 4))), (5, .int (iI dd)), (2, .int (iI cc)), (1, .ref (ad 0)), (0, .ref (ad 99))]) (by decide +kernel) hl (k := 5) rfl (iI_add _ _) (by decide) rfl (fun ls hl => ?_)
            refine lv_goto hx hb (off := (-158)) (tgt := 249) (by decide +kernel) (by decide) ?_
            exact ih (j + 1) _ τ3 _ ls _ _ _ _ (by omega) (by omega) (C3.mono (by omega) (by omega)) (by omega) (by omega) (lv_sub hl [0, 6, 7, 8] rfl) hw
      ·
        by_cases hm : ocn c_ ff (dd / 16 % 2) 1 = 1 ∨ ocn c_ ff (dd / 16 % 2) 1 = 2 ∨ ocn c_ ff (dd / 16 % 2) 1 = 3
        ·
          refine lv_aload_n hx hb (k := 1) (i := 1) (x := ad 0) (by decide +kernel) rfl (lv_at hl 6 rfl) ?_
          refine lv_iload hx hb (i := 8) (x := iI ff) (by decide +kernel) (lv_at hl 0 rfl) ?_
          refine lv_iload hx hb (i := 5) (x := iI dd) (by decide +kernel) (lv_at hl 3 rfl) ?_
          refine lv_iconst hx hb (n := 4) (v := iI 4) (by decide +kernel) rfl ?_
          refine lv_iushr hx hb (x := iI dd) (y := iI 4) (v := iI (dd / 16)) (by decide +kernel) (iI_ushr (k := 4) (d := 16) ⟨by omega, by omega⟩ (by decide +kernel) (by decide)) ?_
          refine lv_iconst hx hb (n := 2) (v := iI 2) (by decide +kernel) rfl ?_
          refine lz_irem hx hb (a := (dd / 16)) (b := 2) (by decide +kernel) ⟨by omega, by omega, by omega, by omega⟩ ?_
          refine lv_iload hx hb (i := 5) (x := iI dd) (by decide +kernel) (lv_at hl 3 rfl) ?_
          refine lv_iconst hx hb (n := 5) (v := iI 5) (by decide +kernel) rfl ?_
          refine lz_irem hx hb (a := dd) (b := 5) (by decide +kernel) ⟨by omega, by omega, by omega, by omega⟩ ?_
          refine lv_iconst hx hb (n := 1) (v := iI 1) (by decide +kernel) rfl ?_
          refine lz_icmp_le hx hb (a := (dd % 5)) (b := 1) (off := 7) (tgt := 327) (by decide +kernel) (by decide) ⟨by omega, by omega⟩ ⟨by decide, by decide⟩ (fun h9 => absurd h9 (by omega)) (fun _ => ?_)
          refine lv_iconst hx hb (n := 1) (v := iI 1) (by decide +kernel) rfl ?_
          refine lv_goto hx hb (off := 4) (tgt := 328) (by decide +kernel) (by decide) ?_
          refine lk_callH (x := 158) (rest := []) (as := [.ref (ad 0), .int (iI ff), .int (iI ((dd / 16) % 2)), .int (iI 1)]) (n := 4) F hw hl.1 ((N_would_1 (X := []) F.l0 hS e20 hf (by omega)).to (k' := ocn c_ ff (dd / 16 % 2) 1) (if_pos hm)) (lr64 13 rfl) (lr64 14 rfl) (lr64 15 rfl) (lr64 3 rfl) ⟨by decide, by decide, by decide +kernel⟩ rfl ⟨Nat.le_of_ble_eq_true rfl, Nat.le_of_ble_eq_true rfl, (by show _ ≤ 200; omega), (by show _ ≤ 2700; omega)⟩ (Nat.le_of_ble_eq_true rfl) (by decide +kernel) rfl (fun v9 V9 hG H locs hw => ?_)
          obtain ⟨rfl, rfl⟩ := hG
          refine W.eq (g2 := F0 m 331 ls [.int (iI (ocn c_ ff (dd / 16 % 2) 1))]) rfl ?_
          refine lz_if_le hx hb (a := (ocn c_ ff (dd / 16 % 2) 1)) (off := 35) (tgt := 366) (by decide +kernel) (by decide) ⟨by omega, by omega⟩ (fun h9 => absurd h9 (by omega)) (fun _ => ?_)
          refine lv_aload_n hx hb (k := 1) (i := 1) (x := ad 0) (by decide +kernel) rfl (lv_at hl 6 rfl) ?_
          refine lv_iload hx hb (i := 8) (x := iI ff) (by decide +kernel) (lv_at hl 0 rfl) ?_
          refine lv_iload hx hb (i := 5) (x := iI dd) (by decide +kernel) (lv_at hl 3 rfl) ?_
          refine lv_iconst hx hb (n := 4) (v := iI 4) (by decide +kernel) rfl ?_
          refine lv_iushr hx hb (x := iI dd) (y := iI 4) (v := iI (dd / 16)) (by decide +kernel) (iI_ushr (k := 4) (d := 16) ⟨by omega, by omega⟩ (by decide +kernel) (by decide)) ?_
          refine lv_iconst hx hb (n := 2) (v := iI 2) (by decide +kernel) rfl ?_
          refine lz_irem hx hb (a := (dd / 16)) (b := 2) (by decide +kernel) ⟨by omega, by omega, by omega, by omega⟩ ?_
          refine lv_iload hx hb (i := 5) (x := iI dd) (by decide +kernel) (lv_at hl 3 rfl) ?_
          refine lv_iconst hx hb (n := 5) (v := iI 5) (by decide +kernel) rfl ?_
          refine lz_irem hx hb (a := dd) (b := 5) (by decide +kernel) ⟨by omega, by omega, by omega, by omega⟩ ?_
          refine lv_iconst hx hb (n := 1) (v := iI 1) (by decide +kernel) rfl ?_
          refine lz_icmp_le hx hb (a := (dd % 5)) (b := 1) (off := 7) (tgt := 355) (by decide +kernel) (by decide) ⟨by omega, by omega⟩ ⟨by decide, by decide⟩ (fun h9 => absurd h9 (by omega)) (fun _ => ?_)
          refine lv_iconst hx hb (n := 1) (v := iI 1) (by decide +kernel) rfl ?_
          refine lv_goto hx hb (off := 4) (tgt := 356) (by decide +kernel) (by decide) ?_
          obtain ⟨z3, τ3, h3, w3, hz3, C3⟩ := D_move_1 (X := []) (ad := ad) (adV := adV) (cA := cA) (D := D) (A := A) F.l0 C20 (by omega) e20 hf (by omega) hm
          refine lk_callH (x := 161) (rest := []) (as := [.ref (ad 0), .int (iI ff), .int (iI ((dd / 16) % 2)), .int (iI 1)]) (n := 4) F hw hl.1 (w3) (lr64 16 rfl) (lr64 17 rfl) (lr64 18 rfl) (lr64 3 rfl) ⟨by decide, by decide, by decide +kernel⟩ rfl ⟨Nat.le_of_ble_eq_true rfl, Nat.le_of_ble_eq_true rfl, (by show _ ≤ 200; omega), (by show _ ≤ 2700; omega)⟩ (Nat.le_of_ble_eq_true rfl) (by decide +kernel) rfl (fun v9 V9 hG H locs hw => ?_)
          obtain ⟨rfl, rfl⟩ := hG
          refine W.eq (g2 := F0 m 359 ls [.int (iI z3)]) rfl ?_
          refine lz_if_lt hx hb (a := z3) (off := 7) (tgt := 366) (by decide +kernel) (by decide) ⟨by omega, by omega⟩ (fun h9 => absurd h9 (by omega)) (fun _ => ?_)
          refine lv_iconst hx hb (n := 1) (v := iI 1) (by decide +kernel) rfl ?_
          refine lv_goto hx hb (off := 4) (tgt := 367) (by decide +kernel) (by decide) ?_
          refine lv_istore hx hb (i := 9) (lv' := [(9, .int (iI 1)), (8, .int (iI ff)), (7, .int (iI (cel c_ 107))), (6, .int (iI (bb / 4))), (5, .int (iI dd)), (4, .int (iI (j : Int))), (2, .int (iI cc)), (1, .ref (ad 0)), (0, .ref (ad 99))]) (by decide +kernel) hl (by decide) rfl (fun ls hl => ?_)
          refine lv_iload hx hb (i := 9) (x := iI 1) (by decide +kernel) (lv_at hl 0 rfl) ?_
          refine lz_if_ne hx hb (a := 1) (off := 33) (tgt := 404) (by decide +kernel) (by decide) ⟨by decide, by decide⟩ (fun _ => ?_) (fun h9 => absurd (by decide) h9)
          refine lv_iinc hx hb (i := 4) (n := 1) (v := iI ((j : Int) + 1)) (lv' := [(4, .int (iI ((j : Int) + 1))), (9, .int (iI 1)), (8, .int (iI ff)), (7, .int (iI (cel c_ 107))), (6, .int (iI (bb / 4))), (5, .int (iI dd)), (2, .int (iI cc)), (1, .ref (ad 0)), (0, .ref (ad 99))]) (by decide +kernel) hl (k := 5) rfl (iI_add _ _) (by decide) rfl (fun ls hl => ?_)
          refine lv_goto hx hb (off := (-158)) (tgt := 249) (by decide +kernel) (by decide) ?_
          exact ih (j + 1) _ τ3 _ ls _ _ _ _ (by omega) (by omega) (C3.mono (by omega) (by omega)) (by omega) (by omega) (lv_sub hl [0, 6, 7, 8] rfl) hw
        ·
          by_cases hev : bb % 2 = 0
          ·
            have hst : stp bb = 1 := if_pos (by omega)
            have hm2 := hok (by omega)
            unfold omv at hm2
            rw [hst] at hm2
            refine lv_aload_n hx hb (k := 1) (i := 1) (x := ad 0) (by decide +kernel) rfl (lv_at hl 6 rfl) ?_
            refine lv_iload hx hb (i := 8) (x := iI ff) (by decide +kernel) (lv_at hl 0 rfl) ?_
            refine lv_iload hx hb (i := 5) (x := iI dd) (by decide +kernel) (lv_at hl 3 rfl) ?_
            refine lv_iconst hx hb (n := 4) (v := iI 4) (by decide +kernel) rfl ?_
            refine lv_iushr hx hb (x := iI dd) (y := iI 4) (v := iI (dd / 16)) (by decide +kernel) (iI_ushr (k := 4) (d := 16) ⟨by omega, by omega⟩ (by decide +kernel) (by decide)) ?_
            refine lv_iconst hx hb (n := 2) (v := iI 2) (by decide +kernel) rfl ?_
            refine lz_irem hx hb (a := (dd / 16)) (b := 2) (by decide +kernel) ⟨by omega, by omega, by omega, by omega⟩ ?_
            refine lv_iload hx hb (i := 5) (x := iI dd) (by decide +kernel) (lv_at hl 3 rfl) ?_
            refine lv_iconst hx hb (n := 5) (v := iI 5) (by decide +kernel) rfl ?_
            refine lz_irem hx hb (a := dd) (b := 5) (by decide +kernel) ⟨by omega, by omega, by omega, by omega⟩ ?_
            refine lv_iconst hx hb (n := 1) (v := iI 1) (by decide +kernel) rfl ?_
            refine lz_icmp_le hx hb (a := (dd % 5)) (b := 1) (off := 7) (tgt := 327) (by decide +kernel) (by decide) ⟨by omega, by omega⟩ ⟨by decide, by decide⟩ (fun h9 => absurd h9 (by omega)) (fun _ => ?_)
            refine lv_iconst hx hb (n := 1) (v := iI 1) (by decide +kernel) rfl ?_
            refine lv_goto hx hb (off := 4) (tgt := 328) (by decide +kernel) (by decide) ?_
            refine lk_callH (x := 158) (rest := []) (as := [.ref (ad 0), .int (iI ff), .int (iI ((dd / 16) % 2)), .int (iI 1)]) (n := 4) F hw hl.1 ((N_would_1 (X := []) F.l0 hS e20 hf (by omega)).to (k' := 0) (if_neg hm)) (lr64 13 rfl) (lr64 14 rfl) (lr64 15 rfl) (lr64 3 rfl) ⟨by decide, by decide, by decide +kernel⟩ rfl ⟨Nat.le_of_ble_eq_true rfl, Nat.le_of_ble_eq_true rfl, (by show _ ≤ 200; omega), (by show _ ≤ 2700; omega)⟩ (Nat.le_of_ble_eq_true rfl) (by decide +kernel) rfl (fun v9 V9 hG H locs hw => ?_)
            obtain ⟨rfl, rfl⟩ := hG
            refine W.eq (g2 := F0 m 331 ls [.int (iI 0)]) rfl ?_
            refine lz_if_le hx hb (a := 0) (off := 35) (tgt := 366) (by decide +kernel) (by decide) ⟨by decide, by decide⟩ (fun _ => ?_) (fun h9 => absurd (by decide) h9)
            refine lv_iconst hx hb (n := 0) (v := iI 0) (by decide +kernel) rfl ?_
            refine lv_istore hx hb (i := 9) (lv' := [(9, .int (iI 0)), (8, .int (iI ff)), (7, .int (iI (cel c_ 107))), (6, .int (iI (bb / 4))), (5, .int (iI dd)), (4, .int (iI (j : Int))), (2, .int (iI cc)), (1, .ref (ad 0)), (0, .ref (ad 99))]) (by decide +kernel) hl (by decide) rfl (fun ls hl => ?_)
            refine lv_iload hx hb (i := 9) (x := iI 0) (by decide +kernel) (lv_at hl 0 rfl) ?_
            refine lz_if_ne hx hb (a := 0) (off := 33) (tgt := 404) (by decide +kernel) (by decide) ⟨by decide, by decide⟩ (fun h9 => absurd h9 (by decide)) (fun _ => ?_)
            refine lv_aload_n hx hb (k := 1) (i := 1) (x := ad 0) (by decide +kernel) rfl (lv_at hl 7 rfl) ?_
            refine lv_iload hx hb (i := 6) (x := iI (bb / 4)) (by decide +kernel) (lv_at hl 3 rfl) ?_
            refine lv_aload_n hx hb (k := 1) (i := 1) (x := ad 0) (by decide +kernel) rfl (lv_at hl 7 rfl) ?_
            refine lv_iconst hx hb (n := 1) (v := iI 1) (by decide +kernel) rfl ?_
            refine lk_callH (x := 150) (rest := [.int (iI (bb / 4)), .ref (ad 0)]) (as := [.ref (ad 0), .int (iI 1)]) (n := 2) F hw hl.1 ((M_best_1 (X := []) (τ := τ20) (c := c_) F.l0 C20 e20 (by omega)).to (k' := bb / 2 % 2) (by rw [hbb, if_neg (by omega)])) (lr64 4 rfl) (lr64 5 rfl) (lr64 6 rfl) (lr64 3 rfl) ⟨by decide, by decide, by decide +kernel⟩ rfl ⟨Nat.le_of_ble_eq_true rfl, Nat.le_of_ble_eq_true rfl, (by show _ ≤ 200; omega), (by show _ ≤ 2700; omega)⟩ (Nat.le_of_ble_eq_true rfl) (by decide +kernel) rfl (fun v9 V9 hG H locs hw => ?_)
            obtain ⟨rfl, rfl⟩ := hG
            refine W.eq (g2 := F0 m 382 ls [.int (iI (bb / 2 % 2)), .int (iI (bb / 4)), .ref (ad 0)]) rfl ?_
            have C21 := C20.t5 (bsd_tz hI (by omega) C20.2.2.2.1 (4 * cel c_ 107).toNat (by omega))
            have e21 : (zr τ20 5 (bsd c_ (τ20 5) (4 * cel c_ 107).toNat)) 4 = c_ := e20
            generalize hg1 : zr τ20 5 (bsd c_ (τ20 5) (4 * cel c_ 107).toNat) = τ21 at hw C21 e21
            refine lv_aload_n hx hb (k := 1) (i := 1) (x := ad 0) (by decide +kernel) rfl (lv_at hl 7 rfl) ?_
            refine lv_iconst hx hb (n := 2) (v := iI 2) (by decide +kernel) rfl ?_
            refine lk_callH (x := 150) (rest := [.int (iI (bb / 2 % 2)), .int (iI (bb / 4)), .ref (ad 0)]) (as := [.ref (ad 0), .int (iI 2)]) (n := 2) F hw hl.1 ((M_best_2 (X := []) (τ := τ21) (c := c_) F.l0 C21 e21 (by omega)).to (k' := 1 - bb % 2) (by rw [hbb, if_neg (by omega)])) (lr64 4 rfl) (lr64 5 rfl) (lr64 6 rfl) (lr64 3 rfl) ⟨by decide, by decide, by decide +kernel⟩ rfl ⟨Nat.le_of_ble_eq_true rfl, Nat.le_of_ble_eq_true rfl, (by show _ ≤ 200; omega), (by show _ ≤ 2700; omega)⟩ (Nat.le_of_ble_eq_true rfl) (by decide +kernel) rfl (fun v9 V9 hG H locs hw => ?_)
            obtain ⟨rfl, rfl⟩ := hG
            refine W.eq (g2 := F0 m 387 ls [.int (iI (1 - bb % 2)), .int (iI (bb / 2 % 2)), .int (iI (bb / 4)), .ref (ad 0)]) rfl ?_
            have C22 := C21.t5 (bsd_tz hI (by omega) C21.2.2.2.1 (4 * cel c_ 107).toNat (by omega))
            have e22 : (zr τ21 5 (bsd c_ (τ21 5) (4 * cel c_ 107).toNat)) 4 = c_ := e21
            generalize hg2 : zr τ21 5 (bsd c_ (τ21 5) (4 * cel c_ 107).toNat) = τ22 at hw C22 e22
            refine lv_iconst hx hb (n := 1) (v := iI 1) (by decide +kernel) rfl ?_
            refine lz_icmp_ne hx hb (a := (1 - bb % 2)) (b := 1) (off := 7) (tgt := 395) (by decide +kernel) (by decide) ⟨by omega, by omega⟩ ⟨by decide, by decide⟩ (fun h9 => absurd h9 (by omega)) (fun _ => ?_)
            refine lv_iconst hx hb (n := 1) (v := iI 1) (by decide +kernel) rfl ?_
            refine lv_goto hx hb (off := 4) (tgt := 396) (by decide +kernel) (by decide) ?_
            obtain ⟨z3, τ3, h3, w3, hz3, C3⟩ := D_move_1 (X := []) (ad := ad) (adV := adV) (cA := cA) (D := D) (A := A) F.l0 C22 (by omega) e22 (by omega) (by omega) hm2
            refine lk_callH (x := 161) (rest := []) (as := [.ref (ad 0), .int (iI (bb / 4)), .int (iI (bb / 2 % 2)), .int (iI 1)]) (n := 4) F hw hl.1 (w3) (lr64 16 rfl) (lr64 17 rfl) (lr64 18 rfl) (lr64 3 rfl) ⟨by decide, by decide, by decide +kernel⟩ rfl ⟨Nat.le_of_ble_eq_true rfl, Nat.le_of_ble_eq_true rfl, (by show _ ≤ 200; omega), (by show _ ≤ 2700; omega)⟩ (Nat.le_of_ble_eq_true rfl) (by decide +kernel) rfl (fun v9 V9 hG H locs hw => ?_)
            obtain ⟨rfl, rfl⟩ := hG
            refine W.eq (g2 := F0 m 399 ls [.int (iI z3)]) rfl ?_
            refine lz_if_ge hx hb (a := z3) (off := 5) (tgt := 404) (by decide +kernel) (by decide) ⟨by omega, by omega⟩ (fun _ => ?_) (fun h9 => absurd (by omega) h9)
            refine lv_iinc hx hb (i := 4) (n := 1) (v := iI ((j : Int) + 1)) (lv' := [(4, .int (iI ((j : Int) + 1))), (9, .int (iI 0)), (8, .int (iI ff)), (7, .int (iI (cel c_ 107))), (6, .int (iI (bb / 4))), (5, .int (iI dd)), (2, .int (iI cc)), (1, .ref (ad 0)), (0, .ref (ad 99))]) (by decide +kernel) hl (k := 5) rfl (iI_add _ _) (by decide) rfl (fun ls hl => ?_)
            refine lv_goto hx hb (off := (-158)) (tgt := 249) (by decide +kernel) (by decide) ?_
            exact ih (j + 1) _ τ3 _ ls _ _ _ _ (by omega) (by omega) (C3.mono (by omega) (by omega)) (by omega) (by omega) (lv_sub hl [0, 6, 7, 8] rfl) hw
          ·
            have hst : stp bb = -1 := if_neg (by omega)
            have hm2 := hok (by omega)
            unfold omv at hm2
            rw [hst] at hm2
            refine lv_aload_n hx hb (k := 1) (i := 1) (x := ad 0) (by decide +kernel) rfl (lv_at hl 6 rfl) ?_
            refine lv_iload hx hb (i := 8) (x := iI ff) (by decide +kernel) (lv_at hl 0 rfl) ?_
            refine lv_iload hx hb (i := 5) (x := iI dd) (by decide +kernel) (lv_at hl 3 rfl) ?_
            refine lv_iconst hx hb (n := 4) (v := iI 4) (by decide +kernel) rfl ?_
            refine lv_iushr hx hb (x := iI dd) (y := iI 4) (v := iI (dd / 16)) (by decide +kernel) (iI_ushr (k := 4) (d := 16) ⟨by omega, by omega⟩ (by decide +kernel) (by decide)) ?_
            refine lv_iconst hx hb (n := 2) (v := iI 2) (by decide +kernel) rfl ?_
            refine lz_irem hx hb (a := (dd / 16)) (b := 2) (by decide +kernel) ⟨by omega, by omega, by omega, by omega⟩ ?_
            refine lv_iload hx hb (i := 5) (x := iI dd) (by decide +kernel) (lv_at hl 3 rfl) ?_
            refine lv_iconst hx hb (n := 5) (v := iI 5) (by decide +kernel) rfl ?_
            refine lz_irem hx hb (a := dd) (b := 5) (by decide +kernel) ⟨by omega, by omega, by omega, by omega⟩ ?_
            refine lv_iconst hx hb (n := 1) (v := iI 1) (by decide +kernel) rfl ?_
            refine lz_icmp_le hx hb (a := (dd % 5)) (b := 1) (off := 7) (tgt := 327) (by decide +kernel) (by decide) ⟨by omega, by omega⟩ ⟨by decide, by decide⟩ (fun h9 => absurd h9 (by omega)) (fun _ => ?_)
            refine lv_iconst hx hb (n := 1) (v := iI 1) (by decide +kernel) rfl ?_
            refine lv_goto hx hb (off := 4) (tgt := 328) (by decide +kernel) (by decide) ?_
            refine lk_callH (x := 158) (rest := []) (as := [.ref (ad 0), .int (iI ff), .int (iI ((dd / 16) % 2)), .int (iI 1)]) (n := 4) F hw hl.1 ((N_would_1 (X := []) F.l0 hS e20 hf (by omega)).to (k' := 0) (if_neg hm)) (lr64 13 rfl) (lr64 14 rfl) (lr64 15 rfl) (lr64 3 rfl) ⟨by decide, by decide, by decide +kernel⟩ rfl ⟨Nat.le_of_ble_eq_true rfl, Nat.le_of_ble_eq_true rfl, (by show _ ≤ 200; omega), (by show _ ≤ 2700; omega)⟩ (Nat.le_of_ble_eq_true rfl) (by decide +kernel) rfl (fun v9 V9 hG H locs hw => ?_)
            obtain ⟨rfl, rfl⟩ := hG
            refine W.eq (g2 := F0 m 331 ls [.int (iI 0)]) rfl ?_
            refine lz_if_le hx hb (a := 0) (off := 35) (tgt := 366) (by decide +kernel) (by decide) ⟨by decide, by decide⟩ (fun _ => ?_) (fun h9 => absurd (by decide) h9)
            refine lv_iconst hx hb (n := 0) (v := iI 0) (by decide +kernel) rfl ?_
            refine lv_istore hx hb (i := 9) (lv' := [(9, .int (iI 0)), (8, .int (iI ff)), (7, .int (iI (cel c_ 107))), (6, .int (iI (bb / 4))), (5, .int (iI dd)), (4, .int (iI (j : Int))), (2, .int (iI cc)), (1, .ref (ad 0)), (0, .ref (ad 99))]) (by decide +kernel) hl (by decide) rfl (fun ls hl => ?_)
            refine lv_iload hx hb (i := 9) (x := iI 0) (by decide +kernel) (lv_at hl 0 rfl) ?_
            refine lz_if_ne hx hb (a := 0) (off := 33) (tgt := 404) (by decide +kernel) (by decide) ⟨by decide, by decide⟩ (fun h9 => absurd h9 (by decide)) (fun _ => ?_)
            refine lv_aload_n hx hb (k := 1) (i := 1) (x := ad 0) (by decide +kernel) rfl (lv_at hl 7 rfl) ?_
            refine lv_iload hx hb (i := 6) (x := iI (bb / 4)) (by decide +kernel) (lv_at hl 3 rfl) ?_
            refine lv_aload_n hx hb (k := 1) (i := 1) (x := ad 0) (by decide +kernel) rfl (lv_at hl 7 rfl) ?_
            refine lv_iconst hx hb (n := 1) (v := iI 1) (by decide +kernel) rfl ?_
            refine lk_callH (x := 150) (rest := [.int (iI (bb / 4)), .ref (ad 0)]) (as := [.ref (ad 0), .int (iI 1)]) (n := 2) F hw hl.1 ((M_best_1 (X := []) (τ := τ20) (c := c_) F.l0 C20 e20 (by omega)).to (k' := bb / 2 % 2) (by rw [hbb, if_neg (by omega)])) (lr64 4 rfl) (lr64 5 rfl) (lr64 6 rfl) (lr64 3 rfl) ⟨by decide, by decide, by decide +kernel⟩ rfl ⟨Nat.le_of_ble_eq_true rfl, Nat.le_of_ble_eq_true rfl, (by show _ ≤ 200; omega), (by show _ ≤ 2700; omega)⟩ (Nat.le_of_ble_eq_true rfl) (by decide +kernel) rfl (fun v9 V9 hG H locs hw => ?_)
            obtain ⟨rfl, rfl⟩ := hG
            refine W.eq (g2 := F0 m 382 ls [.int (iI (bb / 2 % 2)), .int (iI (bb / 4)), .ref (ad 0)]) rfl ?_
            have C21 := C20.t5 (bsd_tz hI (by omega) C20.2.2.2.1 (4 * cel c_ 107).toNat (by omega))
            have e21 : (zr τ20 5 (bsd c_ (τ20 5) (4 * cel c_ 107).toNat)) 4 = c_ := e20
            generalize hg1 : zr τ20 5 (bsd c_ (τ20 5) (4 * cel c_ 107).toNat) = τ21 at hw C21 e21
            refine lv_aload_n hx hb (k := 1) (i := 1) (x := ad 0) (by decide +kernel) rfl (lv_at hl 7 rfl) ?_
            refine lv_iconst hx hb (n := 2) (v := iI 2) (by decide +kernel) rfl ?_
            refine lk_callH (x := 150) (rest := [.int (iI (bb / 2 % 2)), .int (iI (bb / 4)), .ref (ad 0)]) (as := [.ref (ad 0), .int (iI 2)]) (n := 2) F hw hl.1 ((M_best_2 (X := []) (τ := τ21) (c := c_) F.l0 C21 e21 (by omega)).to (k' := 1 - bb % 2) (by rw [hbb, if_neg (by omega)])) (lr64 4 rfl) (lr64 5 rfl) (lr64 6 rfl) (lr64 3 rfl) ⟨by decide, by decide, by decide +kernel⟩ rfl ⟨Nat.le_of_ble_eq_true rfl, Nat.le_of_ble_eq_true rfl, (by show _ ≤ 200; omega), (by show _ ≤ 2700; omega)⟩ (Nat.le_of_ble_eq_true rfl) (by decide +kernel) rfl (fun v9 V9 hG H locs hw => ?_)
            obtain ⟨rfl, rfl⟩ := hG
            refine W.eq (g2 := F0 m 387 ls [.int (iI (1 - bb % 2)), .int (iI (bb / 2 % 2)), .int (iI (bb / 4)), .ref (ad 0)]) rfl ?_
            have C22 := C21.t5 (bsd_tz hI (by omega) C21.2.2.2.1 (4 * cel c_ 107).toNat (by omega))
            have e22 : (zr τ21 5 (bsd c_ (τ21 5) (4 * cel c_ 107).toNat)) 4 = c_ := e21
            generalize hg2 : zr τ21 5 (bsd c_ (τ21 5) (4 * cel c_ 107).toNat) = τ22 at hw C22 e22
            refine lv_iconst hx hb (n := 1) (v := iI 1) (by decide +kernel) rfl ?_
            refine lz_icmp_ne hx hb (a := (1 - bb % 2)) (b := 1) (off := 7) (tgt := 395) (by decide +kernel) (by decide) ⟨by omega, by omega⟩ ⟨by decide, by decide⟩ (fun _ => ?_) (fun h9 => absurd (by omega) h9)
            refine lv_iconst hx hb (n := 0) (v := iI 0) (by decide +kernel) rfl ?_
            obtain ⟨z3, τ3, h3, w3, hz3, C3⟩ := D_move_0 (X := []) (ad := ad) (adV := adV) (cA := cA) (D := D) (A := A) F.l0 C22 (by omega) e22 (by omega) (by omega) hm2
            refine lk_callH (x := 161) (rest := []) (as := [.ref (ad 0), .int (iI (bb / 4)), .int (iI (bb / 2 % 2)), .int (iI 0)]) (n := 4) F hw hl.1 (w3) (lr64 16 rfl) (lr64 17 rfl) (lr64 18 rfl) (lr64 3 rfl) ⟨by decide, by decide, by decide +kernel⟩ rfl ⟨Nat.le_of_ble_eq_true rfl, Nat.le_of_ble_eq_true rfl, (by show _ ≤ 200; omega), (by show _ ≤ 2700; omega)⟩ (Nat.le_of_ble_eq_true rfl) (by decide +kernel) rfl (fun v9 V9 hG H locs hw => ?_)
            obtain ⟨rfl, rfl⟩ := hG
            refine W.eq (g2 := F0 m 399 ls [.int (iI z3)]) rfl ?_
            refine lz_if_ge hx hb (a := z3) (off := 5) (tgt := 404) (by decide +kernel) (by decide) ⟨by omega, by omega⟩ (fun _ => ?_) (fun h9 => absurd (by omega) h9)
            refine lv_iinc hx hb (i := 4) (n := 1) (v := iI ((j : Int) + 1)) (lv' := [(4, .int (iI ((j : Int) + 1))), (9, .int (iI 0)), (8, .int (iI ff)), (7, .int (iI (cel c_ 107))), (6, .int (iI (bb / 4))), (5, .int (iI dd)), (2, .int (iI cc)), (1, .ref (ad 0)), (0, .ref (ad 99))]) (by decide +kernel) hl (k := 5) rfl (iI_add _ _) (by decide) rfl (fun ls hl => ?_)
            refine lv_goto hx hb (off := (-158)) (tgt := 249) (by decide +kernel) (by decide) ?_
            exact ih (j + 1) _ τ3 _ ls _ _ _ _ (by omega) (by omega) (C3.mono (by omega) (by omega)) (by omega) (by omega) (lv_sub hl [0, 6, 7, 8] rfl) hw
theorem dr_locks {p : Program} {e : Env} {s : State} {m : MethodId} {args : Array Value} {below : List Frame} {meth : Method} {c : Code} {G : Option Value → va_W → Prop} (F : FL D A ad adV cA p l s m args c method_32_code 10) (hlk : meth.locks = false) (hrt : meth.sig.returnType = some (.object "FerryDraughts")) (hGr : ∀ (τ9 : SZ) (h9 : List (Nat → Int)), CV 6000 τ9 h9 → G (some (.ref (ad 0))) (wO ad cA (sz τ9) ++ [])) {cc : Int} (hcc : 0 ≤ cc ∧ cc < 2147483648) : ∀ (q j : Nat) (z : Int) (τ1 : SZ) (h1 : List (Nat → Int)) (ls : Array Slot) (H : Heap) (locs : List Loc) (cl sl : Nat), j + q = 3 → z = (j : Int) → CV (1200 + 300 * (j : Int)) τ1 h1 → DJ (τ1 4) 8 (j : Int) → cl ≤ 45 + 4 * j → sl ≤ 1700 + 24 * j → lv_has ls 10 [(4, .int (iI z)), (2, .int (iI cc)), (1, .ref (ad 0)), (0, .ref (ad 99))] → WV D A s (wO ad cA (sz τ1) ++ []) H locs → W p l e (rmK 23 200 2700) s m args below meth c H locs cl sl (vx_MQ below (LQ D A G) (fun _ _ _ => False) args s 200 2700 A) (F0 m 102 ls []) := by
  have hx := F.1
  have hb := F.2.1
  have hmx : mX m7_account = 1 := rfl
  intro q
  induction q with
  | zero =>
    intro j z τ1 h1 ls H locs cl sl hk hz C1 J1 hcl hsl hl hw
    refine lv_iload hx hb (i := 4) (x := iI z) (by decide +kernel) (lv_at hl 0 rfl) ?_
    refine lv_iconst hx hb (n := 3) (v := iI 3) (by decide +kernel) rfl ?_
    refine lz_icmp_ge hx hb (a := z) (b := 3) (off := 91) (tgt := 196) (by decide +kernel) (by decide) ⟨by omega, by omega⟩ ⟨by decide, by decide⟩ (fun _ => ?_) (fun h9 => absurd (by omega) h9)
    by_cases h3 : cc % 3 ≤ 0
    ·
      refine lv_iload_n hx hb (k := 2) (i := 2) (x := iI cc) (by decide +kernel) rfl (lv_at hl 1 rfl) ?_
      refine lv_iconst hx hb (n := 3) (v := iI 3) (by decide +kernel) rfl ?_
      refine lz_irem hx hb (a := cc) (b := 3) (by decide +kernel) ⟨by omega, by omega, by omega, by omega⟩ ?_
      refine lz_if_le hx hb (a := (cc % 3)) (off := 47) (tgt := 246) (by decide +kernel) (by decide) ⟨by omega, by omega⟩ (fun _ => ?_) (fun h9 => absurd (by omega) h9)
      refine lv_iconst hx hb (n := 0) (v := iI 0) (by decide +kernel) rfl ?_
      refine lv_istore hx hb (i := 4) (lv' := [(4, .int (iI 0)), (2, .int (iI cc)), (1, .ref (ad 0)), (0, .ref (ad 99))]) (by decide +kernel) hl (by decide) rfl (fun ls hl => ?_)
      exact dr_moves F hlk hrt hGr hcc 8 0 0 τ1 _ ls _ _ _ _ rfl rfl (C1.mono (by omega) (by omega)) (by omega) (by omega) (lv_sub hl [0, 1, 2, 3] rfl) hw
    ·
      refine lv_iload_n hx hb (k := 2) (i := 2) (x := iI cc) (by decide +kernel) rfl (lv_at hl 1 rfl) ?_
      refine lv_iconst hx hb (n := 3) (v := iI 3) (by decide +kernel) rfl ?_
      refine lz_irem hx hb (a := cc) (b := 3) (by decide +kernel) ⟨by omega, by omega, by omega, by omega⟩ ?_
      refine lz_if_le hx hb (a := (cc % 3)) (off := 47) (tgt := 246) (by decide +kernel) (by decide) ⟨by omega, by omega⟩ (fun h9 => absurd h9 (by omega)) (fun _ => ?_)
      refine lv_aload_n hx hb (k := 1) (i := 1) (x := ad 0) (by decide +kernel) rfl (lv_at hl 2 rfl) ?_
      refine lv_iconst hx hb (n := 0) (v := iI 0) (by decide +kernel) rfl ?_
      refine lv_iload_n hx hb (k := 2) (i := 2) (x := iI cc) (by decide +kernel) rfl (lv_at hl 1 rfl) ?_
      refine lv_iconst hx hb (n := 4) (v := iI 4) (by decide +kernel) rfl ?_
      refine lv_iushr hx hb (x := iI cc) (y := iI 4) (v := iI (cc / 16)) (by decide +kernel) (iI_ushr (k := 4) (d := 16) ⟨by omega, by omega⟩ (by decide +kernel) (by decide)) ?_
      refine lv_bipush hx hb (n := 12) (v := iI 12) (by decide +kernel) (by decide) ?_
      refine lz_irem hx hb (a := (cc / 16)) (b := 12) (by decide +kernel) ⟨by omega, by omega, by omega, by omega⟩ ?_
      refine lv_iconst hx hb (n := 1) (v := iI 1) (by decide +kernel) rfl ?_
      refine lv_iload_n hx hb (k := 2) (i := 2) (x := iI cc) (by decide +kernel) rfl (lv_at hl 1 rfl) ?_
      refine lv_bipush hx hb (n := 8) (v := iI 8) (by decide +kernel) (by decide) ?_
      refine lv_iushr hx hb (x := iI cc) (y := iI 8) (v := iI (cc / 256)) (by decide +kernel) (iI_ushr (k := 8) (d := 256) ⟨by omega, by omega⟩ (by decide +kernel) (by decide)) ?_
      refine lv_iconst hx hb (n := 2) (v := iI 2) (by decide +kernel) rfl ?_
      refine lz_irem hx hb (a := (cc / 256)) (b := 2) (by decide +kernel) ⟨by omega, by omega, by omega, by omega⟩ ?_
      refine lz_iadd hx hb (a := 1) (b := ((cc / 256) % 2)) (by decide +kernel) ?_
      obtain ⟨τ2, h2, w2, C2, f2⟩ := D_fog (X := []) (ad := ad) (adV := adV) (cA := cA) (D := D) (A := A) (r := 0) (p := (cc / 16) % 12) (v := 1 + ((cc / 256) % 2)) F.l0 C1 (by omega) J1.2.1.1 ⟨by omega, by omega⟩ ⟨by omega, by omega⟩ ⟨by omega, by omega⟩
      refine lk_callH (x := 148) (rest := []) (as := [.ref (ad 0), .int (iI 0), .int (iI ((cc / 16) % 12)), .int (iI (1 + ((cc / 256) % 2)))]) (n := 4) F hw hl.1 (w2) (lr64 19 rfl) (lr64 20 rfl) (lr64 21 rfl) (lr64 3 rfl) ⟨by decide, by decide, by decide +kernel⟩ rfl ⟨Nat.le_of_ble_eq_true rfl, Nat.le_of_ble_eq_true rfl, (by show _ ≤ 200; omega), (by show _ ≤ 2700; omega)⟩ (Nat.le_of_ble_eq_true rfl) (by decide +kernel) rfl (fun v9 V9 hG H locs hw => ?_)
      obtain ⟨rfl, rfl⟩ := hG
      refine W.eq (g2 := F0 m 221 ls [.int (iI 0)]) rfl ?_
      refine lz_if_ne hx hb (a := 0) (off := 23) (tgt := 244) (by decide +kernel) (by decide) ⟨by decide, by decide⟩ (fun h9 => absurd h9 (by decide)) (fun _ => ?_)
      refine lv_aload_n hx hb (k := 1) (i := 1) (x := ad 0) (by decide +kernel) rfl (lv_at hl 2 rfl) ?_
      refine lv_iconst hx hb (n := 1) (v := iI 1) (by decide +kernel) rfl ?_
      refine lv_iload_n hx hb (k := 2) (i := 2) (x := iI cc) (by decide +kernel) rfl (lv_at hl 1 rfl) ?_
      refine lv_bipush hx hb (n := 10) (v := iI 10) (by decide +kernel) (by decide) ?_
      refine lv_iushr hx hb (x := iI cc) (y := iI 10) (v := iI (cc / 1024)) (by decide +kernel) (iI_ushr (k := 10) (d := 1024) ⟨by omega, by omega⟩ (by decide +kernel) (by decide)) ?_
      refine lv_bipush hx hb (n := 12) (v := iI 12) (by decide +kernel) (by decide) ?_
      refine lz_irem hx hb (a := (cc / 1024)) (b := 12) (by decide +kernel) ⟨by omega, by omega, by omega, by omega⟩ ?_
      refine lv_iconst hx hb (n := 1) (v := iI 1) (by decide +kernel) rfl ?_
      refine lv_iload_n hx hb (k := 2) (i := 2) (x := iI cc) (by decide +kernel) rfl (lv_at hl 1 rfl) ?_
      refine lv_iconst hx hb (n := 2) (v := iI 2) (by decide +kernel) rfl ?_
      refine lz_irem hx hb (a := cc) (b := 2) (by decide +kernel) ⟨by omega, by omega, by omega, by omega⟩ ?_
      refine lz_iadd hx hb (a := 1) (b := (cc % 2)) (by decide +kernel) ?_
      obtain ⟨τ3, h3, w3, C3, f3⟩ := D_fog (X := []) (ad := ad) (adV := adV) (cA := cA) (D := D) (A := A) (r := 1) (p := (cc / 1024) % 12) (v := 1 + (cc % 2)) F.l0 C2 (by omega) (by rw [f2, cel_sce, if_neg (by omega), cel_sce, if_neg (by omega)]; exact J1.2.1.2) ⟨by omega, by omega⟩ ⟨by omega, by omega⟩ ⟨by omega, by omega⟩
      refine lk_callH (x := 148) (rest := []) (as := [.ref (ad 0), .int (iI 1), .int (iI ((cc / 1024) % 12)), .int (iI (1 + (cc % 2)))]) (n := 4) F hw hl.1 (w3) (lr64 19 rfl) (lr64 20 rfl) (lr64 21 rfl) (lr64 3 rfl) ⟨by decide, by decide, by decide +kernel⟩ rfl ⟨Nat.le_of_ble_eq_true rfl, Nat.le_of_ble_eq_true rfl, (by show _ ≤ 200; omega), (by show _ ≤ 2700; omega)⟩ (Nat.le_of_ble_eq_true rfl) (by decide +kernel) rfl (fun v9 V9 hG H locs hw => ?_)
      obtain ⟨rfl, rfl⟩ := hG
      refine W.eq (g2 := F0 m 241 ls [.int (iI 0)]) rfl ?_
      refine lz_if_eq hx hb (a := 0) (off := 5) (tgt := 246) (by decide +kernel) (by decide) ⟨by decide, by decide⟩ (fun _ => ?_) (fun h9 => absurd (by decide) h9)
      refine lv_iconst hx hb (n := 0) (v := iI 0) (by decide +kernel) rfl ?_
      refine lv_istore hx hb (i := 4) (lv' := [(4, .int (iI 0)), (2, .int (iI cc)), (1, .ref (ad 0)), (0, .ref (ad 99))]) (by decide +kernel) hl (by decide) rfl (fun ls hl => ?_)
      exact dr_moves F hlk hrt hGr hcc 8 0 0 τ3 _ ls _ _ _ _ rfl rfl (C3.mono (by omega) (by omega)) (by omega) (by omega) (lv_sub hl [0, 1, 2, 3] rfl) hw
  | succ q ih =>
    intro j z τ1 h1 ls H locs cl sl hk hz C1 J1 hcl hsl hl hw
    subst hz
    refine lv_iload hx hb (i := 4) (x := iI (j : Int)) (by decide +kernel) (lv_at hl 0 rfl) ?_
    refine lv_iconst hx hb (n := 3) (v := iI 3) (by decide +kernel) rfl ?_
    refine lz_icmp_ge hx hb (a := (j : Int)) (b := 3) (off := 91) (tgt := 196) (by decide +kernel) (by decide) ⟨by omega, by omega⟩ ⟨by decide, by decide⟩ (fun h9 => absurd h9 (by omega)) (fun _ => ?_)
    refine lv_aload_n hx hb (k := 0) (i := 0) (x := ad 99) (by decide +kernel) rfl (lv_at hl 3 rfl) ?_
    refine lv_bipush hx hb (n := 9) (v := iI 9) (by decide +kernel) (by decide) ?_
    refine lv_iload hx hb (i := 4) (x := iI (j : Int)) (by decide +kernel) (lv_at hl 0 rfl) ?_
    refine lz_iadd hx hb (a := 9) (b := (j : Int)) (by decide +kernel) ?_
    refine lk_call (x := 133) (rest := []) (as := [.ref (ad 99), .int (iI (9 + (j : Int)))]) (n := 2) F hw hl.1 (K_cell (V := wO ad cA (sz τ1) ++ []) (k := 9 + (j : Int)) F.l0 (by omega)) (lr64 0 rfl) (lr64 1 rfl) (lr64 2 rfl) (lr64 3 rfl) ⟨rfl, by decide, by decide, by decide +kernel⟩ rfl ⟨Nat.le_of_ble_eq_true rfl, Nat.le_of_ble_eq_true rfl, (by show _ ≤ 200; omega), (by show _ ≤ 2700; omega)⟩ (Nat.le_of_ble_eq_true rfl) (by decide +kernel) rfl (fun v9 V9 hG H locs hw => ?_)
    obtain ⟨⟨x9, rfl⟩, rfl⟩ := hG
    refine W.eq (g2 := F0 m 117 ls [.int x9]) rfl ?_
    refine lv_iconst hx hb (n := 1) (v := iI 1) (by decide +kernel) rfl ?_
    obtain ⟨dd, hdd, edd⟩ := ush_ex x9
    refine lv_iushr hx hb (x := x9) (y := iI 1) (v := iI dd) (by decide +kernel) edd ?_
    refine lv_istore hx hb (i := 5) (lv' := [(5, .int (iI dd)), (4, .int (iI (j : Int))), (2, .int (iI cc)), (1, .ref (ad 0)), (0, .ref (ad 99))]) (by decide +kernel) hl (by decide) rfl (fun ls hl => ?_)
    refine lv_aload_n hx hb (k := 1) (i := 1) (x := ad 0) (by decide +kernel) rfl (lv_at hl 3 rfl) ?_
    refine lv_iload hx hb (i := 5) (x := iI dd) (by decide +kernel) (lv_at hl 0 rfl) ?_
    refine lv_iconst hx hb (n := 2) (v := iI 2) (by decide +kernel) rfl ?_
    refine lz_irem hx hb (a := dd) (b := 2) (by decide +kernel) ⟨by omega, by omega, by omega, by omega⟩ ?_
    refine lv_iload hx hb (i := 5) (x := iI dd) (by decide +kernel) (lv_at hl 0 rfl) ?_
    refine lv_iconst hx hb (n := 1) (v := iI 1) (by decide +kernel) rfl ?_
    refine lv_iushr hx hb (x := iI dd) (y := iI 1) (v := iI (dd / 2)) (by decide +kernel) (iI_ushr (k := 1) (d := 2) ⟨by omega, by omega⟩ (by decide +kernel) (by decide)) ?_
    refine lv_bipush hx hb (n := 12) (v := iI 12) (by decide +kernel) (by decide) ?_
    refine lz_irem hx hb (a := (dd / 2)) (b := 12) (by decide +kernel) ⟨by omega, by omega, by omega, by omega⟩ ?_
    refine lv_iconst hx hb (n := 1) (v := iI 1) (by decide +kernel) rfl ?_
    refine lv_iload hx hb (i := 5) (x := iI dd) (by decide +kernel) (lv_at hl 0 rfl) ?_
    refine lv_iconst hx hb (n := 5) (v := iI 5) (by decide +kernel) rfl ?_
    refine lv_iushr hx hb (x := iI dd) (y := iI 5) (v := iI (dd / 32)) (by decide +kernel) (iI_ushr (k := 5) (d := 32) ⟨by omega, by omega⟩ (by decide +kernel) (by decide)) ?_
    refine lv_iconst hx hb (n := 3) (v := iI 3) (by decide +kernel) rfl ?_
    refine lz_irem hx hb (a := (dd / 32)) (b := 3) (by decide +kernel) ⟨by omega, by omega, by omega, by omega⟩ ?_
    refine lz_iadd hx hb (a := 1) (b := ((dd / 32) % 3)) (by decide +kernel) ?_
    obtain ⟨z2, τ2, h2, w2, r2, b2_, C2, J2⟩ := D_lock (X := []) (ad := ad) (adV := adV) (cA := cA) (D := D) (A := A) (r := dd % 2) (p := (dd / 2) % 12) (v := 1 + ((dd / 32) % 3)) F.l0 C1 (by omega) J1 ⟨by omega, by omega⟩ ⟨by omega, by omega⟩ ⟨by omega, by omega⟩
    refine lk_callH (x := 143) (rest := []) (as := [.ref (ad 0), .int (iI (dd % 2)), .int (iI ((dd / 2) % 12)), .int (iI (1 + ((dd / 32) % 3)))]) (n := 4) F hw hl.1 (w2) (lr64 22 rfl) (lr64 23 rfl) (lr64 24 rfl) (lr64 3 rfl) ⟨by decide, by decide, by decide +kernel⟩ rfl ⟨Nat.le_of_ble_eq_true rfl, Nat.le_of_ble_eq_true rfl, (by show _ ≤ 200; omega), (by show _ ≤ 2700; omega)⟩ (Nat.le_of_ble_eq_true rfl) (by decide +kernel) rfl (fun v9 V9 hG H locs hw => ?_)
    obtain ⟨rfl, rfl⟩ := hG
    refine W.eq (g2 := F0 m 144 ls [.int (iI z2)]) rfl ?_
    refine lv_iconst hx hb (n := (-1)) (v := iI (-1)) (by decide +kernel) rfl ?_
    refine lz_icmp_ne hx hb (a := z2) (b := (-1)) (off := 13) (tgt := 158) (by decide +kernel) (by decide) ⟨by omega, by omega⟩ ⟨by decide, by decide⟩ (fun h2 => ?_) (fun h2 => ?_)
    ·
      refine lv_aload_n hx hb (k := 1) (i := 1) (x := ad 0) (by decide +kernel) rfl (lv_at hl 3 rfl) ?_
      refine lv_iload hx hb (i := 4) (x := iI (j : Int)) (by decide +kernel) (lv_at hl 1 rfl) ?_
      refine lv_iconst hx hb (n := 2) (v := iI 2) (by decide +kernel) rfl ?_
      refine lz_irem hx hb (a := (j : Int)) (b := 2) (by decide +kernel) ⟨by omega, by omega, by omega, by omega⟩ ?_
      refine lv_iload hx hb (i := 5) (x := iI dd) (by decide +kernel) (lv_at hl 0 rfl) ?_
      refine lv_bipush hx hb (n := 8) (v := iI 8) (by decide +kernel) (by decide) ?_
      refine lv_iushr hx hb (x := iI dd) (y := iI 8) (v := iI (dd / 256)) (by decide +kernel) (iI_ushr (k := 8) (d := 256) ⟨by omega, by omega⟩ (by decide +kernel) (by decide)) ?_
      refine lv_bipush hx hb (n := 12) (v := iI 12) (by decide +kernel) (by decide) ?_
      refine lz_irem hx hb (a := (dd / 256)) (b := 12) (by decide +kernel) ⟨by omega, by omega, by omega, by omega⟩ ?_
      obtain ⟨z3, τ3, h3, w3, r3, b3_, C3, J3⟩ := D_tug (X := []) (ad := ad) (adV := adV) (cA := cA) (D := D) (A := A) (r := (j : Int) % 2) (p := (dd / 256) % 12) F.l0 C2 (by omega) J2 (by omega) ⟨by omega, by omega⟩ ⟨by omega, by omega⟩
      refine lk_callH (x := 145) (rest := []) (as := [.ref (ad 0), .int (iI ((j : Int) % 2)), .int (iI ((dd / 256) % 12))]) (n := 3) F hw hl.1 (w3) (lr64 25 rfl) (lr64 26 rfl) (lr64 27 rfl) (lr64 3 rfl) ⟨by decide, by decide, by decide +kernel⟩ rfl ⟨Nat.le_of_ble_eq_true rfl, Nat.le_of_ble_eq_true rfl, (by show _ ≤ 200; omega), (by show _ ≤ 2700; omega)⟩ (Nat.le_of_ble_eq_true rfl) (by decide +kernel) rfl (fun v9 V9 hG H locs hw => ?_)
      obtain ⟨rfl, rfl⟩ := hG
      refine W.eq (g2 := F0 m 174 ls [.int (iI z3)]) rfl ?_
      refine lv_iconst hx hb (n := (-1)) (v := iI (-1)) (by decide +kernel) rfl ?_
      refine lz_icmp_ne hx hb (a := z3) (b := (-1)) (off := 15) (tgt := 190) (by decide +kernel) (by decide) ⟨by omega, by omega⟩ ⟨by decide, by decide⟩ (fun h3 => ?_) (fun h3 => ?_)
      ·
        refine lv_iinc hx hb (i := 4) (n := 1) (v := iI ((j : Int) + 1)) (lv' := [(4, .int (iI ((j : Int) + 1))), (5, .int (iI dd)), (2, .int (iI cc)), (1, .ref (ad 0)), (0, .ref (ad 99))]) (by decide +kernel) hl (k := 1) rfl (iI_add _ _) (by decide) rfl (fun ls hl => ?_)
        refine lv_goto hx hb (off := (-91)) (tgt := 102) (by decide +kernel) (by decide) ?_
        exact ih (j + 1) _ τ3 _ ls _ _ _ _ (by omega) (by omega) (C3.mono (by omega) (by omega)) (J3.mono (by omega) (by omega)) (by omega) (by omega) (lv_sub hl [0, 2, 3, 4] rfl) hw
      ·
        refine lv_aload_n hx hb (k := 1) (i := 1) (x := ad 0) (by decide +kernel) rfl (lv_at hl 3 rfl) ?_
        refine lv_iconst hx hb (n := 0) (v := iI 0) (by decide +kernel) rfl ?_
        refine lv_iconst hx hb (n := 0) (v := iI 0) (by decide +kernel) rfl ?_
        refine lk_callH (x := 140) (rest := []) (as := [.ref (ad 0), .int (iI 0), .int (iI 0)]) (n := 3) F hw hl.1 ((M_refusal_0 (X := []) F.l0 C3 (r3 (by omega)).2).to (k' := 2) (r3 (by omega)).1) (lr64 28 rfl) (lr64 29 rfl) (lr64 30 rfl) (lr64 3 rfl) ⟨by decide, by decide, by decide +kernel⟩ rfl ⟨Nat.le_of_ble_eq_true rfl, Nat.le_of_ble_eq_true rfl, (by show _ ≤ 200; omega), (by show _ ≤ 2700; omega)⟩ (Nat.le_of_ble_eq_true rfl) (by decide +kernel) rfl (fun v9 V9 hG H locs hw => ?_)
        obtain ⟨rfl, rfl⟩ := hG
        refine W.eq (g2 := F0 m 184 ls [.int (iI 2)]) rfl ?_
        refine lv_iconst hx hb (n := 2) (v := iI 2) (by decide +kernel) rfl ?_
        refine lz_icmp_eq hx hb (a := 2) (b := 2) (off := 5) (tgt := 190) (by decide +kernel) (by decide) ⟨by decide, by decide⟩ ⟨by decide, by decide⟩ (fun _ => ?_) (fun h9 => absurd (by decide) h9)
        refine lv_iinc hx hb (i := 4) (n := 1) (v := iI ((j : Int) + 1)) (lv' := [(4, .int (iI ((j : Int) + 1))), (5, .int (iI dd)), (2, .int (iI cc)), (1, .ref (ad 0)), (0, .ref (ad 99))]) (by decide +kernel) hl (k := 1) rfl (iI_add _ _) (by decide) rfl (fun ls hl => ?_)
        refine lv_goto hx hb (off := (-91)) (tgt := 102) (by decide +kernel) (by decide) ?_
        exact ih (j + 1) _ τ3 _ ls _ _ _ _ (by omega) (by omega) (C3.mono (by omega) (by omega)) (J3.mono (by omega) (by omega)) (by omega) (by omega) (lv_sub hl [0, 2, 3, 4] rfl) hw
    ·
      refine lv_aload_n hx hb (k := 1) (i := 1) (x := ad 0) (by decide +kernel) rfl (lv_at hl 3 rfl) ?_
      refine lv_iconst hx hb (n := 0) (v := iI 0) (by decide +kernel) rfl ?_
      refine lv_iconst hx hb (n := 0) (v := iI 0) (by decide +kernel) rfl ?_
      refine lk_callH (x := 140) (rest := []) (as := [.ref (ad 0), .int (iI 0), .int (iI 0)]) (n := 3) F hw hl.1 ((M_refusal_0 (X := []) F.l0 C2 (r2 (by omega)).2).to (k' := 3) (r2 (by omega)).1) (lr64 28 rfl) (lr64 29 rfl) (lr64 30 rfl) (lr64 3 rfl) ⟨by decide, by decide, by decide +kernel⟩ rfl ⟨Nat.le_of_ble_eq_true rfl, Nat.le_of_ble_eq_true rfl, (by show _ ≤ 200; omega), (by show _ ≤ 2700; omega)⟩ (Nat.le_of_ble_eq_true rfl) (by decide +kernel) rfl (fun v9 V9 hG H locs hw => ?_)
      obtain ⟨rfl, rfl⟩ := hG
      refine W.eq (g2 := F0 m 154 ls [.int (iI 3)]) rfl ?_
      refine lv_iconst hx hb (n := 3) (v := iI 3) (by decide +kernel) rfl ?_
      refine lz_icmp_ne hx hb (a := 3) (b := 3) (off := 33) (tgt := 188) (by decide +kernel) (by decide) ⟨by decide, by decide⟩ ⟨by decide, by decide⟩ (fun h9 => absurd h9 (by decide)) (fun _ => ?_)
      refine lv_aload_n hx hb (k := 1) (i := 1) (x := ad 0) (by decide +kernel) rfl (lv_at hl 3 rfl) ?_
      refine lv_iload hx hb (i := 4) (x := iI (j : Int)) (by decide +kernel) (lv_at hl 1 rfl) ?_
      refine lv_iconst hx hb (n := 2) (v := iI 2) (by decide +kernel) rfl ?_
      refine lz_irem hx hb (a := (j : Int)) (b := 2) (by decide +kernel) ⟨by omega, by omega, by omega, by omega⟩ ?_
      refine lv_iload hx hb (i := 5) (x := iI dd) (by decide +kernel) (lv_at hl 0 rfl) ?_
      refine lv_bipush hx hb (n := 8) (v := iI 8) (by decide +kernel) (by decide) ?_
      refine lv_iushr hx hb (x := iI dd) (y := iI 8) (v := iI (dd / 256)) (by decide +kernel) (iI_ushr (k := 8) (d := 256) ⟨by omega, by omega⟩ (by decide +kernel) (by decide)) ?_
      refine lv_bipush hx hb (n := 12) (v := iI 12) (by decide +kernel) (by decide) ?_
      refine lz_irem hx hb (a := (dd / 256)) (b := 12) (by decide +kernel) ⟨by omega, by omega, by omega, by omega⟩ ?_
      obtain ⟨z3, τ3, h3, w3, r3, b3_, C3, J3⟩ := D_tug (X := []) (ad := ad) (adV := adV) (cA := cA) (D := D) (A := A) (r := (j : Int) % 2) (p := (dd / 256) % 12) F.l0 C2 (by omega) J2 (by omega) ⟨by omega, by omega⟩ ⟨by omega, by omega⟩
      refine lk_callH (x := 145) (rest := []) (as := [.ref (ad 0), .int (iI ((j : Int) % 2)), .int (iI ((dd / 256) % 12))]) (n := 3) F hw hl.1 (w3) (lr64 25 rfl) (lr64 26 rfl) (lr64 27 rfl) (lr64 3 rfl) ⟨by decide, by decide, by decide +kernel⟩ rfl ⟨Nat.le_of_ble_eq_true rfl, Nat.le_of_ble_eq_true rfl, (by show _ ≤ 200; omega), (by show _ ≤ 2700; omega)⟩ (Nat.le_of_ble_eq_true rfl) (by decide +kernel) rfl (fun v9 V9 hG H locs hw => ?_)
      obtain ⟨rfl, rfl⟩ := hG
      refine W.eq (g2 := F0 m 174 ls [.int (iI z3)]) rfl ?_
      refine lv_iconst hx hb (n := (-1)) (v := iI (-1)) (by decide +kernel) rfl ?_
      refine lz_icmp_ne hx hb (a := z3) (b := (-1)) (off := 15) (tgt := 190) (by decide +kernel) (by decide) ⟨by omega, by omega⟩ ⟨by decide, by decide⟩ (fun h6 => ?_) (fun h6 => ?_)
      ·
        refine lv_iinc hx hb (i := 4) (n := 1) (v := iI ((j : Int) + 1)) (lv' := [(4, .int (iI ((j : Int) + 1))), (5, .int (iI dd)), (2, .int (iI cc)), (1, .ref (ad 0)), (0, .ref (ad 99))]) (by decide +kernel) hl (k := 1) rfl (iI_add _ _) (by decide) rfl (fun ls hl => ?_)
        refine lv_goto hx hb (off := (-91)) (tgt := 102) (by decide +kernel) (by decide) ?_
        exact ih (j + 1) _ τ3 _ ls _ _ _ _ (by omega) (by omega) (C3.mono (by omega) (by omega)) (J3.mono (by omega) (by omega)) (by omega) (by omega) (lv_sub hl [0, 2, 3, 4] rfl) hw
      ·
        refine lv_aload_n hx hb (k := 1) (i := 1) (x := ad 0) (by decide +kernel) rfl (lv_at hl 3 rfl) ?_
        refine lv_iconst hx hb (n := 0) (v := iI 0) (by decide +kernel) rfl ?_
        refine lv_iconst hx hb (n := 0) (v := iI 0) (by decide +kernel) rfl ?_
        refine lk_callH (x := 140) (rest := []) (as := [.ref (ad 0), .int (iI 0), .int (iI 0)]) (n := 3) F hw hl.1 ((M_refusal_0 (X := []) F.l0 C3 (r3 (by omega)).2).to (k' := 2) (r3 (by omega)).1) (lr64 28 rfl) (lr64 29 rfl) (lr64 30 rfl) (lr64 3 rfl) ⟨by decide, by decide, by decide +kernel⟩ rfl ⟨Nat.le_of_ble_eq_true rfl, Nat.le_of_ble_eq_true rfl, (by show _ ≤ 200; omega), (by show _ ≤ 2700; omega)⟩ (Nat.le_of_ble_eq_true rfl) (by decide +kernel) rfl (fun v9 V9 hG H locs hw => ?_)
        obtain ⟨rfl, rfl⟩ := hG
        refine W.eq (g2 := F0 m 184 ls [.int (iI 2)]) rfl ?_
        refine lv_iconst hx hb (n := 2) (v := iI 2) (by decide +kernel) rfl ?_
        refine lz_icmp_eq hx hb (a := 2) (b := 2) (off := 5) (tgt := 190) (by decide +kernel) (by decide) ⟨by decide, by decide⟩ ⟨by decide, by decide⟩ (fun _ => ?_) (fun h9 => absurd (by decide) h9)
        refine lv_iinc hx hb (i := 4) (n := 1) (v := iI ((j : Int) + 1)) (lv' := [(4, .int (iI ((j : Int) + 1))), (5, .int (iI dd)), (2, .int (iI cc)), (1, .ref (ad 0)), (0, .ref (ad 99))]) (by decide +kernel) hl (k := 1) rfl (iI_add _ _) (by decide) rfl (fun ls hl => ?_)
        refine lv_goto hx hb (off := (-91)) (tgt := 102) (by decide +kernel) (by decide) ?_
        exact ih (j + 1) _ τ3 _ ls _ _ _ _ (by omega) (by omega) (C3.mono (by omega) (by omega)) (J3.mono (by omega) (by omega)) (by omega) (by omega) (lv_sub hl [0, 2, 3, 4] rfl) hw
theorem dr_ferries {p : Program} {e : Env} {s : State} {m : MethodId} {args : Array Value} {below : List Frame} {meth : Method} {c : Code} {G : Option Value → va_W → Prop} (F : FL D A ad adV cA p l s m args c method_32_code 10) (hlk : meth.locks = false) (hrt : meth.sig.returnType = some (.object "FerryDraughts")) (hGr : ∀ (τ9 : SZ) (h9 : List (Nat → Int)), CV 6000 τ9 h9 → G (some (.ref (ad 0))) (wO ad cA (sz τ9) ++ [])) {cc : Int} (hcc : 0 ≤ cc ∧ cc < 2147483648) {N : Nat} (hN : (N : Int) = 3 + cc % 6) : ∀ (q j : Nat) (z : Int) (τ1 : SZ) (h1 : List (Nat → Int)) (ls : Array Slot) (H : Heap) (locs : List Loc) (cl sl : Nat), j + q = N → z = (j : Int) → CV (200 + 100 * (j : Int)) τ1 h1 → DJ (τ1 4) (j : Int) 0 → cl ≤ 25 + 2 * j → sl ≤ 1500 + 12 * j → lv_has ls 10 [(4, .int (iI z)), (3, .int (iI (3 + cc % 6))), (2, .int (iI cc)), (1, .ref (ad 0)), (0, .ref (ad 99))] → WV D A s (wO ad cA (sz τ1) ++ []) H locs → W p l e (rmK 23 200 2700) s m args below meth c H locs cl sl (vx_MQ below (LQ D A G) (fun _ _ _ => False) args s 200 2700 A) (F0 m 26 ls []) := by
  have hx := F.1
  have hb := F.2.1
  have hmx : mX m7_account = 1 := rfl
  intro q
  induction q with
  | zero =>
    intro j z τ1 h1 ls H locs cl sl hk hz C1 J1 hcl hsl hl hw
    refine lv_iload hx hb (i := 4) (x := iI z) (by decide +kernel) (lv_at hl 0 rfl) ?_
    refine lv_iload_n hx hb (k := 3) (i := 3) (x := iI (3 + cc % 6)) (by decide +kernel) rfl (lv_at hl 1 rfl) ?_
    refine lz_icmp_ge hx hb (a := z) (b := (3 + cc % 6)) (off := 70) (tgt := 99) (by decide +kernel) (by decide) ⟨by omega, by omega⟩ ⟨by omega, by omega⟩ (fun _ => ?_) (fun h9 => absurd (by omega) h9)
    refine lv_iconst hx hb (n := 0) (v := iI 0) (by decide +kernel) rfl ?_
    refine lv_istore hx hb (i := 4) (lv' := [(4, .int (iI 0)), (3, .int (iI (3 + cc % 6))), (2, .int (iI cc)), (1, .ref (ad 0)), (0, .ref (ad 99))]) (by decide +kernel) hl (by decide) rfl (fun ls hl => ?_)
    exact dr_locks F hlk hrt hGr hcc 3 0 0 τ1 _ ls _ _ _ _ rfl rfl (C1.mono (by omega) (by omega)) (J1.mono (by omega) (by omega)) (by omega) (by omega) (lv_sub hl [0, 2, 3, 4] rfl) hw
  | succ q ih =>
    intro j z τ1 h1 ls H locs cl sl hk hz C1 J1 hcl hsl hl hw
    subst hz
    refine lv_iload hx hb (i := 4) (x := iI (j : Int)) (by decide +kernel) (lv_at hl 0 rfl) ?_
    refine lv_iload_n hx hb (k := 3) (i := 3) (x := iI (3 + cc % 6)) (by decide +kernel) rfl (lv_at hl 1 rfl) ?_
    refine lz_icmp_ge hx hb (a := (j : Int)) (b := (3 + cc % 6)) (off := 70) (tgt := 99) (by decide +kernel) (by decide) ⟨by omega, by omega⟩ ⟨by omega, by omega⟩ (fun h9 => absurd h9 (by omega)) (fun _ => ?_)
    refine lv_aload_n hx hb (k := 0) (i := 0) (x := ad 99) (by decide +kernel) rfl (lv_at hl 4 rfl) ?_
    refine lv_iconst hx hb (n := 1) (v := iI 1) (by decide +kernel) rfl ?_
    refine lv_iload hx hb (i := 4) (x := iI (j : Int)) (by decide +kernel) (lv_at hl 0 rfl) ?_
    refine lz_iadd hx hb (a := 1) (b := (j : Int)) (by decide +kernel) ?_
    refine lk_call (x := 133) (rest := []) (as := [.ref (ad 99), .int (iI (1 + (j : Int)))]) (n := 2) F hw hl.1 (K_cell (V := wO ad cA (sz τ1) ++ []) (k := 1 + (j : Int)) F.l0 (by omega)) (lr64 0 rfl) (lr64 1 rfl) (lr64 2 rfl) (lr64 3 rfl) ⟨rfl, by decide, by decide, by decide +kernel⟩ rfl ⟨Nat.le_of_ble_eq_true rfl, Nat.le_of_ble_eq_true rfl, (by show _ ≤ 200; omega), (by show _ ≤ 2700; omega)⟩ (Nat.le_of_ble_eq_true rfl) (by decide +kernel) rfl (fun v9 V9 hG H locs hw => ?_)
    obtain ⟨⟨x9, rfl⟩, rfl⟩ := hG
    refine W.eq (g2 := F0 m 40 ls [.int x9]) rfl ?_
    refine lv_iconst hx hb (n := 1) (v := iI 1) (by decide +kernel) rfl ?_
    obtain ⟨dd, hdd, edd⟩ := ush_ex x9
    refine lv_iushr hx hb (x := x9) (y := iI 1) (v := iI dd) (by decide +kernel) edd ?_
    refine lv_istore hx hb (i := 5) (lv' := [(5, .int (iI dd)), (4, .int (iI (j : Int))), (3, .int (iI (3 + cc % 6))), (2, .int (iI cc)), (1, .ref (ad 0)), (0, .ref (ad 99))]) (by decide +kernel) hl (by decide) rfl (fun ls hl => ?_)
    refine lv_aload_n hx hb (k := 1) (i := 1) (x := ad 0) (by decide +kernel) rfl (lv_at hl 4 rfl) ?_
    refine lv_iload hx hb (i := 5) (x := iI dd) (by decide +kernel) (lv_at hl 0 rfl) ?_
    refine lv_bipush hx hb (n := 8) (v := iI 8) (by decide +kernel) (by decide) ?_
    refine lv_iushr hx hb (x := iI dd) (y := iI 8) (v := iI (dd / 256)) (by decide +kernel) (iI_ushr (k := 8) (d := 256) ⟨by omega, by omega⟩ (by decide +kernel) (by decide)) ?_
    refine lv_iconst hx hb (n := 2) (v := iI 2) (by decide +kernel) rfl ?_
    refine lz_irem hx hb (a := (dd / 256)) (b := 2) (by decide +kernel) ⟨by omega, by omega, by omega, by omega⟩ ?_
    refine lv_iload hx hb (i := 5) (x := iI dd) (by decide +kernel) (lv_at hl 0 rfl) ?_
    refine lv_bipush hx hb (n := 12) (v := iI 12) (by decide +kernel) (by decide) ?_
    refine lz_irem hx hb (a := dd) (b := 12) (by decide +kernel) ⟨by omega, by omega, by omega, by omega⟩ ?_
    refine lv_iload hx hb (i := 5) (x := iI dd) (by decide +kernel) (lv_at hl 0 rfl) ?_
    refine lv_iconst hx hb (n := 4) (v := iI 4) (by decide +kernel) rfl ?_
    refine lv_iushr hx hb (x := iI dd) (y := iI 4) (v := iI (dd / 16)) (by decide +kernel) (iI_ushr (k := 4) (d := 16) ⟨by omega, by omega⟩ (by decide +kernel) (by decide)) ?_
    refine lv_bipush hx hb (n := 12) (v := iI 12) (by decide +kernel) (by decide) ?_
    refine lz_irem hx hb (a := (dd / 16)) (b := 12) (by decide +kernel) ⟨by omega, by omega, by omega, by omega⟩ ?_
    obtain ⟨z2, τ2, h2, w2, r2, b2_, C2, J2⟩ := D_ferry (X := []) (ad := ad) (adV := adV) (cA := cA) (D := D) (A := A) (x := (dd / 256) % 2) (p := dd % 12) (q := (dd / 16) % 12) F.l0 C1 (by omega) J1 (by omega) ⟨by omega, by omega⟩ ⟨by omega, by omega⟩ ⟨by omega, by omega⟩
    refine lk_callH (x := 137) (rest := []) (as := [.ref (ad 0), .int (iI ((dd / 256) % 2)), .int (iI (dd % 12)), .int (iI ((dd / 16) % 12))]) (n := 4) F hw hl.1 (w2) (lr64 31 rfl) (lr64 32 rfl) (lr64 33 rfl) (lr64 3 rfl) ⟨by decide, by decide, by decide +kernel⟩ rfl ⟨Nat.le_of_ble_eq_true rfl, Nat.le_of_ble_eq_true rfl, (by show _ ≤ 200; omega), (by show _ ≤ 2700; omega)⟩ (Nat.le_of_ble_eq_true rfl) (by decide +kernel) rfl (fun v9 V9 hG H locs hw => ?_)
    obtain ⟨rfl, rfl⟩ := hG
    refine W.eq (g2 := F0 m 67 ls [.int (iI z2)]) rfl ?_
    refine lv_istore hx hb (i := 6) (lv' := [(6, .int (iI z2)), (5, .int (iI dd)), (4, .int (iI (j : Int))), (3, .int (iI (3 + cc % 6))), (2, .int (iI cc)), (1, .ref (ad 0)), (0, .ref (ad 99))]) (by decide +kernel) hl (by decide) rfl (fun ls hl => ?_)
    refine lv_iload hx hb (i := 6) (x := iI z2) (by decide +kernel) (lv_at hl 0 rfl) ?_
    refine lv_iconst hx hb (n := (-1)) (v := iI (-1)) (by decide +kernel) rfl ?_
    refine lz_icmp_ne hx hb (a := z2) (b := (-1)) (off := 13) (tgt := 85) (by decide +kernel) (by decide) ⟨by omega, by omega⟩ ⟨by decide, by decide⟩ (fun h2 => ?_) (fun h2 => ?_)
    ·
      refine lv_iload hx hb (i := 6) (x := iI z2) (by decide +kernel) (lv_at hl 0 rfl) ?_
      refine lv_iconst hx hb (n := (-1)) (v := iI (-1)) (by decide +kernel) rfl ?_
      refine lz_icmp_ge hx hb (a := z2) (b := (-1)) (off := 5) (tgt := 93) (by decide +kernel) (by decide) ⟨by omega, by omega⟩ ⟨by decide, by decide⟩ (fun _ => ?_) (fun h9 => absurd (by omega) h9)
      refine lv_iinc hx hb (i := 4) (n := 1) (v := iI ((j : Int) + 1)) (lv' := [(4, .int (iI ((j : Int) + 1))), (6, .int (iI z2)), (5, .int (iI dd)), (3, .int (iI (3 + cc % 6))), (2, .int (iI cc)), (1, .ref (ad 0)), (0, .ref (ad 99))]) (by decide +kernel) hl (k := 2) rfl (iI_add _ _) (by decide) rfl (fun ls hl => ?_)
      refine lv_goto hx hb (off := (-70)) (tgt := 26) (by decide +kernel) (by decide) ?_
      exact ih (j + 1) _ τ2 _ ls _ _ _ _ (by omega) (by omega) (C2.mono (by omega) (by omega)) (J2.mono (by omega) (by omega)) (by omega) (by omega) (lv_sub hl [0, 3, 4, 5, 6] rfl) hw
    ·
      refine lv_aload_n hx hb (k := 1) (i := 1) (x := ad 0) (by decide +kernel) rfl (lv_at hl 5 rfl) ?_
      refine lv_iconst hx hb (n := 0) (v := iI 0) (by decide +kernel) rfl ?_
      refine lv_iconst hx hb (n := 0) (v := iI 0) (by decide +kernel) rfl ?_
      refine lk_callH (x := 140) (rest := []) (as := [.ref (ad 0), .int (iI 0), .int (iI 0)]) (n := 3) F hw hl.1 ((M_refusal_0 (X := []) F.l0 C2 (r2 (by omega)).2).to (k' := 2) (r2 (by omega)).1) (lr64 28 rfl) (lr64 29 rfl) (lr64 30 rfl) (lr64 3 rfl) ⟨by decide, by decide, by decide +kernel⟩ rfl ⟨Nat.le_of_ble_eq_true rfl, Nat.le_of_ble_eq_true rfl, (by show _ ≤ 200; omega), (by show _ ≤ 2700; omega)⟩ (Nat.le_of_ble_eq_true rfl) (by decide +kernel) rfl (fun v9 V9 hG H locs hw => ?_)
      obtain ⟨rfl, rfl⟩ := hG
      refine W.eq (g2 := F0 m 81 ls [.int (iI 2)]) rfl ?_
      refine lv_iconst hx hb (n := 2) (v := iI 2) (by decide +kernel) rfl ?_
      refine lz_icmp_ne hx hb (a := 2) (b := 2) (off := 9) (tgt := 91) (by decide +kernel) (by decide) ⟨by decide, by decide⟩ ⟨by decide, by decide⟩ (fun h9 => absurd h9 (by decide)) (fun _ => ?_)
      refine lv_iload hx hb (i := 6) (x := iI z2) (by decide +kernel) (lv_at hl 0 rfl) ?_
      refine lv_iconst hx hb (n := (-1)) (v := iI (-1)) (by decide +kernel) rfl ?_
      refine lz_icmp_ge hx hb (a := z2) (b := (-1)) (off := 5) (tgt := 93) (by decide +kernel) (by decide) ⟨by omega, by omega⟩ ⟨by decide, by decide⟩ (fun _ => ?_) (fun h9 => absurd (by omega) h9)
      refine lv_iinc hx hb (i := 4) (n := 1) (v := iI ((j : Int) + 1)) (lv' := [(4, .int (iI ((j : Int) + 1))), (6, .int (iI z2)), (5, .int (iI dd)), (3, .int (iI (3 + cc % 6))), (2, .int (iI cc)), (1, .ref (ad 0)), (0, .ref (ad 99))]) (by decide +kernel) hl (k := 2) rfl (iI_add _ _) (by decide) rfl (fun ls hl => ?_)
      refine lv_goto hx hb (off := (-70)) (tgt := 26) (by decide +kernel) (by decide) ?_
      exact ih (j + 1) _ τ2 _ ls _ _ _ _ (by omega) (by omega) (C2.mono (by omega) (by omega)) (J2.mono (by omega) (by omega)) (by omega) (by omega) (lv_sub hl [0, 3, 4, 5, 6] rfl) hw
theorem dr_head {p : Program} {e : Env} {s : State} {m : MethodId} {args : Array Value} {below : List Frame} {meth : Method} {c : Code} {G : Option Value → va_W → Prop} (F : FL D A ad adV cA p l s m args c method_32_code 10) (hlk : meth.locks = false) (hrt : meth.sig.returnType = some (.object "FerryDraughts")) (hGr : ∀ (τ9 : SZ) (h9 : List (Nat → Int)), CV 6000 τ9 h9 → G (some (.ref (ad 0))) (wO ad cA (sz τ9) ++ [])) {τ1 : SZ} (C1 : CV 200 τ1 []) (J1 : DJ (τ1 4) 0 0) {ls : Array Slot} {H : Heap} {locs : List Loc} {cl sl : Nat} (hcl : cl ≤ 24) (hsl : sl ≤ 1450) (hl : lv_has ls 10 [(1, .ref (ad 0)), (0, .ref (ad 99))]) (hw : WV D A s (wO ad cA (sz τ1) ++ []) H locs) : W p l e (rmK 23 200 2700) s m args below meth c H locs cl sl (vx_MQ below (LQ D A G) (fun _ _ _ => False) args s 200 2700 A) (F0 m 8 ls []) := by
  have hx := F.1
  have hb := F.2.1
  have hmx : mX m7_account = 1 := rfl
  refine lv_aload_n hx hb (k := 0) (i := 0) (x := ad 99) (by decide +kernel) rfl (lv_at hl 1 rfl) ?_
  refine lv_iconst hx hb (n := 0) (v := iI 0) (by decide +kernel) rfl ?_
  refine lk_call (x := 133) (rest := []) (as := [.ref (ad 99), .int (iI 0)]) (n := 2) F hw hl.1 (K_cell (V := wO ad cA (sz τ1) ++ []) (k := 0) F.l0 (by omega)) (lr64 0 rfl) (lr64 1 rfl) (lr64 2 rfl) (lr64 3 rfl) ⟨rfl, by decide, by decide, by decide +kernel⟩ rfl ⟨Nat.le_of_ble_eq_true rfl, Nat.le_of_ble_eq_true rfl, (by show _ ≤ 200; omega), (by show _ ≤ 2700; omega)⟩ (Nat.le_of_ble_eq_true rfl) (by decide +kernel) rfl (fun v9 V9 hG H locs hw => ?_)
  obtain ⟨⟨x9, rfl⟩, rfl⟩ := hG
  refine W.eq (g2 := F0 m 13 ls [.int x9]) rfl ?_
  refine lv_iconst hx hb (n := 1) (v := iI 1) (by decide +kernel) rfl ?_
  obtain ⟨cc, hcc, ecc⟩ := ush_ex x9
  refine lv_iushr hx hb (x := x9) (y := iI 1) (v := iI cc) (by decide +kernel) ecc ?_
  refine lv_istore_n hx hb (k := 2) (i := 2) (lv' := [(2, .int (iI cc)), (1, .ref (ad 0)), (0, .ref (ad 99))]) (by decide +kernel) rfl hl (by decide) rfl (fun ls hl => ?_)
  refine lv_iconst hx hb (n := 3) (v := iI 3) (by decide +kernel) rfl ?_
  refine lv_iload_n hx hb (k := 2) (i := 2) (x := iI cc) (by decide +kernel) rfl (lv_at hl 0 rfl) ?_
  refine lv_bipush hx hb (n := 6) (v := iI 6) (by decide +kernel) (by decide) ?_
  refine lz_irem hx hb (a := cc) (b := 6) (by decide +kernel) ⟨by omega, by omega, by omega, by omega⟩ ?_
  refine lz_iadd hx hb (a := 3) (b := (cc % 6)) (by decide +kernel) ?_
  refine lv_istore_n hx hb (k := 3) (i := 3) (lv' := [(3, .int (iI (3 + (cc % 6)))), (2, .int (iI cc)), (1, .ref (ad 0)), (0, .ref (ad 99))]) (by decide +kernel) rfl hl (by decide) rfl (fun ls hl => ?_)
  refine lv_iconst hx hb (n := 0) (v := iI 0) (by decide +kernel) rfl ?_
  refine lv_istore hx hb (i := 4) (lv' := [(4, .int (iI 0)), (3, .int (iI (3 + (cc % 6)))), (2, .int (iI cc)), (1, .ref (ad 0)), (0, .ref (ad 99))]) (by decide +kernel) hl (by decide) rfl (fun ls hl => ?_)
  exact dr_ferries F hlk hrt hGr hcc (N := (3 + cc % 6).toNat) (by omega) (3 + cc % 6).toNat 0 0 τ1 _ ls _ _ _ _ (by omega) rfl (C1.mono (by omega) (by omega)) (J1.mono (by omega) (by omega)) (by omega) (by omega) (lv_sub hl [0, 1, 2, 3, 4] rfl) hw
end DRN
