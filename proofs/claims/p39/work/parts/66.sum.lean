/-! the sum over all that is told: printed by wip/p39/db66.py -/
section SUM
variable {l : Launch} {D : va_G} {A : Nat → Prop} {ad adV : Nat → Nat} {cA : Nat → ClassId}
def acv (c : Nat → Int) (N : Nat) (z : Int) : Int := if z = 0 then cel c 107 else if z = 1 then sm (fun k => b2 (cel c (0 + (k : Int) * 6 + 0) = 0)) N else if z = 2 then sm (fun k => cel c (0 + (k : Int) * 6 + 3)) N else if z = 3 then tgs c 0 + tgs c 1 else if z = 4 then sm (fun k => b2 (0 < usz c 0 (k : Int))) 12 + sm (fun k => b2 (0 < usz c 1 (k : Int))) 12 else if z = 5 then cel c 100 else if z = 6 then cel c 101 else if z = 7 then cel c 102 else if z = 8 then cel c 103 else if z = 9 then cel c 104 else if z = 10 then cel c 105 else if z = 11 then cel c 106 else 0
theorem c_acv {τ : SZ} {c : Nat → Int} {B k : Int} {N : Nat} (e : τ 4 = c) (hS : Sh B c) (hN : cel c 107 = (N : Int)) (hk : 0 ≤ k ∧ k < 12) : RZ 6 m7_account [.inl 0, .inr k] τ (.inl (some (.inr (acv c N k)), τ)) := by
  subst e
  rcases (show k = 0 ∨ k = 1 ∨ k = 2 ∨ k = 3 ∨ k = 4 ∨ k = 5 ∨ k = 6 ∨ k = 7 ∨ k = 8 ∨ k = 9 ∨ k = 10 ∨ k = 11 by omega) with rfl | rfl | rfl | rfl | rfl | rfl | rfl | rfl | rfl | rfl | rfl | rfl
  · exact c_account_0 hS hN
  · exact c_account_1 hS hN
  · exact c_account_2 hS hN
  · exact c_account_3 hS hN
  · exact c_account_4 hS hN
  · exact c_account_5 hS hN
  · exact c_account_6 hS hN
  · exact c_account_7 hS hN
  · exact c_account_8 hS hN
  · exact c_account_9 hS hN
  · exact c_account_10 hS hN
  · exact c_account_11 hS hN
def s1 (c : Nat → Int) (N : Nat) : Nat → Int64
  | 0 => 7 + (iI (cel c 108)).toInt64
  | j + 1 => (31 * s1 c N j) + (iI (acv c N (j : Int))).toInt64
def s2 (c : Nat → Int) (N : Nat) : Nat → Int64
  | 0 => s1 c N 12
  | j + 1 => (37 * s2 c N j) + (iI (cel c (0 + ((j : Int) / 6) * 6 + ((j : Int) % 6)))).toInt64
def s3 (c : Nat → Int) (N : Nat) : Nat → Int64
  | 0 => s2 c N (6 * N)
  | j + 1 => (((41 * s3 c N j) + (iI (64 * (whz c ((j : Int) / 12) ((j : Int) % 12)))).toInt64) + (iI (8 * (usz c ((j : Int) / 12) ((j : Int) % 12)))).toInt64) + (iI (b2 (fgd c ((j : Int) / 12) ((j : Int) % 12)))).toInt64
def sumv (c : Nat → Int) (N : Nat) : Int64 := s3 c N 24
def lr66W : List Jvm.Cond := [.constantLong RL 291 41,
  .methodLink RL 171 yL_at,
  .static yL_at,
  .codeWith yL_at method_10_code 4 (some .int) [(0, 6, 7, 22)],
  .initialized RL,
  .methodLink RL 237 yL_lockAt,
  .static yL_lockAt,
  .codeWith yL_lockAt method_11_code 4 (some .int) [(0, 6, 7, 22)],
  .methodLink RL 169 yL_isFog,
  .static yL_isFog,
  .codeWith yL_isFog method_12_code 4 (some .int) [(0, 14, 15, 22)],
  .methodLink RL 155 (mY m7_account),
  .instanceMethod (mY m7_account),
  .selects (mY m7_account).cls (mY m7_account) (mY m7_account),
  .constantLong RL 289 37,
  .methodLink RL 163 yL_of,
  .static yL_of,
  .codeWith yL_of method_9_code 4 (some .int) [(0, 6, 7, 22), (0, 6, 11, 14)],
  .constantLong RL 287 31,
  .constantLong RL 285 7,
  .methodLink RL 200 (mY m7_turn),
  .instanceMethod (mY m7_turn),
  .selects (mY m7_turn).cls (mY m7_turn) (mY m7_turn)]
theorem lr66_in : ∀ w ∈ lr66W, w ∈ lw_tbl := by decide +kernel
theorem lr66 (k : Nat) {w : Jvm.Cond} (h : lr66W[k]? = some w) : w ∈ lw_tbl := lr66_in w (List.mem_of_getElem? h)
theorem K_sum {X : va_W} {τ : SZ} {c_ : Nat → Int} {B : Int} {N : Nat} (hl0 : l.stackTraces = false) (e0 : τ 4 = c_) (hS : Sh B c_) (hN : cel c_ 107 = (N : Int)) : LK l D A ad adV cA (.code yL_sum method_44_code 4 (some .long)) yL_sum 23 300 1800 [.ref (ad 0)] (wO ad cA (sz τ) ++ X) (fun v V' => v = some (.long (sumv c_ N)) ∧ V' = wO ad cA (sz τ) ++ X) := by
  refine lk_of hl0 rfl ?_ (Nat.le_of_ble_eq_true rfl)
  rintro p e s m args below meth c F hlk hrt hw ls hl
  have hl : lv_has ls 4 [(0, .ref (ad 0))] := hl
  have hx := F.1
  have hb := F.2.1
  have hn := hS.n
  have htu := hS.tu
  have hmx : mX m7_account = 1 := rfl
  have hmt : mX m7_turn = 0 := rfl
  have loop3 : ∀ (q j : Nat) (z : Int) (h : Int64) (ls : Array Slot) (H : Heap) (locs : List Loc) (cl sl : Nat), j + q = 24 → z = (j : Int) → h = s3 c_ N j → cl ≤ 160 + 3 * j → sl ≤ 960 + 18 * j → lv_has ls 4 [(3, .int (iI z)), (1, .long h), (0, .ref (ad 0))] → WV D A s (wO ad cA (sz τ) ++ X) H locs → W p l e (rmK 23 300 1800) s m args below meth c H locs cl sl (vx_MQ below (LQ D A (fun v V' => v = some (.long (sumv c_ N)) ∧ V' = wO ad cA (sz τ) ++ X)) (fun _ _ _ => False) args s 300 1800 A) (F0 m 79 ls []) := by
    intro q
    induction q with
    | zero =>
      intro j z h ls H locs cl sl hk hz hh hcl hsl hl hw
      refine lv_iload_n hx hb (k := 3) (i := 3) (x := iI z) (by decide +kernel) rfl (lv_at hl 0 rfl) ?_
      refine lv_bipush hx hb (n := 24) (v := iI 24) (by decide +kernel) (by decide) ?_
      refine lz_icmp_ge hx hb (a := z) (b := 24) (off := 63) (tgt := 145) (by decide +kernel) (by decide) ⟨by omega, by omega⟩ ⟨by decide, by decide⟩ (fun _ => ?_) (fun h9 => absurd (by omega) h9)
      refine lv_lload_n hx hb (k := 1) (i := 1) (x := h) (by decide +kernel) rfl (lv_at hl 1 rfl) ?_
      exact lk_lret F hlk hrt hw ⟨by rw [hh, show j = 24 from by omega]; rfl, rfl⟩ (by omega) (by omega) (by decide +kernel)
    | succ q ih =>
      intro j z h ls H locs cl sl hk hz hh hcl hsl hl hw
      subst hz
      refine lv_iload_n hx hb (k := 3) (i := 3) (x := iI (j : Int)) (by decide +kernel) rfl (lv_at hl 0 rfl) ?_
      refine lv_bipush hx hb (n := 24) (v := iI 24) (by decide +kernel) (by decide) ?_
      refine lz_icmp_ge hx hb (a := (j : Int)) (b := 24) (off := 63) (tgt := 145) (by decide +kernel) (by decide) ⟨by omega, by omega⟩ ⟨by decide, by decide⟩ (fun h9 => absurd h9 (by omega)) (fun _ => ?_)
      refine lv_ldc2 hx hb (v := 41) F.2.2.2.1 (ts_of' F.2.2.2.2.1 (lr66 0 rfl) rfl) (by decide +kernel) ?_
      refine lv_lload_n hx hb (k := 1) (i := 1) (x := h) (by decide +kernel) rfl (lv_at hl 1 rfl) ?_
      refine lv_lmul hx hb (by decide +kernel) ?_
      refine lv_bipush hx hb (n := 64) (v := iI 64) (by decide +kernel) (by decide) ?_
      refine lv_aload_n hx hb (k := 0) (i := 0) (x := ad 0) (by decide +kernel) rfl (lv_at hl 2 rfl) ?_
      refine lv_iload_n hx hb (k := 3) (i := 3) (x := iI (j : Int)) (by decide +kernel) rfl (lv_at hl 0 rfl) ?_
      refine lv_bipush hx hb (n := 12) (v := iI 12) (by decide +kernel) (by decide) ?_
      refine lz_idiv hx hb (a := (j : Int)) (b := 12) (by decide +kernel) ⟨by omega, by omega, by omega, by omega⟩ ?_
      refine lv_iload_n hx hb (k := 3) (i := 3) (x := iI (j : Int)) (by decide +kernel) rfl (lv_at hl 0 rfl) ?_
      refine lv_bipush hx hb (n := 12) (v := iI 12) (by decide +kernel) (by decide) ?_
      refine lz_irem hx hb (a := (j : Int)) (b := 12) (by decide +kernel) ⟨by omega, by omega, by omega, by omega⟩ ?_
      refine lk_callH (x := 171) (rest := [.int (iI 64), .long (41 * h)]) (as := [.ref (ad 0), .int (iI ((j : Int) / 12)), .int (iI ((j : Int) % 12))]) (n := 3) F hw hl.1 ((K_at (X := X) (τ := τ) (r := ((j : Int) / 12)) (p := ((j : Int) % 12)) F.l0 (by omega) (by omega)).to (k' := whz c_ ((j : Int) / 12) ((j : Int) % 12)) (by rw [e0])) (lr66 1 rfl) (lr66 2 rfl) (lr66 3 rfl) (lr66 4 rfl) ⟨by decide, by decide, by decide +kernel⟩ rfl ⟨Nat.le_of_ble_eq_true rfl, Nat.le_of_ble_eq_true rfl, (by show _ ≤ 300; omega), (by show _ ≤ 1800; omega)⟩ (Nat.le_of_ble_eq_true rfl) (by decide +kernel) rfl (fun v9 V9 hG H locs hw => ?_)
      obtain ⟨rfl, rfl⟩ := hG
      refine W.eq (g2 := F0 m 104 ls [.int (iI (whz c_ ((j : Int) / 12) ((j : Int) % 12))), .int (iI 64), .long (41 * h)]) rfl ?_
      refine lz_imul hx hb (a := 64) (b := (whz c_ ((j : Int) / 12) ((j : Int) % 12))) (by decide +kernel) ?_
      refine lv_i2l hx hb (x := iI (64 * (whz c_ ((j : Int) / 12) ((j : Int) % 12)))) (by decide +kernel) rfl ?_
      refine lv_ladd hx hb (by decide +kernel) ?_
      refine lv_bipush hx hb (n := 8) (v := iI 8) (by decide +kernel) (by decide) ?_
      refine lv_aload_n hx hb (k := 0) (i := 0) (x := ad 0) (by decide +kernel) rfl (lv_at hl 2 rfl) ?_
      refine lv_iload_n hx hb (k := 3) (i := 3) (x := iI (j : Int)) (by decide +kernel) rfl (lv_at hl 0 rfl) ?_
      refine lv_bipush hx hb (n := 12) (v := iI 12) (by decide +kernel) (by decide) ?_
      refine lz_idiv hx hb (a := (j : Int)) (b := 12) (by decide +kernel) ⟨by omega, by omega, by omega, by omega⟩ ?_
      refine lv_iload_n hx hb (k := 3) (i := 3) (x := iI (j : Int)) (by decide +kernel) rfl (lv_at hl 0 rfl) ?_
      refine lv_bipush hx hb (n := 12) (v := iI 12) (by decide +kernel) (by decide) ?_
      refine lz_irem hx hb (a := (j : Int)) (b := 12) (by decide +kernel) ⟨by omega, by omega, by omega, by omega⟩ ?_
      refine lk_callH (x := 237) (rest := [.int (iI 8), .long ((41 * h) + ((iI (64 * (whz c_ ((j : Int) / 12) ((j : Int) % 12)))).toInt64))]) (as := [.ref (ad 0), .int (iI ((j : Int) / 12)), .int (iI ((j : Int) % 12))]) (n := 3) F hw hl.1 ((K_lockAt (X := X) (τ := τ) (r := ((j : Int) / 12)) (p := ((j : Int) % 12)) F.l0 (by omega) (by omega)).to (k' := usz c_ ((j : Int) / 12) ((j : Int) % 12)) (by rw [e0])) (lr66 5 rfl) (lr66 6 rfl) (lr66 7 rfl) (lr66 4 rfl) ⟨by decide, by decide, by decide +kernel⟩ rfl ⟨Nat.le_of_ble_eq_true rfl, Nat.le_of_ble_eq_true rfl, (by show _ ≤ 300; omega), (by show _ ≤ 1800; omega)⟩ (Nat.le_of_ble_eq_true rfl) (by decide +kernel) rfl (fun v9 V9 hG H locs hw => ?_)
      obtain ⟨rfl, rfl⟩ := hG
      refine W.eq (g2 := F0 m 121 ls [.int (iI (usz c_ ((j : Int) / 12) ((j : Int) % 12))), .int (iI 8), .long ((41 * h) + ((iI (64 * (whz c_ ((j : Int) / 12) ((j : Int) % 12)))).toInt64))]) rfl ?_
      refine lz_imul hx hb (a := 8) (b := (usz c_ ((j : Int) / 12) ((j : Int) % 12))) (by decide +kernel) ?_
      refine lv_i2l hx hb (x := iI (8 * (usz c_ ((j : Int) / 12) ((j : Int) % 12)))) (by decide +kernel) rfl ?_
      refine lv_ladd hx hb (by decide +kernel) ?_
      refine lv_aload_n hx hb (k := 0) (i := 0) (x := ad 0) (by decide +kernel) rfl (lv_at hl 2 rfl) ?_
      refine lv_iload_n hx hb (k := 3) (i := 3) (x := iI (j : Int)) (by decide +kernel) rfl (lv_at hl 0 rfl) ?_
      refine lv_bipush hx hb (n := 12) (v := iI 12) (by decide +kernel) (by decide) ?_
      refine lz_idiv hx hb (a := (j : Int)) (b := 12) (by decide +kernel) ⟨by omega, by omega, by omega, by omega⟩ ?_
      refine lv_iload_n hx hb (k := 3) (i := 3) (x := iI (j : Int)) (by decide +kernel) rfl (lv_at hl 0 rfl) ?_
      refine lv_bipush hx hb (n := 12) (v := iI 12) (by decide +kernel) (by decide) ?_
      refine lz_irem hx hb (a := (j : Int)) (b := 12) (by decide +kernel) ⟨by omega, by omega, by omega, by omega⟩ ?_
      refine lk_callH (x := 169) (rest := [.long (((41 * h) + ((iI (64 * (whz c_ ((j : Int) / 12) ((j : Int) % 12)))).toInt64)) + ((iI (8 * (usz c_ ((j : Int) / 12) ((j : Int) % 12)))).toInt64))]) (as := [.ref (ad 0), .int (iI ((j : Int) / 12)), .int (iI ((j : Int) % 12))]) (n := 3) F hw hl.1 ((K_isFog (X := X) (τ := τ) (r := ((j : Int) / 12)) (p := ((j : Int) % 12)) (B := B) F.l0 (by omega) (by omega) (e0 ▸ hS)).to (k' := b2 (fgd c_ ((j : Int) / 12) ((j : Int) % 12))) (by rw [e0])) (lr66 8 rfl) (lr66 9 rfl) (lr66 10 rfl) (lr66 4 rfl) ⟨by decide, by decide, by decide +kernel⟩ rfl ⟨Nat.le_of_ble_eq_true rfl, Nat.le_of_ble_eq_true rfl, (by show _ ≤ 300; omega), (by show _ ≤ 1800; omega)⟩ (Nat.le_of_ble_eq_true rfl) (by decide +kernel) rfl (fun v9 V9 hG H locs hw => ?_)
      obtain ⟨rfl, rfl⟩ := hG
      refine W.eq (g2 := F0 m 136 ls [.int (iI (b2 (fgd c_ ((j : Int) / 12) ((j : Int) % 12)))), .long (((41 * h) + ((iI (64 * (whz c_ ((j : Int) / 12) ((j : Int) % 12)))).toInt64)) + ((iI (8 * (usz c_ ((j : Int) / 12) ((j : Int) % 12)))).toInt64))]) rfl ?_
      refine lv_i2l hx hb (x := iI (b2 (fgd c_ ((j : Int) / 12) ((j : Int) % 12)))) (by decide +kernel) rfl ?_
      refine lv_ladd hx hb (by decide +kernel) ?_
      refine lv_lstore_n hx hb (k := 1) (i := 1) (lv' := [(1, .long ((((41 * h) + ((iI (64 * (whz c_ ((j : Int) / 12) ((j : Int) % 12)))).toInt64)) + ((iI (8 * (usz c_ ((j : Int) / 12) ((j : Int) % 12)))).toInt64)) + ((iI (b2 (fgd c_ ((j : Int) / 12) ((j : Int) % 12)))).toInt64))), (3, .int (iI (j : Int))), (0, .ref (ad 0))]) (by decide +kernel) rfl hl (by decide) rfl (fun ls hl => ?_)
      refine lv_iinc hx hb (i := 3) (n := 1) (v := iI ((j : Int) + 1)) (lv' := [(3, .int (iI ((j : Int) + 1))), (1, .long ((((41 * h) + ((iI (64 * (whz c_ ((j : Int) / 12) ((j : Int) % 12)))).toInt64)) + ((iI (8 * (usz c_ ((j : Int) / 12) ((j : Int) % 12)))).toInt64)) + ((iI (b2 (fgd c_ ((j : Int) / 12) ((j : Int) % 12)))).toInt64))), (0, .ref (ad 0))]) (by decide +kernel) hl (k := 1) rfl (iI_add _ _) (by decide) rfl (fun ls hl => ?_)
      refine lv_goto hx hb (off := (-63)) (tgt := 79) (by decide +kernel) (by decide) ?_
      exact ih (j + 1) _ _ ls _ _ _ _ (by omega) (by omega) (by rw [hh]; rfl) (by omega) (by omega) (lv_sub hl [0, 1, 2] rfl) hw
  have loop2 : ∀ (q j : Nat) (z : Int) (h : Int64) (ls : Array Slot) (H : Heap) (locs : List Loc) (cl sl : Nat), j + q = 6 * N → z = (j : Int) → h = s2 c_ N j → cl ≤ 13 + 3 * j → sl ≤ 78 + 18 * j → lv_has ls 4 [(3, .int (iI z)), (1, .long h), (0, .ref (ad 0))] → WV D A s (wO ad cA (sz τ) ++ X) H locs → W p l e (rmK 23 300 1800) s m args below meth c H locs cl sl (vx_MQ below (LQ D A (fun v V' => v = some (.long (sumv c_ N)) ∧ V' = wO ad cA (sz τ) ++ X)) (fun _ _ _ => False) args s 300 1800 A) (F0 m 39 ls []) := by
    intro q
    induction q with
    | zero =>
      intro j z h ls H locs cl sl hk hz hh hcl hsl hl hw
      refine lv_iload_n hx hb (k := 3) (i := 3) (x := iI z) (by decide +kernel) rfl (lv_at hl 0 rfl) ?_
      refine lv_bipush hx hb (n := 6) (v := iI 6) (by decide +kernel) (by decide) ?_
      refine lv_aload_n hx hb (k := 0) (i := 0) (x := ad 0) (by decide +kernel) rfl (lv_at hl 2 rfl) ?_
      refine lv_iconst hx hb (n := 0) (v := iI 0) (by decide +kernel) rfl ?_
      refine fl_call (d := 6) (j := m7_account) (as := [.inr 0]) (X := X) (x := 155) (rest := [.int (iI 6), .int (iI z)]) F hw hl.1 (c_acc0 e0 hS hN) (by decide) rfl rfl (lr66 11 rfl) (lr66 12 rfl) (lr66 13 rfl) ⟨Nat.le_of_ble_eq_true rfl, Nat.le_of_ble_eq_true rfl, (by show _ ≤ 300; omega), (by show _ ≤ 1800; omega)⟩ (Nat.le_of_ble_eq_true rfl) (by decide +kernel) rfl (fun E9 τ9 e9 => by cases e9) (fun v9 τ9 e9 H locs hw => ?_)
      cases e9
      refine W.eq (g2 := F0 m 47 ls [.int (iI (cel c_ 107)), .int (iI 6), .int (iI z)]) rfl ?_
      refine lz_imul hx hb (a := 6) (b := (cel c_ 107)) (by decide +kernel) ?_
      refine lz_icmp_ge hx hb (a := z) (b := (6 * (cel c_ 107))) (off := 29) (tgt := 77) (by decide +kernel) (by decide) ⟨by omega, by omega⟩ ⟨by omega, by omega⟩ (fun _ => ?_) (fun h9 => absurd (by omega) h9)
      refine lv_iconst hx hb (n := 0) (v := iI 0) (by decide +kernel) rfl ?_
      refine lv_istore_n hx hb (k := 3) (i := 3) (lv' := [(3, .int (iI 0)), (1, .long h), (0, .ref (ad 0))]) (by decide +kernel) rfl hl (by decide) rfl (fun ls hl => ?_)
      exact loop3 24 0 0 _ ls _ _ _ _ rfl rfl (by rw [hh, show j = 6 * N from by omega]; rfl) (by omega) (by omega) (lv_sub hl [0, 1, 2] rfl) hw
    | succ q ih =>
      intro j z h ls H locs cl sl hk hz hh hcl hsl hl hw
      subst hz
      refine lv_iload_n hx hb (k := 3) (i := 3) (x := iI (j : Int)) (by decide +kernel) rfl (lv_at hl 0 rfl) ?_
      refine lv_bipush hx hb (n := 6) (v := iI 6) (by decide +kernel) (by decide) ?_
      refine lv_aload_n hx hb (k := 0) (i := 0) (x := ad 0) (by decide +kernel) rfl (lv_at hl 2 rfl) ?_
      refine lv_iconst hx hb (n := 0) (v := iI 0) (by decide +kernel) rfl ?_
      refine fl_call (d := 6) (j := m7_account) (as := [.inr 0]) (X := X) (x := 155) (rest := [.int (iI 6), .int (iI (j : Int))]) F hw hl.1 (c_acc0 e0 hS hN) (by decide) rfl rfl (lr66 11 rfl) (lr66 12 rfl) (lr66 13 rfl) ⟨Nat.le_of_ble_eq_true rfl, Nat.le_of_ble_eq_true rfl, (by show _ ≤ 300; omega), (by show _ ≤ 1800; omega)⟩ (Nat.le_of_ble_eq_true rfl) (by decide +kernel) rfl (fun E9 τ9 e9 => by cases e9) (fun v9 τ9 e9 H locs hw => ?_)
      cases e9
      refine W.eq (g2 := F0 m 47 ls [.int (iI (cel c_ 107)), .int (iI 6), .int (iI (j : Int))]) rfl ?_
      refine lz_imul hx hb (a := 6) (b := (cel c_ 107)) (by decide +kernel) ?_
      refine lz_icmp_ge hx hb (a := (j : Int)) (b := (6 * (cel c_ 107))) (off := 29) (tgt := 77) (by decide +kernel) (by decide) ⟨by omega, by omega⟩ ⟨by omega, by omega⟩ (fun h9 => absurd h9 (by omega)) (fun _ => ?_)
      refine lv_ldc2 hx hb (v := 37) F.2.2.2.1 (ts_of' F.2.2.2.2.1 (lr66 14 rfl) rfl) (by decide +kernel) ?_
      refine lv_lload_n hx hb (k := 1) (i := 1) (x := h) (by decide +kernel) rfl (lv_at hl 1 rfl) ?_
      refine lv_lmul hx hb (by decide +kernel) ?_
      refine lv_aload_n hx hb (k := 0) (i := 0) (x := ad 0) (by decide +kernel) rfl (lv_at hl 2 rfl) ?_
      refine lv_iload_n hx hb (k := 3) (i := 3) (x := iI (j : Int)) (by decide +kernel) rfl (lv_at hl 0 rfl) ?_
      refine lv_bipush hx hb (n := 6) (v := iI 6) (by decide +kernel) (by decide) ?_
      refine lz_idiv hx hb (a := (j : Int)) (b := 6) (by decide +kernel) ⟨by omega, by omega, by omega, by omega⟩ ?_
      refine lv_iload_n hx hb (k := 3) (i := 3) (x := iI (j : Int)) (by decide +kernel) rfl (lv_at hl 0 rfl) ?_
      refine lv_bipush hx hb (n := 6) (v := iI 6) (by decide +kernel) (by decide) ?_
      refine lz_irem hx hb (a := (j : Int)) (b := 6) (by decide +kernel) ⟨by omega, by omega, by omega, by omega⟩ ?_
      refine lk_callH (x := 163) (rest := [.long (37 * h)]) (as := [.ref (ad 0), .int (iI ((j : Int) / 6)), .int (iI ((j : Int) % 6))]) (n := 3) F hw hl.1 ((K_of (X := X) (τ := τ) (f := ((j : Int) / 6)) (w := ((j : Int) % 6)) (B := B) F.l0 (by rw [e0]; omega) (by omega) (e0 ▸ hS)).to (k' := cel c_ (0 + ((j : Int) / 6) * 6 + ((j : Int) % 6))) (by rw [e0])) (lr66 15 rfl) (lr66 16 rfl) (lr66 17 rfl) (lr66 4 rfl) ⟨by decide, by decide, by decide +kernel⟩ rfl ⟨Nat.le_of_ble_eq_true rfl, Nat.le_of_ble_eq_true rfl, (by show _ ≤ 300; omega), (by show _ ≤ 1800; omega)⟩ (Nat.le_of_ble_eq_true rfl) (by decide +kernel) rfl (fun v9 V9 hG H locs hw => ?_)
      obtain ⟨rfl, rfl⟩ := hG
      refine W.eq (g2 := F0 m 68 ls [.int (iI (cel c_ (0 + ((j : Int) / 6) * 6 + ((j : Int) % 6)))), .long (37 * h)]) rfl ?_
      refine lv_i2l hx hb (x := iI (cel c_ (0 + ((j : Int) / 6) * 6 + ((j : Int) % 6)))) (by decide +kernel) rfl ?_
      refine lv_ladd hx hb (by decide +kernel) ?_
      refine lv_lstore_n hx hb (k := 1) (i := 1) (lv' := [(1, .long ((37 * h) + ((iI (cel c_ (0 + ((j : Int) / 6) * 6 + ((j : Int) % 6)))).toInt64))), (3, .int (iI (j : Int))), (0, .ref (ad 0))]) (by decide +kernel) rfl hl (by decide) rfl (fun ls hl => ?_)
      refine lv_iinc hx hb (i := 3) (n := 1) (v := iI ((j : Int) + 1)) (lv' := [(3, .int (iI ((j : Int) + 1))), (1, .long ((37 * h) + ((iI (cel c_ (0 + ((j : Int) / 6) * 6 + ((j : Int) % 6)))).toInt64))), (0, .ref (ad 0))]) (by decide +kernel) hl (k := 1) rfl (iI_add _ _) (by decide) rfl (fun ls hl => ?_)
      refine lv_goto hx hb (off := (-35)) (tgt := 39) (by decide +kernel) (by decide) ?_
      exact ih (j + 1) _ _ ls _ _ _ _ (by omega) (by omega) (by rw [hh]; rfl) (by omega) (by omega) (lv_sub hl [0, 1, 2] rfl) hw
  have loop1 : ∀ (q j : Nat) (z : Int) (h : Int64) (ls : Array Slot) (H : Heap) (locs : List Loc) (cl sl : Nat), j + q = 12 → z = (j : Int) → h = s1 c_ N j → cl ≤ j → sl ≤ 6 * j → lv_has ls 4 [(3, .int (iI z)), (1, .long h), (0, .ref (ad 0))] → WV D A s (wO ad cA (sz τ) ++ X) H locs → W p l e (rmK 23 300 1800) s m args below meth c H locs cl sl (vx_MQ below (LQ D A (fun v V' => v = some (.long (sumv c_ N)) ∧ V' = wO ad cA (sz τ) ++ X)) (fun _ _ _ => False) args s 300 1800 A) (F0 m 12 ls []) := by
    intro q
    induction q with
    | zero =>
      intro j z h ls H locs cl sl hk hz hh hcl hsl hl hw
      refine lv_iload_n hx hb (k := 3) (i := 3) (x := iI z) (by decide +kernel) rfl (lv_at hl 0 rfl) ?_
      refine lv_bipush hx hb (n := 12) (v := iI 12) (by decide +kernel) (by decide) ?_
      refine lz_icmp_ge hx hb (a := z) (b := 12) (off := 22) (tgt := 37) (by decide +kernel) (by decide) ⟨by omega, by omega⟩ ⟨by decide, by decide⟩ (fun _ => ?_) (fun h9 => absurd (by omega) h9)
      refine lv_iconst hx hb (n := 0) (v := iI 0) (by decide +kernel) rfl ?_
      refine lv_istore_n hx hb (k := 3) (i := 3) (lv' := [(3, .int (iI 0)), (1, .long h), (0, .ref (ad 0))]) (by decide +kernel) rfl hl (by decide) rfl (fun ls hl => ?_)
      exact loop2 (6 * N) 0 0 _ ls _ _ _ _ (by omega) rfl (by rw [hh, show j = 12 from by omega]; rfl) (by omega) (by omega) (lv_sub hl [0, 1, 2] rfl) hw
    | succ q ih =>
      intro j z h ls H locs cl sl hk hz hh hcl hsl hl hw
      subst hz
      refine lv_iload_n hx hb (k := 3) (i := 3) (x := iI (j : Int)) (by decide +kernel) rfl (lv_at hl 0 rfl) ?_
      refine lv_bipush hx hb (n := 12) (v := iI 12) (by decide +kernel) (by decide) ?_
      refine lz_icmp_ge hx hb (a := (j : Int)) (b := 12) (off := 22) (tgt := 37) (by decide +kernel) (by decide) ⟨by omega, by omega⟩ ⟨by decide, by decide⟩ (fun h9 => absurd h9 (by omega)) (fun _ => ?_)
      refine lv_ldc2 hx hb (v := 31) F.2.2.2.1 (ts_of' F.2.2.2.2.1 (lr66 18 rfl) rfl) (by decide +kernel) ?_
      refine lv_lload_n hx hb (k := 1) (i := 1) (x := h) (by decide +kernel) rfl (lv_at hl 1 rfl) ?_
      refine lv_lmul hx hb (by decide +kernel) ?_
      refine lv_aload_n hx hb (k := 0) (i := 0) (x := ad 0) (by decide +kernel) rfl (lv_at hl 2 rfl) ?_
      refine lv_iload_n hx hb (k := 3) (i := 3) (x := iI (j : Int)) (by decide +kernel) rfl (lv_at hl 0 rfl) ?_
      refine fl_call (d := 6) (j := m7_account) (as := [.inr (j : Int)]) (X := X) (x := 155) (rest := [.long (31 * h)]) F hw hl.1 (c_acv e0 hS hN (k := (j : Int)) ⟨by omega, by omega⟩) (by decide) rfl rfl (lr66 11 rfl) (lr66 12 rfl) (lr66 13 rfl) ⟨Nat.le_of_ble_eq_true rfl, Nat.le_of_ble_eq_true rfl, (by show _ ≤ 300; omega), (by show _ ≤ 1800; omega)⟩ (Nat.le_of_ble_eq_true rfl) (by decide +kernel) rfl (fun E9 τ9 e9 => by cases e9) (fun v9 τ9 e9 H locs hw => ?_)
      cases e9
      refine W.eq (g2 := F0 m 28 ls [.int (iI (acv c_ N (j : Int))), .long (31 * h)]) rfl ?_
      refine lv_i2l hx hb (x := iI (acv c_ N (j : Int))) (by decide +kernel) rfl ?_
      refine lv_ladd hx hb (by decide +kernel) ?_
      refine lv_lstore_n hx hb (k := 1) (i := 1) (lv' := [(1, .long ((31 * h) + ((iI (acv c_ N (j : Int))).toInt64))), (3, .int (iI (j : Int))), (0, .ref (ad 0))]) (by decide +kernel) rfl hl (by decide) rfl (fun ls hl => ?_)
      refine lv_iinc hx hb (i := 3) (n := 1) (v := iI ((j : Int) + 1)) (lv' := [(3, .int (iI ((j : Int) + 1))), (1, .long ((31 * h) + ((iI (acv c_ N (j : Int))).toInt64))), (0, .ref (ad 0))]) (by decide +kernel) hl (k := 1) rfl (iI_add _ _) (by decide) rfl (fun ls hl => ?_)
      refine lv_goto hx hb (off := (-22)) (tgt := 12) (by decide +kernel) (by decide) ?_
      exact ih (j + 1) _ _ ls _ _ _ _ (by omega) (by omega) (by rw [hh]; rfl) (by omega) (by omega) (lv_sub hl [0, 1, 2] rfl) hw
  refine lv_ldc2 hx hb (v := 7) F.2.2.2.1 (ts_of' F.2.2.2.2.1 (lr66 19 rfl) rfl) (by decide +kernel) ?_
  refine lv_aload_n hx hb (k := 0) (i := 0) (x := ad 0) (by decide +kernel) rfl (lv_at hl 0 rfl) ?_
  refine fl_call (d := 6) (j := m7_turn) (as := []) (X := X) (x := 200) (rest := [.long 7]) F hw hl.1 (c_trn e0) (by decide) rfl rfl (lr66 20 rfl) (lr66 21 rfl) (lr66 22 rfl) ⟨Nat.le_of_ble_eq_true rfl, Nat.le_of_ble_eq_true rfl, (by show _ ≤ 300; omega), (by show _ ≤ 1800; omega)⟩ (Nat.le_of_ble_eq_true rfl) (by decide +kernel) rfl (fun E9 τ9 e9 => by cases e9) (fun v9 τ9 e9 H locs hw => ?_)
  cases e9
  refine W.eq (g2 := F0 m 7 ls [.int (iI (cel c_ 108)), .long 7]) rfl ?_
  refine lv_i2l hx hb (x := iI (cel c_ 108)) (by decide +kernel) rfl ?_
  refine lv_ladd hx hb (by decide +kernel) ?_
  refine lv_lstore_n hx hb (k := 1) (i := 1) (lv' := [(1, .long (7 + ((iI (cel c_ 108)).toInt64))), (0, .ref (ad 0))]) (by decide +kernel) rfl hl (by decide) rfl (fun ls hl => ?_)
  refine lv_iconst hx hb (n := 0) (v := iI 0) (by decide +kernel) rfl ?_
  refine lv_istore_n hx hb (k := 3) (i := 3) (lv' := [(3, .int (iI 0)), (1, .long (7 + ((iI (cel c_ 108)).toInt64))), (0, .ref (ad 0))]) (by decide +kernel) rfl hl (by decide) rfl (fun ls hl => ?_)
  exact loop1 12 0 0 _ ls _ _ _ _ rfl rfl rfl (by omega) (by omega) (lv_sub hl [0, 1, 2] rfl) hw
end SUM
