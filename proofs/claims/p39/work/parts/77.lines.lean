/-! the lines of rivers and ferries: printed by wip/p39/db77.py -/
section LNS
variable {l : Launch} {D : va_G} {A : Nat → Prop} {ad adV : Nat → Nat} {cA : Nat → ClassId}
theorem chAB : ∀ i, i < 8 → (chL 7).getD i 0 = 65 + (i : Int) := by decide +kernel
theorem chab : ∀ i, i < 8 → (chL 8).getD i 0 = 97 + (i : Int) := by decide +kernel
theorem chr_128 {B : Int} {c : Nat → Int} {r p : Int} (hS : Sh B c) (hr : 0 ≤ r ∧ r < 2) : 0 ≤ chr c r p ∧ chr c r p < 128 := by
  have h := hS.wh (p := p) hr
  unfold chr ltr
  (repeat' split) <;> omega
theorem dgs_pll {p : Int} (h : 0 ≤ p ∧ p < 12) : dgs p.toNat = pll p := by
  have e : ((p.toNat : Nat) : Int) = p := Int.toNat_of_nonneg h.1
  unfold pll
  by_cases q : 10 ≤ p
  · rw [dgs_2 (by omega), if_pos q, e, show p / 10 = 1 by omega]
    rfl
  · rw [dgs_1 (by omega), if_neg q, e]
theorem fll_is {c : Nat → Int} {f : Int} (hs : 0 ≤ cel c (0 + f * 6 + 0) ∧ cel c (0 + f * 6 + 0) ≤ 1) (h1 : 0 ≤ cel c (0 + f * 6 + 1) ∧ cel c (0 + f * 6 + 1) ≤ 11) (h2 : 0 ≤ cel c (0 + f * 6 + 2) ∧ cel c (0 + f * 6 + 2) ≤ 11) :
    ([] ++ [ltr c f] ++ chL 6 ++ dgs (cel c (0 + f * 6 + 0)).toNat ++ chL 9 ++ dgs (cel c (0 + f * 6 + 1)).toNat ++ chL 10 ++ dgs (cel c (0 + f * 6 + 2)).toNat) = fll c f := by
  have e6 : chL 6 = [] := rfl
  have e9 : chL 9 = [64] := by decide +kernel
  have e10 : chL 10 = [47] := by decide +kernel
  rw [e6, e9, e10, dgs_pll ⟨h1.1, by omega⟩, dgs_pll ⟨h2.1, by omega⟩, dgs_1 (by omega), Int.toNat_of_nonneg hs.1, show cel c (0 + f * 6 + 0) % 10 = cel c (0 + f * 6 + 0) by omega]
  unfold fll
  simp only [List.append_nil]
def lr77W : List Jvm.Cond := [.methodLink RL 155 (mY m7_account),
  .instanceMethod (mY m7_account),
  .selects (mY m7_account).cls (mY m7_account) (mY m7_account),
  .methodLink RL 270 yL_riverLine,
  .static yL_riverLine,
  .codeWith yL_riverLine method_24_code 3 (some .int) [(0, 5, 6, 22)],
  .initialized RL,
  .methodLink RL 283 yL_ferryLine,
  .static yL_ferryLine,
  .codeWith yL_ferryLine method_25_code 3 (some .int) [(0, 5, 6, 22)],
  .methodLink RL 163 yL_of,
  .static yL_of,
  .codeWith yL_of method_9_code 4 (some .int) [(0, 6, 7, 22), (0, 6, 11, 14)],
  .methodLink RL 272 yL_spells,
  .static yL_spells,
  .code yL_spells method_42_code 5 (some .boolean),
  .methodLink RL 171 yL_at,
  .static yL_at,
  .codeWith yL_at method_10_code 4 (some .int) [(0, 6, 7, 22)],
  .methodLink RL 237 yL_lockAt,
  .static yL_lockAt,
  .codeWith yL_lockAt method_11_code 4 (some .int) [(0, 6, 7, 22)]]
theorem lr77_in : ∀ w ∈ lr77W, w ∈ lw_tbl := by decide +kernel
theorem lr77 (k : Nat) {w : Jvm.Cond} (h : lr77W[k]? = some w) : w ∈ lw_tbl := lr77_in w (List.mem_of_getElem? h)
theorem ln_ferries {p : Program} {e : Env} {s : State} {m : MethodId} {args : Array Value} {below : List Frame} {meth : Method} {c : Code} {X : va_W} {c_ : Nat → Int} {B : Int} {N : Nat} (F : FL D A ad adV cA p l s m args c method_43_code 5) (hlk : meth.locks = false) (hrt : meth.sig.returnType = some .boolean) (hI : Iv B c_) (hN : cel c_ 107 = (N : Int)) : ∀ (q j : Nat) (z : Int) (τ1 : SZ) (h1 : List (Nat → Int)) (ls : Array Slot) (H : Heap) (locs : List Loc) (cl sl : Nat), j + q = N → z = (j : Int) → τ1 4 = c_ → CV B τ1 h1 → cl ≤ 270 + 37 * j → sl ≤ 3900 + 470 * j → lv_has ls 5 [(1, .int (iI z)), (0, .ref (ad 0))] → WV D A s (wO ad cA (sz τ1) ++ X) H locs → W p l e (rmK 26 600 8000) s m args below meth c H locs cl sl (vx_MQ below (LQ D A (EV ad cA X c_ B)) (fun _ _ _ => False) args s 600 8000 A) (F0 m 134 ls []) := by
  have hx := F.1
  have hb := F.2.1
  have hS := hI.1
  have hn := hS.n
  have hBB := hS.B
  have hmx : mX m7_account = 1 := rfl
  intro q
  induction q with
  | zero =>
    intro j z τ1 h1 ls H locs cl sl hk hz e1 C1 hcl hsl hl hw
    refine lv_iload_n hx hb (k := 1) (i := 1) (x := iI z) (by decide +kernel) rfl (lv_at hl 0 rfl) ?_
    refine lv_aload_n hx hb (k := 0) (i := 0) (x := ad 0) (by decide +kernel) rfl (lv_at hl 1 rfl) ?_
    refine lv_iconst hx hb (n := 0) (v := iI 0) (by decide +kernel) rfl ?_
    refine fl_call (d := 6) (j := m7_account) (as := [.inr 0]) (X := _) (x := 155) (rest := [.int (iI z)]) F hw hl.1 (c_acc0 e1 hS hN) (by decide) rfl rfl (lr77 0 rfl) (lr77 1 rfl) (lr77 2 rfl) ⟨Nat.le_of_ble_eq_true rfl, Nat.le_of_ble_eq_true rfl, (by show _ ≤ 600; omega), (by show _ ≤ 8000; omega)⟩ (Nat.le_of_ble_eq_true rfl) (by decide +kernel) rfl (fun E9 τ9 e9 => by cases e9) (fun v9 τ9 e9 H locs hw => ?_)
    cases e9
    refine W.eq (g2 := F0 m 140 ls [.int (iI (cel c_ 107)), .int (iI z)]) rfl ?_
    refine lz_icmp_ge hx hb (a := z) (b := (cel c_ 107)) (off := 105) (tgt := 245) (by decide +kernel) (by decide) ⟨by omega, by omega⟩ ⟨by omega, by omega⟩ (fun _ => ?_) (fun h9 => absurd (by omega) h9)
    refine lv_aload_n hx hb (k := 0) (i := 0) (x := ad 0) (by decide +kernel) rfl (lv_at hl 1 rfl) ?_
    refine lv_iconst hx hb (n := 2) (v := iI 2) (by decide +kernel) rfl ?_
    refine lk_callH (x := 270) (rest := []) (as := [.ref (ad 0), .int (iI 2)]) (n := 2) F hw hl.1 ((L_riverLine (τ := τ1) (r := 2) (B := B) F.l0 ⟨by omega, by omega⟩ (by rw [e1]; exact hS)).to (k' := (-11)) (if_neg (by omega))) (lr77 3 rfl) (lr77 4 rfl) (lr77 5 rfl) (lr77 6 rfl) ⟨by decide, by decide, by decide +kernel⟩ rfl ⟨Nat.le_of_ble_eq_true rfl, Nat.le_of_ble_eq_true rfl, (by show _ ≤ 600; omega), (by show _ ≤ 8000; omega)⟩ (Nat.le_of_ble_eq_true rfl) (by decide +kernel) rfl (fun v9 V9 hG H locs hw => ?_)
    obtain ⟨rfl, rfl⟩ := hG
    refine W.eq (g2 := F0 m 250 ls [.int (iI (-11))]) rfl ?_
    rw [show S_riverLine τ1 2 = τ1 from if_neg (by omega)] at hw
    refine lv_bipush hx hb (n := (-11)) (v := iI (-11)) (by decide +kernel) (by decide) ?_
    refine lz_icmp_ne hx hb (a := (-11)) (b := (-11)) (off := 21) (tgt := 273) (by decide +kernel) (by decide) ⟨by decide, by decide⟩ ⟨by decide, by decide⟩ (fun h9 => absurd h9 (by decide)) (fun _ => ?_)
    refine lv_aload_n hx hb (k := 0) (i := 0) (x := ad 0) (by decide +kernel) rfl (lv_at hl 1 rfl) ?_
    refine lv_aload_n hx hb (k := 0) (i := 0) (x := ad 0) (by decide +kernel) rfl (lv_at hl 1 rfl) ?_
    refine lv_iconst hx hb (n := 0) (v := iI 0) (by decide +kernel) rfl ?_
    refine fl_call (d := 6) (j := m7_account) (as := [.inr 0]) (X := _) (x := 155) (rest := [.ref (ad 0)]) F hw hl.1 (c_acc0 e1 hS hN) (by decide) rfl rfl (lr77 0 rfl) (lr77 1 rfl) (lr77 2 rfl) ⟨Nat.le_of_ble_eq_true rfl, Nat.le_of_ble_eq_true rfl, (by show _ ≤ 600; omega), (by show _ ≤ 8000; omega)⟩ (Nat.le_of_ble_eq_true rfl) (by decide +kernel) rfl (fun E9 τ9 e9 => by cases e9) (fun v9 τ9 e9 H locs hw => ?_)
    cases e9
    refine W.eq (g2 := F0 m 261 ls [.int (iI (cel c_ 107)), .ref (ad 0)]) rfl ?_
    refine lk_callH (x := 283) (rest := []) (as := [.ref (ad 0), .int (iI (cel c_ 107))]) (n := 2) F hw hl.1 ((L_ferryLine (τ := τ1) (f := cel c_ 107) (B := B) F.l0 ⟨by omega, by omega⟩ (by rw [e1]; exact hS)).to (k' := (-11)) (if_neg (by rw [e1]; omega))) (lr77 7 rfl) (lr77 8 rfl) (lr77 9 rfl) (lr77 6 rfl) ⟨by decide, by decide, by decide +kernel⟩ rfl ⟨Nat.le_of_ble_eq_true rfl, Nat.le_of_ble_eq_true rfl, (by show _ ≤ 600; omega), (by show _ ≤ 8000; omega)⟩ (Nat.le_of_ble_eq_true rfl) (by decide +kernel) rfl (fun v9 V9 hG H locs hw => ?_)
    obtain ⟨rfl, rfl⟩ := hG
    refine W.eq (g2 := F0 m 264 ls [.int (iI (-11))]) rfl ?_
    rw [show S_ferryLine τ1 (cel c_ 107) = τ1 from if_neg (by rw [e1]; omega)] at hw
    refine lv_bipush hx hb (n := (-11)) (v := iI (-11)) (by decide +kernel) (by decide) ?_
    refine lz_icmp_ne hx hb (a := (-11)) (b := (-11)) (off := 7) (tgt := 273) (by decide +kernel) (by decide) ⟨by decide, by decide⟩ ⟨by decide, by decide⟩ (fun h9 => absurd h9 (by decide)) (fun _ => ?_)
    refine lv_iconst hx hb (n := 1) (v := iI 1) (by decide +kernel) rfl ?_
    refine lv_goto hx hb (off := 4) (tgt := 274) (by decide +kernel) (by decide) ?_
    exact lk_iret F hlk hrt hw rfl ⟨_, _, rfl, rfl, e1, C1⟩ (by omega) (by omega) (by decide +kernel)
  | succ q ih =>
    intro j z τ1 h1 ls H locs cl sl hk hz e1 C1 hcl hsl hl hw
    subst hz
    have hf : 0 ≤ (j : Int) ∧ (j : Int) < cel c_ 107 := by omega
    have hf8 : 0 ≤ (j : Int) ∧ (j : Int) < 8 := by omega
    have hkg := hS.kg hf8
    have hsd := hS.sd hf8
    have hp1 := hS.pl (r := 0) hf8 ⟨by omega, by omega⟩
    have hp2 := hS.pl (r := 1) hf8 ⟨by omega, by omega⟩
    rw [show (0 + (j : Int) * 6 + (1 + 0)) = 0 + (j : Int) * 6 + 1 by omega] at hp1
    rw [show (0 + (j : Int) * 6 + (1 + 1)) = 0 + (j : Int) * 6 + 2 by omega] at hp2
    refine lv_iload_n hx hb (k := 1) (i := 1) (x := iI (j : Int)) (by decide +kernel) rfl (lv_at hl 0 rfl) ?_
    refine lv_aload_n hx hb (k := 0) (i := 0) (x := ad 0) (by decide +kernel) rfl (lv_at hl 1 rfl) ?_
    refine lv_iconst hx hb (n := 0) (v := iI 0) (by decide +kernel) rfl ?_
    refine fl_call (d := 6) (j := m7_account) (as := [.inr 0]) (X := _) (x := 155) (rest := [.int (iI (j : Int))]) F hw hl.1 (c_acc0 e1 hS hN) (by decide) rfl rfl (lr77 0 rfl) (lr77 1 rfl) (lr77 2 rfl) ⟨Nat.le_of_ble_eq_true rfl, Nat.le_of_ble_eq_true rfl, (by show _ ≤ 600; omega), (by show _ ≤ 8000; omega)⟩ (Nat.le_of_ble_eq_true rfl) (by decide +kernel) rfl (fun E9 τ9 e9 => by cases e9) (fun v9 τ9 e9 H locs hw => ?_)
    cases e9
    refine W.eq (g2 := F0 m 140 ls [.int (iI (cel c_ 107)), .int (iI (j : Int))]) rfl ?_
    refine lz_icmp_ge hx hb (a := (j : Int)) (b := (cel c_ 107)) (off := 105) (tgt := 245) (by decide +kernel) (by decide) ⟨by omega, by omega⟩ ⟨by omega, by omega⟩ (fun h9 => absurd h9 (by omega)) (fun _ => ?_)
    refine bl_new F hw hl.1 ⟨by decide, by decide, by show _ ≤ 600; omega, by show _ ≤ 8000; omega⟩ (Nat.le_of_ble_eq_true rfl) (by decide +kernel) (by decide +kernel) (by decide +kernel) (fun b1 v1 L1 H locs le1 ln1 lc1 hw => ?_)
    refine W.eq (g2 := F0 m 150 ls [.ref b1]) rfl ?_
    have nx : ∀ (x : Int) (ls : Array Slot) (H : Heap) (locs : List Loc) (cl2 sl2 : Nat), x = ltr c_ (j : Int) → cl2 ≤ cl + 5 → sl2 ≤ sl + 38 → lv_has ls 5 [(1, .int (iI (j : Int))), (0, .ref (ad 0))] → WV D A s (wO ad cA (sz τ1) ++ (X ++ BW cA b1 v1 16 L1)) H locs → W p l e (rmK 26 600 8000) s m args below meth c H locs cl2 sl2 (vx_MQ below (LQ D A (EV ad cA X c_ B)) (fun _ _ _ => False) args s 600 8000 A) (F0 m 173 ls [.int (iI x), .ref b1]) := by
      intro x ls H locs cl2 sl2 hx0 hcl2 hsl2 hl hw
      have hx9 : 0 ≤ x ∧ x < 128 := by rw [hx0]; unfold ltr; split <;> omega
      have n6 : (chL 6).length = 0 := rfl
      have n9 : (chL 9).length = 1 := rfl
      have n10 : (chL 10).length = 1 := rfl
      refine bl_C F hw hl.1 hx9 ⟨by omega, by omega⟩ lc1 (Or.inl (by omega)) (n' := 16) (capn_1 (by omega)) ⟨by decide, by decide, by show _ ≤ 600; omega, by show _ ≤ 8000; omega⟩ (Nat.le_of_ble_eq_true rfl) (by decide +kernel) (fun v2 L2 H locs le2 ln2 lc2 hw => ?_)
      refine W.eq (g2 := F0 m 176 ls [.ref b1]) rfl ?_
      refine sl_ldc F (idx := 251) (q := 6) (by decide) (by decide +kernel) ?_
      refine bl_S F hw hl.1 (TX.cs (ad := ad) (adV := adV) (cA := cA) (k := 6) (by decide)) (fun _ h9 => absurd h9 List.not_mem_nil) ⟨by omega, by omega⟩ lc2 (Or.inl (by omega)) (n' := 16) (capn_1 (by omega)) ⟨by decide, by decide, by show _ ≤ 600; omega, by show _ ≤ 8000; omega⟩ (Nat.le_of_ble_eq_true rfl) (by decide +kernel) (fun v3 L3 H locs le3 ln3 lc3 hw => ?_)
      refine W.eq (g2 := F0 m 181 ls [.ref b1]) rfl ?_
      refine lv_aload_n hx hb (k := 0) (i := 0) (x := ad 0) (by decide +kernel) rfl (lv_at hl 1 rfl) ?_
      refine lv_iload_n hx hb (k := 1) (i := 1) (x := iI (j : Int)) (by decide +kernel) rfl (lv_at hl 0 rfl) ?_
      refine lv_iconst hx hb (n := 0) (v := iI 0) (by decide +kernel) rfl ?_
      refine lk_callH (x := 163) (rest := [.ref b1]) (as := [.ref (ad 0), .int (iI (j : Int)), .int (iI 0)]) (n := 3) F hw hl.1 ((K_of (τ := τ1) (f := (j : Int)) (w := 0) (B := B) F.l0 (by rw [e1]; omega) (by omega) (by rw [e1]; exact hS)).to (k' := cel c_ (0 + (j : Int) * 6 + 0)) (by rw [e1])) (lr77 10 rfl) (lr77 11 rfl) (lr77 12 rfl) (lr77 6 rfl) ⟨by decide, by decide, by decide +kernel⟩ rfl ⟨Nat.le_of_ble_eq_true rfl, Nat.le_of_ble_eq_true rfl, (by show _ ≤ 600; omega), (by show _ ≤ 8000; omega)⟩ (Nat.le_of_ble_eq_true rfl) (by decide +kernel) rfl (fun v9 V9 hG H locs hw => ?_)
      obtain ⟨rfl, rfl⟩ := hG
      refine W.eq (g2 := F0 m 187 ls [.int (iI (cel c_ (0 + (j : Int) * 6 + 0))), .ref b1]) rfl ?_
      have dg4 := dgl_le (k := (cel c_ (0 + (j : Int) * 6 + 0)).toNat)
      refine bl_I F hw hl.1 (k := (cel c_ (0 + (j : Int) * 6 + 0)).toNat) (by omega) (by omega) ⟨by omega, by omega⟩ lc3 (Or.inl (by omega)) (n' := 16) (capn_1 (by omega)) ⟨by decide, by decide, by show _ ≤ 600; omega, by show _ ≤ 8000; omega⟩ (Nat.le_of_ble_eq_true rfl) (by decide +kernel) (fun v4 L4 H locs le4 ln4 lc4 hw => ?_)
      refine W.eq (g2 := F0 m 190 ls [.ref b1]) rfl ?_
      refine sl_ldcw F (idx := 279) (q := 9) (by decide) (by decide +kernel) ?_
      refine bl_S F hw hl.1 (TX.cs (ad := ad) (adV := adV) (cA := cA) (k := 9) (by decide)) (fun _ h9 => absurd h9 List.not_mem_nil) ⟨by omega, by omega⟩ lc4 (Or.inl (by omega)) (n' := 16) (capn_1 (by omega)) ⟨by decide, by decide, by show _ ≤ 600; omega, by show _ ≤ 8000; omega⟩ (Nat.le_of_ble_eq_true rfl) (by decide +kernel) (fun v5 L5 H locs le5 ln5 lc5 hw => ?_)
      refine W.eq (g2 := F0 m 196 ls [.ref b1]) rfl ?_
      refine lv_aload_n hx hb (k := 0) (i := 0) (x := ad 0) (by decide +kernel) rfl (lv_at hl 1 rfl) ?_
      refine lv_iload_n hx hb (k := 1) (i := 1) (x := iI (j : Int)) (by decide +kernel) rfl (lv_at hl 0 rfl) ?_
      refine lv_iconst hx hb (n := 1) (v := iI 1) (by decide +kernel) rfl ?_
      refine lk_callH (x := 163) (rest := [.ref b1]) (as := [.ref (ad 0), .int (iI (j : Int)), .int (iI 1)]) (n := 3) F hw hl.1 ((K_of (τ := τ1) (f := (j : Int)) (w := 1) (B := B) F.l0 (by rw [e1]; omega) (by omega) (by rw [e1]; exact hS)).to (k' := cel c_ (0 + (j : Int) * 6 + 1)) (by rw [e1])) (lr77 10 rfl) (lr77 11 rfl) (lr77 12 rfl) (lr77 6 rfl) ⟨by decide, by decide, by decide +kernel⟩ rfl ⟨Nat.le_of_ble_eq_true rfl, Nat.le_of_ble_eq_true rfl, (by show _ ≤ 600; omega), (by show _ ≤ 8000; omega)⟩ (Nat.le_of_ble_eq_true rfl) (by decide +kernel) rfl (fun v9 V9 hG H locs hw => ?_)
      obtain ⟨rfl, rfl⟩ := hG
      refine W.eq (g2 := F0 m 202 ls [.int (iI (cel c_ (0 + (j : Int) * 6 + 1))), .ref b1]) rfl ?_
      have dg6 := dgl_le (k := (cel c_ (0 + (j : Int) * 6 + 1)).toNat)
      refine bl_I F hw hl.1 (k := (cel c_ (0 + (j : Int) * 6 + 1)).toNat) (by omega) (by omega) ⟨by omega, by omega⟩ lc5 (Or.inl (by omega)) (n' := 16) (capn_1 (by omega)) ⟨by decide, by decide, by show _ ≤ 600; omega, by show _ ≤ 8000; omega⟩ (Nat.le_of_ble_eq_true rfl) (by decide +kernel) (fun v6 L6 H locs le6 ln6 lc6 hw => ?_)
      refine W.eq (g2 := F0 m 205 ls [.ref b1]) rfl ?_
      refine sl_ldcw F (idx := 281) (q := 10) (by decide) (by decide +kernel) ?_
      refine bl_S F hw hl.1 (TX.cs (ad := ad) (adV := adV) (cA := cA) (k := 10) (by decide)) (fun _ h9 => absurd h9 List.not_mem_nil) ⟨by omega, by omega⟩ lc6 (Or.inl (by omega)) (n' := 16) (capn_1 (by omega)) ⟨by decide, by decide, by show _ ≤ 600; omega, by show _ ≤ 8000; omega⟩ (Nat.le_of_ble_eq_true rfl) (by decide +kernel) (fun v7 L7 H locs le7 ln7 lc7 hw => ?_)
      refine W.eq (g2 := F0 m 211 ls [.ref b1]) rfl ?_
      refine lv_aload_n hx hb (k := 0) (i := 0) (x := ad 0) (by decide +kernel) rfl (lv_at hl 1 rfl) ?_
      refine lv_iload_n hx hb (k := 1) (i := 1) (x := iI (j : Int)) (by decide +kernel) rfl (lv_at hl 0 rfl) ?_
      refine lv_iconst hx hb (n := 2) (v := iI 2) (by decide +kernel) rfl ?_
      refine lk_callH (x := 163) (rest := [.ref b1]) (as := [.ref (ad 0), .int (iI (j : Int)), .int (iI 2)]) (n := 3) F hw hl.1 ((K_of (τ := τ1) (f := (j : Int)) (w := 2) (B := B) F.l0 (by rw [e1]; omega) (by omega) (by rw [e1]; exact hS)).to (k' := cel c_ (0 + (j : Int) * 6 + 2)) (by rw [e1])) (lr77 10 rfl) (lr77 11 rfl) (lr77 12 rfl) (lr77 6 rfl) ⟨by decide, by decide, by decide +kernel⟩ rfl ⟨Nat.le_of_ble_eq_true rfl, Nat.le_of_ble_eq_true rfl, (by show _ ≤ 600; omega), (by show _ ≤ 8000; omega)⟩ (Nat.le_of_ble_eq_true rfl) (by decide +kernel) rfl (fun v9 V9 hG H locs hw => ?_)
      obtain ⟨rfl, rfl⟩ := hG
      refine W.eq (g2 := F0 m 217 ls [.int (iI (cel c_ (0 + (j : Int) * 6 + 2))), .ref b1]) rfl ?_
      have dg8 := dgl_le (k := (cel c_ (0 + (j : Int) * 6 + 2)).toNat)
      refine bl_I F hw hl.1 (k := (cel c_ (0 + (j : Int) * 6 + 2)).toNat) (by omega) (by omega) ⟨by omega, by omega⟩ lc7 (Or.inl (by omega)) (n' := 16) (capn_1 (by omega)) ⟨by decide, by decide, by show _ ≤ 600; omega, by show _ ≤ 8000; omega⟩ (Nat.le_of_ble_eq_true rfl) (by decide +kernel) (fun v8 L8 H locs le8 ln8 lc8 hw => ?_)
      refine W.eq (g2 := F0 m 220 ls [.ref b1]) rfl ?_
      refine bl_T F hw hl.1 ⟨by omega, by omega⟩ lc8 ⟨by decide, by decide, by show _ ≤ 600; omega, by show _ ≤ 8000; omega⟩ (Nat.le_of_ble_eq_true rfl) (by decide +kernel) (fun q9 r9 H locs ht9 hw => ?_)
      refine W.eq (g2 := F0 m 223 ls [.ref q9]) rfl ?_
      have et : L8 = fll c_ (j : Int) := by rw [le8, le7, le6, le5, le4, le3, le2, le1, hx0]; exact fll_is hsd hp1 hp2
      refine lv_astore_n hx hb (k := 2) (i := 2) (lv' := [(2, .ref q9), (1, .int (iI (j : Int))), (0, .ref (ad 0))]) (by decide +kernel) rfl hl (by decide) rfl (fun ls hl => ?_)
      refine lv_aload_n hx hb (k := 0) (i := 0) (x := ad 0) (by decide +kernel) rfl (lv_at hl 2 rfl) ?_
      refine lv_aload_n hx hb (k := 0) (i := 0) (x := ad 0) (by decide +kernel) rfl (lv_at hl 2 rfl) ?_
      refine lv_iload_n hx hb (k := 1) (i := 1) (x := iI (j : Int)) (by decide +kernel) rfl (lv_at hl 1 rfl) ?_
      refine lk_callH (x := 283) (rest := [.ref (ad 0)]) (as := [.ref (ad 0), .int (iI (j : Int))]) (n := 2) F hw hl.1 ((L_ferryLine (τ := τ1) (f := (j : Int)) (B := B) F.l0 ⟨by omega, by omega⟩ (by rw [e1]; exact hS)).to (k' := (L8.length : Int)) (by unfold A_ferryLine; rw [e1, if_pos hf, et])) (lr77 7 rfl) (lr77 8 rfl) (lr77 9 rfl) (lr77 6 rfl) ⟨by decide, by decide, by decide +kernel⟩ rfl ⟨Nat.le_of_ble_eq_true rfl, Nat.le_of_ble_eq_true rfl, (by show _ ≤ 600; omega), (by show _ ≤ 8000; omega)⟩ (Nat.le_of_ble_eq_true rfl) (by decide +kernel) rfl (fun v9 V9 hG H locs hw => ?_)
      obtain ⟨rfl, rfl⟩ := hG
      refine W.eq (g2 := F0 m 230 ls [.int (iI (L8.length : Int)), .ref (ad 0)]) rfl ?_
      have eS : S_ferryLine τ1 (j : Int) = lns τ1 L8 := by unfold S_ferryLine; rw [e1, if_pos hf, et]
      rw [eS] at hw
      have e2 : (lns τ1 L8) 4 = c_ := e1
      have C2 : CV B (lns τ1 L8) h1 := C1.lns (by omega) (fun v hv => by have q9 := lc8 v hv; omega)
      refine lv_aload_n hx hb (k := 2) (i := 2) (x := q9) (by decide +kernel) rfl (lv_at hl 0 rfl) ?_
      refine lk_call (x := 272) (rest := []) (as := [.ref (ad 0), .int (iI (L8.length : Int)), .ref q9]) (n := 3) F hw hl.1 (K_spells (X := X) (τ := lns τ1 L8) F.l0 C2 ht9 rfl (fun i hi => if_pos hi)) (lr77 13 rfl) (lr77 14 rfl) (lr77 15 rfl) (lr77 6 rfl) ⟨rfl, by decide, by decide, by decide +kernel⟩ rfl ⟨Nat.le_of_ble_eq_true rfl, Nat.le_of_ble_eq_true rfl, (by show _ ≤ 600; omega), (by show _ ≤ 8000; omega)⟩ (Nat.le_of_ble_eq_true rfl) (by decide +kernel) rfl (fun v9 V9 hG H locs hw => ?_)
      obtain ⟨rfl, rfl⟩ := hG
      refine W.eq (g2 := F0 m 234 ls [.int (iI 1)]) rfl ?_
      refine lz_if_ne hx hb (a := 1) (off := 5) (tgt := 239) (by decide +kernel) (by decide) ⟨by decide, by decide⟩ (fun _ => ?_) (fun h9 => absurd (by decide) h9)
      refine lv_iinc hx hb (i := 1) (n := 1) (v := iI ((j : Int) + 1)) (lv' := [(1, .int (iI ((j : Int) + 1))), (2, .ref q9), (0, .ref (ad 0))]) (by decide +kernel) hl (k := 1) rfl (iI_add _ _) (by decide) rfl (fun ls hl => ?_)
      refine lv_goto hx hb (off := (-108)) (tgt := 134) (by decide +kernel) (by decide) ?_
      exact ih (j + 1) _ _ h1 ls _ _ _ _ (by omega) (by omega) e2 C2 (by omega) (by omega) (lv_sub hl [0, 2] rfl) (wv_end hw)
    refine lv_aload_n hx hb (k := 0) (i := 0) (x := ad 0) (by decide +kernel) rfl (lv_at hl 1 rfl) ?_
    refine lv_iload_n hx hb (k := 1) (i := 1) (x := iI (j : Int)) (by decide +kernel) rfl (lv_at hl 0 rfl) ?_
    refine lv_iconst hx hb (n := 3) (v := iI 3) (by decide +kernel) rfl ?_
    refine lk_callH (x := 163) (rest := [.ref b1]) (as := [.ref (ad 0), .int (iI (j : Int)), .int (iI 3)]) (n := 3) F hw hl.1 ((K_of (τ := τ1) (f := (j : Int)) (w := 3) (B := B) F.l0 (by rw [e1]; omega) (by omega) (by rw [e1]; exact hS)).to (k' := cel c_ (0 + (j : Int) * 6 + 3)) (by rw [e1])) (lr77 10 rfl) (lr77 11 rfl) (lr77 12 rfl) (lr77 6 rfl) ⟨by decide, by decide, by decide +kernel⟩ rfl ⟨Nat.le_of_ble_eq_true rfl, Nat.le_of_ble_eq_true rfl, (by show _ ≤ 600; omega), (by show _ ≤ 8000; omega)⟩ (Nat.le_of_ble_eq_true rfl) (by decide +kernel) rfl (fun v9 V9 hG H locs hw => ?_)
    obtain ⟨rfl, rfl⟩ := hG
    refine W.eq (g2 := F0 m 156 ls [.int (iI (cel c_ (0 + (j : Int) * 6 + 3))), .ref b1]) rfl ?_
    refine lv_iconst hx hb (n := 1) (v := iI 1) (by decide +kernel) rfl ?_
    refine lz_icmp_ne hx hb (a := (cel c_ (0 + (j : Int) * 6 + 3))) (b := 1) (off := 9) (tgt := 166) (by decide +kernel) (by decide) ⟨by omega, by omega⟩ ⟨by decide, by decide⟩ (fun h1 => ?_) (fun h1 => ?_)
    ·
      refine sl_ldcw F (idx := 261) (q := 8) (by decide) (by decide +kernel) ?_
      refine lv_iload_n hx hb (k := 1) (i := 1) (x := iI (j : Int)) (by decide +kernel) rfl (lv_at hl 0 rfl) ?_
      refine sl_chr F hw hl.1 (TX.cs (ad := ad) (adV := adV) (cA := cA) (k := 8) (by decide)) (fun _ h9 => absurd h9 List.not_mem_nil) (i := (j : Int).toNat) (by omega) (by first | omega | (show _ < 8; omega)) ⟨by decide, by decide, by show _ ≤ 600; omega, by show _ ≤ 8000; omega⟩ (Nat.le_of_ble_eq_true rfl) (by decide +kernel) (fun H locs hw => ?_)
      exact nx _ ls _ _ _ _ (by rw [chab _ (by omega)]; unfold ltr; rw [if_neg (by omega)]; omega) (by omega) (by omega) (lv_sub hl [0, 1] rfl) hw
    ·
      refine sl_ldcw F (idx := 259) (q := 7) (by decide) (by decide +kernel) ?_
      refine lv_goto hx hb (off := 6) (tgt := 169) (by decide +kernel) (by decide) ?_
      refine lv_iload_n hx hb (k := 1) (i := 1) (x := iI (j : Int)) (by decide +kernel) rfl (lv_at hl 0 rfl) ?_
      refine sl_chr F hw hl.1 (TX.cs (ad := ad) (adV := adV) (cA := cA) (k := 7) (by decide)) (fun _ h9 => absurd h9 List.not_mem_nil) (i := (j : Int).toNat) (by omega) (by first | omega | (show _ < 8; omega)) ⟨by decide, by decide, by show _ ≤ 600; omega, by show _ ≤ 8000; omega⟩ (Nat.le_of_ble_eq_true rfl) (by decide +kernel) (fun H locs hw => ?_)
      exact nx _ ls _ _ _ _ (by rw [chAB _ (by omega)]; unfold ltr; rw [if_pos (by omega)]; omega) (by omega) (by omega) (lv_sub hl [0, 1] rfl) hw
theorem ln_places {p : Program} {e : Env} {s : State} {m : MethodId} {args : Array Value} {below : List Frame} {meth : Method} {c : Code} {X : va_W} {c_ : Nat → Int} {B : Int} {N : Nat} (F : FL D A ad adV cA p l s m args c method_43_code 5) (hlk : meth.locks = false) (hrt : meth.sig.returnType = some .boolean) (hI : Iv B c_) (hN : cel c_ 107 = (N : Int)) {r : Int} (hr : 0 ≤ r ∧ r < 2) {c0 s0 : Nat} (hc0 : c0 ≤ 200 ∧ s0 ≤ 3000) {τ1 : SZ} {h1 : List (Nat → Int)} (e1 : τ1 4 = c_) (C1 : CV B τ1 h1) (hnext : ∀ (τ2 : SZ) (h2 : List (Nat → Int)) (ls : Array Slot) (H : Heap) (locs : List Loc) (cl sl : Nat), τ2 4 = c_ → CV B τ2 h2 → cl ≤ c0 + 130 → sl ≤ s0 + 1900 → lv_has ls 5 [(1, .int (iI (r + 1))), (0, .ref (ad 0))] → WV D A s (wO ad cA (sz τ2) ++ X) H locs → W p l e (rmK 26 600 8000) s m args below meth c H locs cl sl (vx_MQ below (LQ D A (EV ad cA X c_ B)) (fun _ _ _ => False) args s 600 8000 A) (F0 m 2 ls [])) : ∀ (j k : Nat) (z : Int) (T : va_W) (q v : Nat) (ls : Array Slot) (H : Heap) (locs : List Loc) (cl sl : Nat), k + j = 12 → z = (k : Int) → TX ad adV cA T q v (rvl c_ r k) → cl ≤ c0 + 9 * k → sl ≤ s0 + 144 * k → lv_has ls 5 [(3, .int (iI z)), (2, .ref q), (1, .int (iI r)), (0, .ref (ad 0))] → WV D A s (wO ad cA (sz τ1) ++ (X ++ T)) H locs → W p l e (rmK 26 600 8000) s m args below meth c H locs cl sl (vx_MQ below (LQ D A (EV ad cA X c_ B)) (fun _ _ _ => False) args s 600 8000 A) (F0 m 12 ls []) := by
  have hx := F.1
  have hb := F.2.1
  have hS := hI.1
  have hn := hS.n
  have hBB := hS.B
  have hmx : mX m7_account = 1 := rfl
  intro j
  induction j with
  | zero =>
    intro k z T q v ls H locs cl sl hk hz ht hcl hsl hl hw
    have hk12 : k = 12 := by omega
    subst hk12
    have hlen := rvl_len (c := c_) (r := r) 12
    refine lv_iload_n hx hb (k := 3) (i := 3) (x := iI z) (by decide +kernel) rfl (lv_at hl 0 rfl) ?_
    refine lv_bipush hx hb (n := 12) (v := iI 12) (by decide +kernel) (by decide) ?_
    refine lz_icmp_ge hx hb (a := z) (b := 12) (off := 96) (tgt := 111) (by decide +kernel) (by decide) ⟨by omega, by omega⟩ ⟨by decide, by decide⟩ (fun _ => ?_) (fun h9 => absurd (by omega) h9)
    refine lv_aload_n hx hb (k := 0) (i := 0) (x := ad 0) (by decide +kernel) rfl (lv_at hl 3 rfl) ?_
    refine lv_aload_n hx hb (k := 0) (i := 0) (x := ad 0) (by decide +kernel) rfl (lv_at hl 3 rfl) ?_
    refine lv_iload_n hx hb (k := 1) (i := 1) (x := iI r) (by decide +kernel) rfl (lv_at hl 2 rfl) ?_
    refine lk_callH (x := 270) (rest := [.ref (ad 0)]) (as := [.ref (ad 0), .int (iI r)]) (n := 2) F hw hl.1 ((L_riverLine (τ := τ1) (r := r) (B := B) F.l0 ⟨by omega, by omega⟩ (by rw [e1]; exact hS)).to (k' := ((rvl c_ r 12).length : Int)) (by unfold A_riverLine; rw [if_pos hr, hlen]; rfl)) (lr77 3 rfl) (lr77 4 rfl) (lr77 5 rfl) (lr77 6 rfl) ⟨by decide, by decide, by decide +kernel⟩ rfl ⟨Nat.le_of_ble_eq_true rfl, Nat.le_of_ble_eq_true rfl, (by show _ ≤ 600; omega), (by show _ ≤ 8000; omega)⟩ (Nat.le_of_ble_eq_true rfl) (by decide +kernel) rfl (fun v9 V9 hG H locs hw => ?_)
    obtain ⟨rfl, rfl⟩ := hG
    refine W.eq (g2 := F0 m 117 ls [.int (iI ((rvl c_ r 12).length : Int)), .ref (ad 0)]) rfl ?_
    have eS : S_riverLine τ1 r = lns τ1 (rvl c_ r 12) := by unfold S_riverLine; rw [if_pos hr, e1]
    rw [eS] at hw
    have e2 : (lns τ1 (rvl c_ r 12)) 4 = c_ := e1
    have C2 : CV B (lns τ1 (rvl c_ r 12)) h1 := C1.lns (by omega) (fun v hv => by have q9 := ht.ok.1 v hv; omega)
    refine lv_aload_n hx hb (k := 2) (i := 2) (x := q) (by decide +kernel) rfl (lv_at hl 1 rfl) ?_
    refine lk_call (x := 272) (rest := []) (as := [.ref (ad 0), .int (iI ((rvl c_ r 12).length : Int)), .ref q]) (n := 3) F hw hl.1 (K_spells (X := X) (T := T) (τ := lns τ1 (rvl c_ r 12)) F.l0 C2 ht rfl (fun i hi => if_pos hi)) (lr77 13 rfl) (lr77 14 rfl) (lr77 15 rfl) (lr77 6 rfl) ⟨rfl, by decide, by decide, by decide +kernel⟩ rfl ⟨Nat.le_of_ble_eq_true rfl, Nat.le_of_ble_eq_true rfl, (by show _ ≤ 600; omega), (by show _ ≤ 8000; omega)⟩ (Nat.le_of_ble_eq_true rfl) (by decide +kernel) rfl (fun v9 V9 hG H locs hw => ?_)
    obtain ⟨rfl, rfl⟩ := hG
    refine W.eq (g2 := F0 m 121 ls [.int (iI 1)]) rfl ?_
    refine lz_if_ne hx hb (a := 1) (off := 5) (tgt := 126) (by decide +kernel) (by decide) ⟨by decide, by decide⟩ (fun _ => ?_) (fun h9 => absurd (by decide) h9)
    refine lv_iinc hx hb (i := 1) (n := 1) (v := iI (r + 1)) (lv' := [(1, .int (iI (r + 1))), (3, .int (iI z)), (2, .ref q), (0, .ref (ad 0))]) (by decide +kernel) hl (k := 2) rfl (iI_add _ _) (by decide) rfl (fun ls hl => ?_)
    refine lv_goto hx hb (off := (-127)) (tgt := 2) (by decide +kernel) (by decide) ?_
    exact hnext _ h1 ls _ _ _ _ e2 C2 (by omega) (by omega) (lv_sub hl [0, 3] rfl) (wv_end hw)
  | succ j ih =>
    intro k z T q v ls H locs cl sl hk hz ht hcl hsl hl hw
    subst hz
    have hov := hI.2.1.ov (p := (k : Int)) hr
    have hus := hS.us (p := (k : Int)) hr
    have hlen := rvl_len (c := c_) (r := r) k
    have hkg : 0 ≤ whz c_ r (k : Int) → ¬ whz c_ r (k : Int) = 8 → 0 ≤ cel c_ (0 + whz c_ r (k : Int) * 6 + 3) ∧ cel c_ (0 + whz c_ r (k : Int) * 6 + 3) ≤ 1 := fun q1 q2 => hS.kg (by omega)
    refine lv_iload_n hx hb (k := 3) (i := 3) (x := iI (k : Int)) (by decide +kernel) rfl (lv_at hl 0 rfl) ?_
    refine lv_bipush hx hb (n := 12) (v := iI 12) (by decide +kernel) (by decide) ?_
    refine lz_icmp_ge hx hb (a := (k : Int)) (b := 12) (off := 96) (tgt := 111) (by decide +kernel) (by decide) ⟨by omega, by omega⟩ ⟨by decide, by decide⟩ (fun h9 => absurd h9 (by omega)) (fun _ => ?_)
    refine lv_aload_n hx hb (k := 0) (i := 0) (x := ad 0) (by decide +kernel) rfl (lv_at hl 3 rfl) ?_
    refine lv_iload_n hx hb (k := 1) (i := 1) (x := iI r) (by decide +kernel) rfl (lv_at hl 2 rfl) ?_
    refine lv_iload_n hx hb (k := 3) (i := 3) (x := iI (k : Int)) (by decide +kernel) rfl (lv_at hl 0 rfl) ?_
    refine lk_callH (x := 171) (rest := []) (as := [.ref (ad 0), .int (iI r), .int (iI (k : Int))]) (n := 3) F hw hl.1 ((K_at (τ := τ1) (r := r) (p := (k : Int)) F.l0 hr (by omega)).to (k' := whz c_ r (k : Int)) (by rw [e1])) (lr77 16 rfl) (lr77 17 rfl) (lr77 18 rfl) (lr77 6 rfl) ⟨by decide, by decide, by decide +kernel⟩ rfl ⟨Nat.le_of_ble_eq_true rfl, Nat.le_of_ble_eq_true rfl, (by show _ ≤ 600; omega), (by show _ ≤ 8000; omega)⟩ (Nat.le_of_ble_eq_true rfl) (by decide +kernel) rfl (fun v9 V9 hG H locs hw => ?_)
    obtain ⟨rfl, rfl⟩ := hG
    refine W.eq (g2 := F0 m 24 ls [.int (iI (whz c_ r (k : Int)))]) rfl ?_
    refine lv_istore hx hb (i := 4) (lv' := [(4, .int (iI (whz c_ r (k : Int)))), (3, .int (iI (k : Int))), (2, .ref q), (1, .int (iI r)), (0, .ref (ad 0))]) (by decide +kernel) hl (by decide) rfl (fun ls hl => ?_)
    refine bl_new F hw hl.1 ⟨by decide, by decide, by show _ ≤ 600; omega, by show _ ≤ 8000; omega⟩ (Nat.le_of_ble_eq_true rfl) (by decide +kernel) (by decide +kernel) (by decide +kernel) (fun b1 v1 L1 H locs le1 ln1 lc1 hw => ?_)
    refine W.eq (g2 := F0 m 33 ls [.ref b1]) rfl ?_
    refine lv_aload_n hx hb (k := 2) (i := 2) (x := q) (by decide +kernel) rfl (lv_at hl 2 rfl) ?_
    refine bl_S F hw hl.1 ht (fun x hx => List.mem_append_right _ hx) ⟨by omega, by omega⟩ lc1 (Or.inl (by omega)) (n' := 16) (capn_1 (by omega)) ⟨by decide, by decide, by show _ ≤ 600; omega, by show _ ≤ 8000; omega⟩ (Nat.le_of_ble_eq_true rfl) (by decide +kernel) (fun v2 L2 H locs le2 ln2 lc2 hw => ?_)
    refine W.eq (g2 := F0 m 37 ls [.ref b1]) rfl ?_
    have app : ∀ (x : Int) (ls : Array Slot) (H : Heap) (locs : List Loc) (cl2 sl2 : Nat), x = chr c_ r (k : Int) → cl2 ≤ cl + 6 → sl2 ≤ sl + 72 → lv_has ls 5 [(4, .int (iI (whz c_ r (k : Int)))), (3, .int (iI (k : Int))), (2, .ref q), (1, .int (iI r)), (0, .ref (ad 0))] → WV D A s (wO ad cA (sz τ1) ++ ((X ++ T) ++ BW cA b1 v2 16 L2)) H locs → W p l e (rmK 26 600 8000) s m args below meth c H locs cl2 sl2 (vx_MQ below (LQ D A (EV ad cA X c_ B)) (fun _ _ _ => False) args s 600 8000 A) (F0 m 98 ls [.int (iI x), .ref b1]) := by
      intro x ls H locs cl2 sl2 hx0 hcl2 hsl2 hl hw
      have hx9 : 0 ≤ x ∧ x < 128 := by rw [hx0]; exact chr_128 hS hr
      refine bl_C F hw hl.1 hx9 ⟨by omega, by omega⟩ lc2 (Or.inl (by omega)) (n' := 16) (capn_1 (by omega)) ⟨by decide, by decide, by show _ ≤ 600; omega, by show _ ≤ 8000; omega⟩ (Nat.le_of_ble_eq_true rfl) (by decide +kernel) (fun v3 L3 H locs le3 ln3 lc3 hw => ?_)
      refine W.eq (g2 := F0 m 101 ls [.ref b1]) rfl ?_
      refine bl_T F hw hl.1 ⟨by omega, by omega⟩ lc3 ⟨by decide, by decide, by show _ ≤ 600; omega, by show _ ≤ 8000; omega⟩ (Nat.le_of_ble_eq_true rfl) (by decide +kernel) (fun q4 r4 H locs ht4 hw => ?_)
      refine W.eq (g2 := F0 m 104 ls [.ref q4]) rfl ?_
      have et : L3 = rvl c_ r (k + 1) := by rw [le3, le2, le1, hx0]; rfl
      subst et
      refine lv_astore_n hx hb (k := 2) (i := 2) (lv' := [(2, .ref q4), (4, .int (iI (whz c_ r (k : Int)))), (3, .int (iI (k : Int))), (1, .int (iI r)), (0, .ref (ad 0))]) (by decide +kernel) rfl hl (by decide) rfl (fun ls hl => ?_)
      refine lv_iinc hx hb (i := 3) (n := 1) (v := iI ((k : Int) + 1)) (lv' := [(3, .int (iI ((k : Int) + 1))), (2, .ref q4), (4, .int (iI (whz c_ r (k : Int)))), (1, .int (iI r)), (0, .ref (ad 0))]) (by decide +kernel) hl (k := 2) rfl (iI_add _ _) (by decide) rfl (fun ls hl => ?_)
      refine lv_goto hx hb (off := (-96)) (tgt := 12) (by decide +kernel) (by decide) ?_
      exact ih (k + 1) _ _ _ _ ls _ _ _ _ (by omega) (by omega) ht4 (by omega) (by omega) (lv_sub hl [0, 1, 3, 4] rfl) (wv_cut2 hw)
    refine lv_iload hx hb (i := 4) (x := iI (whz c_ r (k : Int))) (by decide +kernel) (lv_at hl 0 rfl) ?_
    refine lv_bipush hx hb (n := 8) (v := iI 8) (by decide +kernel) (by decide) ?_
    refine lz_icmp_ne hx hb (a := (whz c_ r (k : Int))) (b := 8) (off := 8) (tgt := 49) (by decide +kernel) (by decide) ⟨by omega, by omega⟩ ⟨by decide, by decide⟩ (fun h1 => ?_) (fun h1 => ?_)
    ·
      refine lv_iload hx hb (i := 4) (x := iI (whz c_ r (k : Int))) (by decide +kernel) (lv_at hl 0 rfl) ?_
      refine lz_if_lt hx hb (a := (whz c_ r (k : Int))) (off := 31) (tgt := 82) (by decide +kernel) (by decide) ⟨by omega, by omega⟩ (fun h2 => ?_) (fun h2 => ?_)
      ·
        refine lv_aload_n hx hb (k := 0) (i := 0) (x := ad 0) (by decide +kernel) rfl (lv_at hl 4 rfl) ?_
        refine lv_iload_n hx hb (k := 1) (i := 1) (x := iI r) (by decide +kernel) rfl (lv_at hl 3 rfl) ?_
        refine lv_iload_n hx hb (k := 3) (i := 3) (x := iI (k : Int)) (by decide +kernel) rfl (lv_at hl 1 rfl) ?_
        refine lk_callH (x := 237) (rest := [.ref b1]) (as := [.ref (ad 0), .int (iI r), .int (iI (k : Int))]) (n := 3) F hw hl.1 ((K_lockAt (τ := τ1) (r := r) (p := (k : Int)) F.l0 hr (by omega)).to (k' := usz c_ r (k : Int)) (by rw [e1])) (lr77 19 rfl) (lr77 20 rfl) (lr77 21 rfl) (lr77 6 rfl) ⟨by decide, by decide, by decide +kernel⟩ rfl ⟨Nat.le_of_ble_eq_true rfl, Nat.le_of_ble_eq_true rfl, (by show _ ≤ 600; omega), (by show _ ≤ 8000; omega)⟩ (Nat.le_of_ble_eq_true rfl) (by decide +kernel) rfl (fun v9 V9 hG H locs hw => ?_)
        obtain ⟨rfl, rfl⟩ := hG
        refine W.eq (g2 := F0 m 88 ls [.int (iI (usz c_ r (k : Int))), .ref b1]) rfl ?_
        refine lz_if_le hx hb (a := (usz c_ r (k : Int))) (off := 8) (tgt := 96) (by decide +kernel) (by decide) ⟨by omega, by omega⟩ (fun h3 => ?_) (fun h3 => ?_)
        ·
          refine lv_bipush hx hb (n := 46) (v := iI 46) (by decide +kernel) (by decide) ?_
          exact app _ ls _ _ _ _ (by unfold chr; rw [if_neg (by omega), if_neg (by omega), if_neg (by omega)]) (by omega) (by omega) (lv_sub hl [0, 1, 2, 3, 4] rfl) hw
        ·
          refine lv_bipush hx hb (n := 61) (v := iI 61) (by decide +kernel) (by decide) ?_
          refine lv_goto hx hb (off := 5) (tgt := 98) (by decide +kernel) (by decide) ?_
          exact app _ ls _ _ _ _ (by unfold chr; rw [if_neg (by omega), if_neg (by omega), if_pos (by omega)]) (by omega) (by omega) (lv_sub hl [0, 1, 2, 3, 4] rfl) hw
      ·
        refine lv_aload_n hx hb (k := 0) (i := 0) (x := ad 0) (by decide +kernel) rfl (lv_at hl 4 rfl) ?_
        refine lv_iload hx hb (i := 4) (x := iI (whz c_ r (k : Int))) (by decide +kernel) (lv_at hl 0 rfl) ?_
        refine lv_iconst hx hb (n := 3) (v := iI 3) (by decide +kernel) rfl ?_
        refine lk_callH (x := 163) (rest := [.ref b1]) (as := [.ref (ad 0), .int (iI (whz c_ r (k : Int))), .int (iI 3)]) (n := 3) F hw hl.1 ((K_of (τ := τ1) (f := whz c_ r (k : Int)) (w := 3) (B := B) F.l0 (by rw [e1]; omega) (by omega) (by rw [e1]; exact hS)).to (k' := cel c_ (0 + (whz c_ r (k : Int)) * 6 + 3)) (by rw [e1])) (lr77 10 rfl) (lr77 11 rfl) (lr77 12 rfl) (lr77 6 rfl) ⟨by decide, by decide, by decide +kernel⟩ rfl ⟨Nat.le_of_ble_eq_true rfl, Nat.le_of_ble_eq_true rfl, (by show _ ≤ 600; omega), (by show _ ≤ 8000; omega)⟩ (Nat.le_of_ble_eq_true rfl) (by decide +kernel) rfl (fun v9 V9 hG H locs hw => ?_)
        obtain ⟨rfl, rfl⟩ := hG
        refine W.eq (g2 := F0 m 61 ls [.int (iI (cel c_ (0 + (whz c_ r (k : Int)) * 6 + 3))), .ref b1]) rfl ?_
        refine lv_iconst hx hb (n := 1) (v := iI 1) (by decide +kernel) rfl ?_
        refine lz_icmp_ne hx hb (a := (cel c_ (0 + (whz c_ r (k : Int)) * 6 + 3))) (b := 1) (off := 9) (tgt := 71) (by decide +kernel) (by decide) ⟨by omega, by omega⟩ ⟨by decide, by decide⟩ (fun h4 => ?_) (fun h4 => ?_)
        ·
          refine sl_ldcw F (idx := 261) (q := 8) (by decide) (by decide +kernel) ?_
          refine lv_iload hx hb (i := 4) (x := iI (whz c_ r (k : Int))) (by decide +kernel) (lv_at hl 0 rfl) ?_
          refine sl_chr F hw hl.1 (TX.cs (ad := ad) (adV := adV) (cA := cA) (k := 8) (by decide)) (fun _ h9 => absurd h9 List.not_mem_nil) (i := (whz c_ r (k : Int)).toNat) (by omega) (by first | omega | (show _ < 8; omega)) ⟨by decide, by decide, by show _ ≤ 600; omega, by show _ ≤ 8000; omega⟩ (Nat.le_of_ble_eq_true rfl) (by decide +kernel) (fun H locs hw => ?_)
          refine lv_goto hx hb (off := 19) (tgt := 98) (by decide +kernel) (by decide) ?_
          exact app _ ls _ _ _ _ (by rw [chab _ (by omega)]; unfold chr; rw [if_neg (by omega), if_pos (by omega)]; unfold ltr; rw [if_neg (by omega)]; omega) (by omega) (by omega) (lv_sub hl [0, 1, 2, 3, 4] rfl) hw
        ·
          refine sl_ldcw F (idx := 259) (q := 7) (by decide) (by decide +kernel) ?_
          refine lv_goto hx hb (off := 6) (tgt := 74) (by decide +kernel) (by decide) ?_
          refine lv_iload hx hb (i := 4) (x := iI (whz c_ r (k : Int))) (by decide +kernel) (lv_at hl 0 rfl) ?_
          refine sl_chr F hw hl.1 (TX.cs (ad := ad) (adV := adV) (cA := cA) (k := 7) (by decide)) (fun _ h9 => absurd h9 List.not_mem_nil) (i := (whz c_ r (k : Int)).toNat) (by omega) (by first | omega | (show _ < 8; omega)) ⟨by decide, by decide, by show _ ≤ 600; omega, by show _ ≤ 8000; omega⟩ (Nat.le_of_ble_eq_true rfl) (by decide +kernel) (fun H locs hw => ?_)
          refine lv_goto hx hb (off := 19) (tgt := 98) (by decide +kernel) (by decide) ?_
          exact app _ ls _ _ _ _ (by rw [chAB _ (by omega)]; unfold chr; rw [if_neg (by omega), if_pos (by omega)]; unfold ltr; rw [if_pos (by omega)]; omega) (by omega) (by omega) (lv_sub hl [0, 1, 2, 3, 4] rfl) hw
    ·
      refine lv_bipush hx hb (n := 42) (v := iI 42) (by decide +kernel) (by decide) ?_
      refine lv_goto hx hb (off := 52) (tgt := 98) (by decide +kernel) (by decide) ?_
      exact app _ ls _ _ _ _ (by unfold chr; rw [if_pos (by omega)]) (by omega) (by omega) (lv_sub hl [0, 1, 2, 3, 4] rfl) hw
theorem K_lines {X : va_W} {τ : SZ} {h : List (Nat → Int)} {c_ : Nat → Int} {B : Int} {N : Nat} (hl0 : l.stackTraces = false) (C : CV B τ h) (e0 : τ 4 = c_) (hN : cel c_ 107 = (N : Int)) : LK l D A ad adV cA (.code yL_lines method_43_code 5 (some .boolean)) yL_lines 26 600 8000 [.ref (ad 0)] (wO ad cA (sz τ) ++ X) (EV ad cA X c_ B) := by
  refine lk_of hl0 rfl ?_ (Nat.le_of_ble_eq_true rfl)
  rintro p e s m args below meth c F hlk hrt hw ls hl
  have hl : lv_has ls 5 [(0, .ref (ad 0))] := hl
  have hI : Iv B c_ := e0 ▸ C.1
  have hx := F.1
  have hb := F.2.1
  have hS := hI.1
  have hn := hS.n
  have hBB := hS.B
  have hmx : mX m7_account = 1 := rfl
  refine lv_iconst hx hb (n := 0) (v := iI 0) (by decide +kernel) rfl ?_
  refine lv_istore_n hx hb (k := 1) (i := 1) (lv' := [(1, .int (iI 0)), (0, .ref (ad 0))]) (by decide +kernel) rfl hl (by decide) rfl (fun ls hl => ?_)
  refine lv_iload_n hx hb (k := 1) (i := 1) (x := iI 0) (by decide +kernel) rfl (lv_at hl 0 rfl) ?_
  refine lv_iconst hx hb (n := 2) (v := iI 2) (by decide +kernel) rfl ?_
  refine lz_icmp_ge hx hb (a := 0) (b := 2) (off := 128) (tgt := 132) (by decide +kernel) (by decide) ⟨by decide, by decide⟩ ⟨by decide, by decide⟩ (fun h9 => absurd h9 (by decide)) (fun _ => ?_)
  refine sl_ldc F (idx := 251) (q := 6) (by decide) (by decide +kernel) ?_
  refine lv_astore_n hx hb (k := 2) (i := 2) (lv' := [(2, .ref (ad (100 + 6))), (1, .int (iI 0)), (0, .ref (ad 0))]) (by decide +kernel) rfl hl (by decide) rfl (fun ls hl => ?_)
  refine lv_iconst hx hb (n := 0) (v := iI 0) (by decide +kernel) rfl ?_
  refine lv_istore_n hx hb (k := 3) (i := 3) (lv' := [(3, .int (iI 0)), (2, .ref (ad (100 + 6))), (1, .int (iI 0)), (0, .ref (ad 0))]) (by decide +kernel) rfl hl (by decide) rfl (fun ls hl => ?_)
  exact ln_places F hlk hrt hI hN (r := 0) ⟨by omega, by omega⟩ (c0 := 0) (s0 := 0) (by omega) e0 C (fun τ1 h1 ls H locs cl sl e1 C1 hcl hsl hl hw => by
    have hl : lv_has ls 5 [(1, .int (iI 1)), (0, .ref (ad 0))] := hl
    refine lv_iload_n hx hb (k := 1) (i := 1) (x := iI 1) (by decide +kernel) rfl (lv_at hl 0 rfl) ?_
    refine lv_iconst hx hb (n := 2) (v := iI 2) (by decide +kernel) rfl ?_
    refine lz_icmp_ge hx hb (a := 1) (b := 2) (off := 128) (tgt := 132) (by decide +kernel) (by decide) ⟨by decide, by decide⟩ ⟨by decide, by decide⟩ (fun h9 => absurd h9 (by decide)) (fun _ => ?_)
    refine sl_ldc F (idx := 251) (q := 6) (by decide) (by decide +kernel) ?_
    refine lv_astore_n hx hb (k := 2) (i := 2) (lv' := [(2, .ref (ad (100 + 6))), (1, .int (iI 1)), (0, .ref (ad 0))]) (by decide +kernel) rfl hl (by decide) rfl (fun ls hl => ?_)
    refine lv_iconst hx hb (n := 0) (v := iI 0) (by decide +kernel) rfl ?_
    refine lv_istore_n hx hb (k := 3) (i := 3) (lv' := [(3, .int (iI 0)), (2, .ref (ad (100 + 6))), (1, .int (iI 1)), (0, .ref (ad 0))]) (by decide +kernel) rfl hl (by decide) rfl (fun ls hl => ?_)
    exact ln_places F hlk hrt hI hN (r := 1) ⟨by omega, by omega⟩ (c0 := 130) (s0 := 1900) (by omega) e1 C1 (fun τ2 h2 ls H locs cl sl e2 C2 hcl hsl hl hw => by
      have hl : lv_has ls 5 [(1, .int (iI 2)), (0, .ref (ad 0))] := hl
      refine lv_iload_n hx hb (k := 1) (i := 1) (x := iI 2) (by decide +kernel) rfl (lv_at hl 0 rfl) ?_
      refine lv_iconst hx hb (n := 2) (v := iI 2) (by decide +kernel) rfl ?_
      refine lz_icmp_ge hx hb (a := 2) (b := 2) (off := 128) (tgt := 132) (by decide +kernel) (by decide) ⟨by decide, by decide⟩ ⟨by decide, by decide⟩ (fun _ => ?_) (fun h9 => absurd (by decide) h9)
      refine lv_iconst hx hb (n := 0) (v := iI 0) (by decide +kernel) rfl ?_
      refine lv_istore_n hx hb (k := 1) (i := 1) (lv' := [(1, .int (iI 0)), (0, .ref (ad 0))]) (by decide +kernel) rfl hl (by decide) rfl (fun ls hl => ?_)
      exact ln_ferries F hlk hrt hI hN N 0 0 τ2 h2 ls _ _ _ _ (by omega) rfl e2 C2 (by omega) (by omega) (lv_sub hl [0, 1] rfl) hw) 12 0 _ _ _ _ ls _ _ _ _ (by omega) rfl (TX.cs (k := 6) (by decide)) (by omega) (by omega) (lv_sub hl [0, 1, 2, 3] rfl) (wv_nil hw)) 12 0 _ _ _ _ ls _ _ _ _ (by omega) rfl (TX.cs (k := 6) (by decide)) (by omega) (by omega) (lv_sub hl [0, 1, 2, 3] rfl) (wv_nil hw)
end LNS
