/-! changes, and all of them undone: printed by wip/p39/db79.py -/
section UND
variable {l : Launch} {D : va_G} {A : Nat → Prop} {ad adV : Nat → Nat} {cA : Nat → ClassId}
def lr79W : List Jvm.Cond := [.methodLink RL 228 yL_undo,
  .static yL_undo,
  .codeWith yL_undo method_30_code 2 (some .int) [(0, 4, 5, 104)],
  .initialized RL,
  .methodLink RL 293 yL_sum,
  .static yL_sum,
  .code yL_sum method_44_code 4 (some .long),
  .methodLink RL 137 yL_ferry,
  .static yL_ferry,
  .codeWith yL_ferry method_3_code 5 (some .int) [(0, 7, 8, 14), (0, 7, 13, 16)],
  .methodLink RL 145 yL_tug,
  .static yL_tug,
  .codeWith yL_tug method_4_code 4 (some .int) [(0, 6, 7, 22), (0, 6, 11, 16)],
  .methodLink RL 143 yL_lock,
  .static yL_lock,
  .codeWith yL_lock method_5_code 5 (some .int) [(0, 7, 8, 22), (0, 7, 13, 14), (0, 7, 18, 16)],
  .methodLink RL 148 yL_fog,
  .static yL_fog,
  .codeWith yL_fog method_6_code 5 (some .int) [(0, 7, 8, 22), (0, 7, 13, 14), (0, 7, 18, 16)],
  .methodLink RL 161 yL_move,
  .static yL_move,
  .codeWith yL_move method_7_code 5 (some .int) [(0, 7, 8, 22), (0, 7, 13, 16)],
  .methodLink RL 153 yL_pass,
  .static yL_pass,
  .codeWith yL_pass method_8_code 2 (some .int) [(0, 4, 5, 16)],
  .methodLink RL 299 yL_run,
  .static yL_run,
  .code yL_run method_31_code 3 (some .int),
  .methodLink RL 133 yL_cell,
  .static yL_cell,
  .code yL_cell method_2_code 2 (some .int),
  .methodLink RL 150 yL_best,
  .static yL_best,
  .codeWith yL_best method_20_code 3 (some .int) [(0, 5, 6, 14), (0, 5, 10, 58)]]
theorem lr79_in : ∀ w ∈ lr79W, w ∈ lw_tbl := by decide +kernel
theorem lr79 (k : Nat) {w : Jvm.Cond} (h : lr79W[k]? = some w) : w ∈ lw_tbl := lr79_in w (List.mem_of_getElem? h)
set_option maxRecDepth 20000 in
theorem un_back {p : Program} {e : Env} {s : State} {m : MethodId} {args : Array Value} {below : List Frame} {meth : Method} {c : Code} {B : Int} {qs : Nat} (F : FL D A ad adV cA p l s m args c method_45_code 11) (hlk : meth.locks = false) (hrt : meth.sig.returnType = some .boolean) (hB : 100 ≤ B ∧ B + 2000 ≤ 100000000) : ∀ (ks t : List (Nat → Int)) (z : Int) (τ1 : SZ) (g : Nat → Int64) (ls : Array Slot) (H : Heap) (locs : List Loc) (cl sl : Nat), z = (ks.length : Int) - 1 → ks.length ≤ 7 → CV B τ1 (ks ++ t) → KS g ks → cl + 310 * ks.length ≤ 9000 → sl + 1900 * ks.length ≤ 56000 → lv_has ls 11 [(4, .int (iI z)), (2, .ref qs), (1, .ref (ad 0))] → WV D A s (wO ad cA (sz τ1) ++ XL cA qs g) H locs → W p l e (rmK 26 9000 56000) s m args below meth c H locs cl sl (vx_MQ below (LQ D A (fun v _ => v = some (.int (iI 1)))) (fun _ _ _ => False) args s 9000 56000 A) (F0 m 491 ls []) := by
  have hx := F.1
  have hb := F.2.1
  intro ks
  induction ks with
  | nil =>
    intro t z τ1 g ls H locs cl sl hz h7 C1 hK hcl hsl hl hw
    rw [List.length_nil] at hz
    refine lv_iload hx hb (i := 4) (x := iI z) (by decide +kernel) (lv_at hl 0 rfl) ?_
    refine lz_if_lt hx hb (a := z) (off := 30) (tgt := 523) (by decide +kernel) (by decide) ⟨by omega, by omega⟩ (fun _ => ?_) (fun h9 => absurd (by omega) h9)
    refine lv_iconst hx hb (n := 1) (v := iI 1) (by decide +kernel) rfl ?_
    exact lk_iret F hlk hrt hw rfl rfl (by omega) (by omega) (by decide +kernel)
  | cons c_ ks ih =>
    intro t z τ1 g ls H locs cl sl hz h7 C1 hK hcl hsl hl hw
    rw [List.length_cons] at hz h7 hcl hsl
    have C0 : CV B τ1 (c_ :: (ks ++ t)) := C1
    have hS := (C0.2.2.1 c_ List.mem_cons_self).1
    have hn := hS.n
    have eK : g ks.length = (sumv c_ (cel c_ 107).toNat) := hK.1
    refine lv_iload hx hb (i := 4) (x := iI z) (by decide +kernel) (lv_at hl 0 rfl) ?_
    refine lz_if_lt hx hb (a := z) (off := 30) (tgt := 523) (by decide +kernel) (by decide) ⟨by omega, by omega⟩ (fun h9 => absurd h9 (by omega)) (fun _ => ?_)
    refine lv_aload_n hx hb (k := 1) (i := 1) (x := ad 0) (by decide +kernel) rfl (lv_at hl 2 rfl) ?_
    obtain ⟨hU, hu1, hu2, hu3⟩ := M_undo (X := XL cA qs g) (ad := ad) (adV := adV) (cA := cA) (D := D) (A := A) F.l0 C0 (by omega)
    refine lk_callH (x := 228) (rest := []) (as := [.ref (ad 0)]) (n := 1) F hw hl.1 (hU) (lr79 0 rfl) (lr79 1 rfl) (lr79 2 rfl) (lr79 3 rfl) ⟨by decide, by decide, by decide +kernel⟩ rfl ⟨Nat.le_of_ble_eq_true rfl, Nat.le_of_ble_eq_true rfl, (by show _ ≤ 9000; omega), (by show _ ≤ 56000; omega)⟩ (Nat.le_of_ble_eq_true rfl) (by decide +kernel) rfl (fun v9 V9 hG H locs hw => ?_)
    obtain ⟨rfl, rfl⟩ := hG
    refine W.eq (g2 := F0 m 500 ls [.int (iI ((τ1 14 2) - 1))]) rfl ?_
    refine lz_if_lt hx hb (a := ((τ1 14 2) - 1)) (off := 15) (tgt := 515) (by decide +kernel) (by decide) ⟨by omega, by omega⟩ (fun h9 => absurd h9 (by omega)) (fun _ => ?_)
    refine lv_aload_n hx hb (k := 1) (i := 1) (x := ad 0) (by decide +kernel) rfl (lv_at hl 2 rfl) ?_
    refine lk_call (x := 293) (rest := []) (as := [.ref (ad 0)]) (n := 1) F hw hl.1 (K_sum (τ := (hpb τ1)) (c_ := c_) F.l0 hu2 hS (Int.toNat_of_nonneg hn.1).symm) (lr79 4 rfl) (lr79 5 rfl) (lr79 6 rfl) (lr79 3 rfl) ⟨rfl, by decide, by decide, by decide +kernel⟩ rfl ⟨Nat.le_of_ble_eq_true rfl, Nat.le_of_ble_eq_true rfl, (by show _ ≤ 9000; omega), (by show _ ≤ 56000; omega)⟩ (Nat.le_of_ble_eq_true rfl) (by decide +kernel) rfl (fun v9 V9 hG H locs hw => ?_)
    obtain ⟨rfl, rfl⟩ := hG
    refine W.eq (g2 := F0 m 507 ls [.long (sumv c_ (cel c_ 107).toNat)]) rfl ?_
    refine lv_aload_n hx hb (k := 2) (i := 2) (x := qs) (by decide +kernel) rfl (lv_at hl 1 rfl) ?_
    refine lv_iload hx hb (i := 4) (x := iI z) (by decide +kernel) (lv_at hl 0 rfl) ?_
    refine lg_ald F hw (i := ks.length) (by omega) (by omega) (by decide +kernel) ?_
    rw [eK]
    refine W.lcmp hx hb (by decide +kernel) ?_
    refine lv_if_eq hx hb (off := 5) (tgt := 517) (by decide +kernel) (by decide) (fun _ => ?_) (fun h9 => absurd ((lg_cmp_eq _ _).mpr rfl) h9)
    refine lv_iinc hx hb (i := 4) (n := (-1)) (v := iI (z + (-1))) (lv' := [(4, .int (iI (z + (-1)))), (2, .ref qs), (1, .ref (ad 0))]) (by decide +kernel) hl (k := 0) rfl (iI_add _ _) (by decide) rfl (fun ls hl => ?_)
    refine lv_goto hx hb (off := (-29)) (tgt := 491) (by decide +kernel) (by decide) ?_
    exact ih t _ _ g ls _ _ _ _ (by omega) (by omega) hu3 hK.2 (by omega) (by omega) (lv_sub hl [0, 1, 2] rfl) hw
set_option maxRecDepth 20000 in
theorem un_loop {p : Program} {e : Env} {s : State} {m : MethodId} {args : Array Value} {below : List Frame} {meth : Method} {c : Code} {B : Int} {qs : Nat} (F : FL D A ad adV cA p l s m args c method_45_code 11) (hlk : meth.locks = false) (hrt : meth.sig.returnType = some .boolean) (hB : 100 ≤ B ∧ B + 4000 ≤ 100000000) : ∀ (q j : Nat) (z d9 : Int) (ks t : List (Nat → Int)) (τ1 : SZ) (g : Nat → Int64) (ls : Array Slot) (H : Heap) (locs : List Loc) (cl sl : Nat), j + q = 7 → z = (j : Int) → d9 = (ks.length : Int) → ks.length ≤ j → CV (B + 100 * (j : Int)) τ1 (ks ++ t) → KS g ks → cl ≤ 1 + 900 * j → sl ≤ 9 + 6000 * j → lv_has ls 11 [(4, .int (iI z)), (3, .int (iI d9)), (2, .ref qs), (1, .ref (ad 0)), (0, .ref (ad 99))] → WV D A s (wO ad cA (sz τ1) ++ XL cA qs g) H locs → W p l e (rmK 26 9000 56000) s m args below meth c H locs cl sl (vx_MQ below (LQ D A (fun v _ => v = some (.int (iI 1)))) (fun _ _ _ => False) args s 9000 56000 A) (F0 m 10 ls []) := by
  have hx := F.1
  have hb := F.2.1
  intro q
  induction q with
  | zero =>
    intro j z d9 ks t τ1 g ls H locs cl sl hk hz hd hkj C1 hK hcl hsl hl hw
    refine lv_iload hx hb (i := 4) (x := iI z) (by decide +kernel) (lv_at hl 0 rfl) ?_
    refine lv_bipush hx hb (n := 7) (v := iI 7) (by decide +kernel) (by decide) ?_
    refine lz_icmp_ge hx hb (a := z) (b := 7) (off := 472) (tgt := 486) (by decide +kernel) (by decide) ⟨by omega, by omega⟩ ⟨by decide, by decide⟩ (fun _ => ?_) (fun h9 => absurd (by omega) h9)
    refine lv_iload_n hx hb (k := 3) (i := 3) (x := iI d9) (by decide +kernel) rfl (lv_at hl 1 rfl) ?_
    refine lv_iconst hx hb (n := 1) (v := iI 1) (by decide +kernel) rfl ?_
    refine lz_isub hx hb (a := d9) (b := 1) (by decide +kernel) ?_
    refine lv_istore hx hb (i := 4) (lv' := [(4, .int (iI (d9 - 1))), (3, .int (iI d9)), (2, .ref qs), (1, .ref (ad 0)), (0, .ref (ad 99))]) (by decide +kernel) hl (by decide) rfl (fun ls hl => ?_)
    exact un_back (B := B + 100 * (j : Int)) F hlk hrt (by omega) ks t _ _ g ls _ _ _ _ (by omega) (by omega) C1 hK (by omega) (by omega) (lv_sub hl [0, 2, 3] rfl) hw
  | succ q ih =>
    intro j z d9 ks t τ1 g ls H locs cl sl hk hz hd hkj C1 hK hcl hsl hl hw
    subst hz
    obtain ⟨c_, e1⟩ : ∃ c_, τ1 4 = c_ := ⟨_, rfl⟩
    have hI : Iv _ c_ := e1 ▸ C1.1
    have hS := hI.1
    have hn := hS.n
    have hbi := (bsb_in hI (by omega) (4 * cel c_ 107).toNat (by omega)).1
    generalize hbb : (bsb c_ (4 * cel c_ 107).toNat).1 = bb at hbi
    have at80 : ∀ (τ2 : SZ) (bv rv gv cc : Int) (ls : Array Slot) (H : Heap) (locs : List Loc) (cl2 sl2 : Nat), (0 ≤ cc ∧ cc < 2147483648) → τ2 4 = c_ → CV (B + 100 * (j : Int)) τ2 (ks ++ t) → ((bv = -13 ∧ rv = 0 ∧ gv = 0) ∨ ((0 ≤ bv ∧ bv < 8) ∧ (0 ≤ rv ∧ rv < 2) ∧ (gv = 0 ∨ gv = 1))) → cl2 ≤ cl + 3 → sl2 ≤ sl + 18 → lv_has ls 11 [(9, .int (iI gv)), (8, .int (iI rv)), (7, .int (iI bv)), (6, .int (iI (cc / 16))), (5, .int (iI cc)), (4, .int (iI (j : Int))), (3, .int (iI d9)), (2, .ref qs), (1, .ref (ad 0)), (0, .ref (ad 99))] → WV D A s (wO ad cA (sz τ2) ++ XL cA qs g) H locs → W p l e (rmK 26 9000 56000) s m args below meth c H locs cl2 sl2 (vx_MQ below (LQ D A (fun v _ => v = some (.int (iI 1)))) (fun _ _ _ => False) args s 9000 56000 A) (F0 m 80 ls []) := by
      intro τ2 bv rv gv cc ls H locs cl2 sl2 hcc e2 C2 hfv hcl2 hsl2 hl hw
      have hBj : B + 100 * (j : Int) + 100 ≤ 100000000 := by omega
      refine lv_aload_n hx hb (k := 2) (i := 2) (x := qs) (by decide +kernel) rfl (lv_at hl 7 rfl) ?_
      refine lv_iload_n hx hb (k := 3) (i := 3) (x := iI d9) (by decide +kernel) rfl (lv_at hl 6 rfl) ?_
      refine lv_aload_n hx hb (k := 1) (i := 1) (x := ad 0) (by decide +kernel) rfl (lv_at hl 8 rfl) ?_
      refine lk_call (x := 293) (rest := [.int (iI d9), .ref qs]) (as := [.ref (ad 0)]) (n := 1) F hw hl.1 (K_sum (τ := τ2) (c_ := c_) F.l0 e2 hS (Int.toNat_of_nonneg hn.1).symm) (lr79 4 rfl) (lr79 5 rfl) (lr79 6 rfl) (lr79 3 rfl) ⟨rfl, by decide, by decide, by decide +kernel⟩ rfl ⟨Nat.le_of_ble_eq_true rfl, Nat.le_of_ble_eq_true rfl, (by show _ ≤ 9000; omega), (by show _ ≤ 56000; omega)⟩ (Nat.le_of_ble_eq_true rfl) (by decide +kernel) rfl (fun v9 V9 hG H locs hw => ?_)
      obtain ⟨rfl, rfl⟩ := hG
      refine W.eq (g2 := F0 m 86 ls [.long (sumv c_ (cel c_ 107).toNat), .int (iI d9), .ref qs]) rfl ?_
      refine lg_ast F hw (i := ks.length) (by omega) (by omega) (by decide +kernel) (fun H locs hw => ?_)
      have hK2 : KS (vp_updL g ks.length (sumv c_ (cel c_ 107).toNat)) (c_ :: ks) := hK.push
      generalize vp_updL g ks.length (sumv c_ (cel c_ 107).toNat) = g2 at hw hK2
      have eK : g2 ks.length = (sumv c_ (cel c_ 107).toNat) := hK2.1
      have aft : ∀ (k : Int) (τ3 : SZ) (ls : Array Slot) (H : Heap) (locs : List Loc) (cl3 sl3 : Nat), OP (B + 100 * (j : Int)) τ2 (ks ++ t) k τ3 → (-20 ≤ k ∧ k ≤ 20) → cl3 ≤ cl + 500 → sl3 ≤ sl + 4000 → lv_has ls 11 [(10, .int (iI k)), (4, .int (iI (j : Int))), (3, .int (iI d9)), (2, .ref qs), (1, .ref (ad 0)), (0, .ref (ad 99))] → WV D A s (wO ad cA (sz τ3) ++ XL cA qs g2) H locs → W p l e (rmK 26 9000 56000) s m args below meth c H locs cl3 sl3 (vx_MQ below (LQ D A (fun v _ => v = some (.int (iI 1)))) (fun _ _ _ => False) args s 9000 56000 A) (F0 m 449 ls []) := by
        intro k τ3 ls H locs cl3 sl3 hop hkb hcl3 hsl3 hl hw
        unfold OP at hop
        rcases hop with ⟨hk0, C3, e3⟩ | ⟨hk0, C3⟩
        · have e4 : τ3 4 = c_ := e3.trans e2
          refine lv_iload hx hb (i := 10) (x := iI k) (by decide +kernel) (lv_at hl 0 rfl) ?_
          refine lz_if_ge hx hb (a := k) (off := 16) (tgt := 467) (by decide +kernel) (by decide) ⟨by omega, by omega⟩ (fun h9 => absurd h9 (by omega)) (fun _ => ?_)
          refine lv_aload_n hx hb (k := 1) (i := 1) (x := ad 0) (by decide +kernel) rfl (lv_at hl 4 rfl) ?_
          refine lk_call (x := 293) (rest := []) (as := [.ref (ad 0)]) (n := 1) F hw hl.1 (K_sum (τ := τ3) (c_ := c_) F.l0 e4 hS (Int.toNat_of_nonneg hn.1).symm) (lr79 4 rfl) (lr79 5 rfl) (lr79 6 rfl) (lr79 3 rfl) ⟨rfl, by decide, by decide, by decide +kernel⟩ rfl ⟨Nat.le_of_ble_eq_true rfl, Nat.le_of_ble_eq_true rfl, (by show _ ≤ 9000; omega), (by show _ ≤ 56000; omega)⟩ (Nat.le_of_ble_eq_true rfl) (by decide +kernel) rfl (fun v9 V9 hG H locs hw => ?_)
          obtain ⟨rfl, rfl⟩ := hG
          refine W.eq (g2 := F0 m 458 ls [.long (sumv c_ (cel c_ 107).toNat)]) rfl ?_
          refine lv_aload_n hx hb (k := 2) (i := 2) (x := qs) (by decide +kernel) rfl (lv_at hl 3 rfl) ?_
          refine lv_iload_n hx hb (k := 3) (i := 3) (x := iI d9) (by decide +kernel) rfl (lv_at hl 2 rfl) ?_
          refine lg_ald F hw (i := ks.length) (by omega) (by omega) (by decide +kernel) ?_
          rw [eK]
          refine W.lcmp hx hb (by decide +kernel) ?_
          refine lv_if_eq hx hb (off := 5) (tgt := 467) (by decide +kernel) (by decide) (fun _ => ?_) (fun h9 => absurd ((lg_cmp_eq _ _).mpr rfl) h9)
          refine lv_iload_n hx hb (k := 3) (i := 3) (x := iI d9) (by decide +kernel) rfl (lv_at hl 2 rfl) ?_
          refine lv_iload hx hb (i := 10) (x := iI k) (by decide +kernel) (lv_at hl 0 rfl) ?_
          refine lz_if_ge hx hb (a := k) (off := 7) (tgt := 477) (by decide +kernel) (by decide) ⟨by omega, by omega⟩ (fun h9 => absurd h9 (by omega)) (fun _ => ?_)
          refine lv_iconst hx hb (n := 0) (v := iI 0) (by decide +kernel) rfl ?_
          refine lv_goto hx hb (off := 4) (tgt := 478) (by decide +kernel) (by decide) ?_
          refine lz_iadd hx hb (a := d9) (b := 0) (by decide +kernel) ?_
          refine lv_istore_n hx hb (k := 3) (i := 3) (lv' := [(3, .int (iI (d9 + 0))), (10, .int (iI k)), (4, .int (iI (j : Int))), (2, .ref qs), (1, .ref (ad 0)), (0, .ref (ad 99))]) (by decide +kernel) rfl hl (by decide) rfl (fun ls hl => ?_)
          refine lv_iinc hx hb (i := 4) (n := 1) (v := iI ((j : Int) + 1)) (lv' := [(4, .int (iI ((j : Int) + 1))), (3, .int (iI (d9 + 0))), (10, .int (iI k)), (2, .ref qs), (1, .ref (ad 0)), (0, .ref (ad 99))]) (by decide +kernel) hl (k := 2) rfl (iI_add _ _) (by decide) rfl (fun ls hl => ?_)
          refine lv_goto hx hb (off := (-473)) (tgt := 10) (by decide +kernel) (by decide) ?_
          exact ih (j + 1) _ _ ks t τ3 g2 ls _ _ _ _ (by omega) (by omega) (by omega) (by omega) (C3.mono (by omega) (by omega)) hK2.2 (by omega) (by omega) (lv_sub hl [0, 1, 3, 4, 5] rfl) hw
        · rw [e2, tk_push (by omega)] at C3
          refine lv_iload hx hb (i := 10) (x := iI k) (by decide +kernel) (lv_at hl 0 rfl) ?_
          refine lz_if_ge hx hb (a := k) (off := 16) (tgt := 467) (by decide +kernel) (by decide) ⟨by omega, by omega⟩ (fun _ => ?_) (fun h9 => absurd (by omega) h9)
          refine lv_iload_n hx hb (k := 3) (i := 3) (x := iI d9) (by decide +kernel) rfl (lv_at hl 2 rfl) ?_
          refine lv_iload hx hb (i := 10) (x := iI k) (by decide +kernel) (lv_at hl 0 rfl) ?_
          refine lz_if_ge hx hb (a := k) (off := 7) (tgt := 477) (by decide +kernel) (by decide) ⟨by omega, by omega⟩ (fun _ => ?_) (fun h9 => absurd (by omega) h9)
          refine lv_iconst hx hb (n := 1) (v := iI 1) (by decide +kernel) rfl ?_
          refine lz_iadd hx hb (a := d9) (b := 1) (by decide +kernel) ?_
          refine lv_istore_n hx hb (k := 3) (i := 3) (lv' := [(3, .int (iI (d9 + 1))), (10, .int (iI k)), (4, .int (iI (j : Int))), (2, .ref qs), (1, .ref (ad 0)), (0, .ref (ad 99))]) (by decide +kernel) rfl hl (by decide) rfl (fun ls hl => ?_)
          refine lv_iinc hx hb (i := 4) (n := 1) (v := iI ((j : Int) + 1)) (lv' := [(4, .int (iI ((j : Int) + 1))), (3, .int (iI (d9 + 1))), (10, .int (iI k)), (2, .ref qs), (1, .ref (ad 0)), (0, .ref (ad 99))]) (by decide +kernel) hl (k := 2) rfl (iI_add _ _) (by decide) rfl (fun ls hl => ?_)
          refine lv_goto hx hb (off := (-473)) (tgt := 10) (by decide +kernel) (by decide) ?_
          exact ih (j + 1) _ _ (c_ :: ks) _ τ3 g2 ls _ _ _ _ (by omega) (by omega) (by rw [List.length_cons]; omega) (by rw [List.length_cons]; omega) (C3.mono (by omega) (by omega)) hK2 (by omega) (by omega) (lv_sub hl [0, 1, 3, 4, 5] rfl) hw
      have h7 : cc % 7 = 0 ∨ cc % 7 = 1 ∨ cc % 7 = 2 ∨ cc % 7 = 3 ∨ cc % 7 = 4 ∨ cc % 7 = 5 ∨ cc % 7 = 6 := by omega
      refine lv_iload hx hb (i := 5) (x := iI cc) (by decide +kernel) (lv_at hl 4 rfl) ?_
      refine lv_bipush hx hb (n := 7) (v := iI 7) (by decide +kernel) (by decide) ?_
      refine lz_irem hx hb (a := cc) (b := 7) (by decide +kernel) ⟨by omega, by omega, by omega, by omega⟩ ?_
      rcases h7 with h7 | h7 | h7 | h7 | h7 | h7 | h7
      · rw [h7]
        refine lv_tableIn hx hb (dflt := 205) (lo := 0) (hi := 5) (offs := #[40, 68, 88, 115, 143, 170]) (len := 40) (x := iI 0) (off := 40) (tgt := 132) (by decide +kernel) (by decide) (by decide) (by decide) (by decide) ?_
        refine lv_aload_n hx hb (k := 1) (i := 1) (x := ad 0) (by decide +kernel) rfl (lv_at hl 8 rfl) ?_
        refine lv_iload hx hb (i := 6) (x := iI (cc / 16)) (by decide +kernel) (lv_at hl 3 rfl) ?_
        refine lv_iconst hx hb (n := 3) (v := iI 3) (by decide +kernel) rfl ?_
        refine lz_irem hx hb (a := (cc / 16)) (b := 3) (by decide +kernel) ⟨by omega, by omega, by omega, by omega⟩ ?_
        refine lv_iload hx hb (i := 6) (x := iI (cc / 16)) (by decide +kernel) (lv_at hl 3 rfl) ?_
        refine lv_iconst hx hb (n := 2) (v := iI 2) (by decide +kernel) rfl ?_
        refine lv_iushr hx hb (x := iI (cc / 16)) (y := iI 2) (v := iI ((cc / 16) / 4)) (by decide +kernel) (iI_ushr (k := 2) (d := 4) ⟨by omega, by omega⟩ (by decide +kernel) (by decide)) ?_
        refine lv_bipush hx hb (n := 13) (v := iI 13) (by decide +kernel) (by decide) ?_
        refine lz_irem hx hb (a := ((cc / 16) / 4)) (b := 13) (by decide +kernel) ⟨by omega, by omega, by omega, by omega⟩ ?_
        refine lv_iload hx hb (i := 6) (x := iI (cc / 16)) (by decide +kernel) (lv_at hl 3 rfl) ?_
        refine lv_bipush hx hb (n := 6) (v := iI 6) (by decide +kernel) (by decide) ?_
        refine lv_iushr hx hb (x := iI (cc / 16)) (y := iI 6) (v := iI ((cc / 16) / 64)) (by decide +kernel) (iI_ushr (k := 6) (d := 64) ⟨by omega, by omega⟩ (by decide +kernel) (by decide)) ?_
        refine lv_bipush hx hb (n := 13) (v := iI 13) (by decide +kernel) (by decide) ?_
        refine lz_irem hx hb (a := ((cc / 16) / 64)) (b := 13) (by decide +kernel) ⟨by omega, by omega, by omega, by omega⟩ ?_
        refine lk_callH (x := 137) (rest := []) (as := [.ref (ad 0), .int (iI ((cc / 16) % 3)), .int (iI (((cc / 16) / 4) % 13)), .int (iI (((cc / 16) / 64) % 13))]) (n := 4) F hw hl.1 (L_ferry (τ := τ2) (B := B + 100 * (j : Int)) F.l0 ⟨by omega, by omega⟩ ⟨by omega, by omega⟩ ⟨by omega, by omega⟩ C2.1 (by omega) C2.h1 C2.h2) (lr79 7 rfl) (lr79 8 rfl) (lr79 9 rfl) (lr79 3 rfl) ⟨by decide, by decide, by decide +kernel⟩ rfl ⟨Nat.le_of_ble_eq_true rfl, Nat.le_of_ble_eq_true rfl, (by show _ ≤ 9000; omega), (by show _ ≤ 56000; omega)⟩ (Nat.le_of_ble_eq_true rfl) (by decide +kernel) rfl (fun v9 V9 hG H locs hw => ?_)
        obtain ⟨rfl, rfl⟩ := hG
        refine W.eq (g2 := F0 m 155 ls [.int (iI (A_ferry (τ2 4) ((cc / 16) % 3) (((cc / 16) / 4) % 13) (((cc / 16) / 64) % 13)))]) rfl ?_
        refine lv_istore hx hb (i := 10) (lv' := [(10, .int (iI (A_ferry (τ2 4) ((cc / 16) % 3) (((cc / 16) / 4) % 13) (((cc / 16) / 64) % 13)))), (9, .int (iI gv)), (8, .int (iI rv)), (7, .int (iI bv)), (6, .int (iI (cc / 16))), (5, .int (iI cc)), (4, .int (iI (j : Int))), (3, .int (iI d9)), (2, .ref qs), (1, .ref (ad 0)), (0, .ref (ad 99))]) (by decide +kernel) hl (by decide) rfl (fun ls hl => ?_)
        refine lv_goto hx hb (off := 292) (tgt := 449) (by decide +kernel) (by decide) ?_
        exact aft _ _ ls _ _ _ _ (o_ferry C2 (by omega) _ _ _) (a_ferry_b C2.1.1 _ _ _) (by omega) (by omega) (lv_sub hl [0, 6, 7, 8, 9, 10] rfl) (hw)
      · rw [h7]
        refine lv_tableIn hx hb (dflt := 205) (lo := 0) (hi := 5) (offs := #[40, 68, 88, 115, 143, 170]) (len := 40) (x := iI 1) (off := 68) (tgt := 160) (by decide +kernel) (by decide) (by decide) (by decide) (by decide) ?_
        refine lv_aload_n hx hb (k := 1) (i := 1) (x := ad 0) (by decide +kernel) rfl (lv_at hl 8 rfl) ?_
        refine lv_iload hx hb (i := 6) (x := iI (cc / 16)) (by decide +kernel) (lv_at hl 3 rfl) ?_
        refine lv_iconst hx hb (n := 3) (v := iI 3) (by decide +kernel) rfl ?_
        refine lz_irem hx hb (a := (cc / 16)) (b := 3) (by decide +kernel) ⟨by omega, by omega, by omega, by omega⟩ ?_
        refine lv_iload hx hb (i := 6) (x := iI (cc / 16)) (by decide +kernel) (lv_at hl 3 rfl) ?_
        refine lv_iconst hx hb (n := 2) (v := iI 2) (by decide +kernel) rfl ?_
        refine lv_iushr hx hb (x := iI (cc / 16)) (y := iI 2) (v := iI ((cc / 16) / 4)) (by decide +kernel) (iI_ushr (k := 2) (d := 4) ⟨by omega, by omega⟩ (by decide +kernel) (by decide)) ?_
        refine lv_bipush hx hb (n := 13) (v := iI 13) (by decide +kernel) (by decide) ?_
        refine lz_irem hx hb (a := ((cc / 16) / 4)) (b := 13) (by decide +kernel) ⟨by omega, by omega, by omega, by omega⟩ ?_
        refine lk_callH (x := 145) (rest := []) (as := [.ref (ad 0), .int (iI ((cc / 16) % 3)), .int (iI (((cc / 16) / 4) % 13))]) (n := 3) F hw hl.1 (L_tug (τ := τ2) (B := B + 100 * (j : Int)) F.l0 ⟨by omega, by omega⟩ ⟨by omega, by omega⟩ C2.1 (by omega) C2.h1 C2.h2) (lr79 10 rfl) (lr79 11 rfl) (lr79 12 rfl) (lr79 3 rfl) ⟨by decide, by decide, by decide +kernel⟩ rfl ⟨Nat.le_of_ble_eq_true rfl, Nat.le_of_ble_eq_true rfl, (by show _ ≤ 9000; omega), (by show _ ≤ 56000; omega)⟩ (Nat.le_of_ble_eq_true rfl) (by decide +kernel) rfl (fun v9 V9 hG H locs hw => ?_)
        obtain ⟨rfl, rfl⟩ := hG
        refine W.eq (g2 := F0 m 175 ls [.int (iI (A_tug (τ2 4) ((cc / 16) % 3) (((cc / 16) / 4) % 13)))]) rfl ?_
        refine lv_istore hx hb (i := 10) (lv' := [(10, .int (iI (A_tug (τ2 4) ((cc / 16) % 3) (((cc / 16) / 4) % 13)))), (9, .int (iI gv)), (8, .int (iI rv)), (7, .int (iI bv)), (6, .int (iI (cc / 16))), (5, .int (iI cc)), (4, .int (iI (j : Int))), (3, .int (iI d9)), (2, .ref qs), (1, .ref (ad 0)), (0, .ref (ad 99))]) (by decide +kernel) hl (by decide) rfl (fun ls hl => ?_)
        refine lv_goto hx hb (off := 272) (tgt := 449) (by decide +kernel) (by decide) ?_
        exact aft _ _ ls _ _ _ _ (o_tug C2 (by omega) _ _) (a_tug_b _ _) (by omega) (by omega) (lv_sub hl [0, 6, 7, 8, 9, 10] rfl) (hw)
      · rw [h7]
        refine lv_tableIn hx hb (dflt := 205) (lo := 0) (hi := 5) (offs := #[40, 68, 88, 115, 143, 170]) (len := 40) (x := iI 2) (off := 88) (tgt := 180) (by decide +kernel) (by decide) (by decide) (by decide) (by decide) ?_
        refine lv_aload_n hx hb (k := 1) (i := 1) (x := ad 0) (by decide +kernel) rfl (lv_at hl 8 rfl) ?_
        refine lv_iload hx hb (i := 6) (x := iI (cc / 16)) (by decide +kernel) (lv_at hl 3 rfl) ?_
        refine lv_iconst hx hb (n := 3) (v := iI 3) (by decide +kernel) rfl ?_
        refine lz_irem hx hb (a := (cc / 16)) (b := 3) (by decide +kernel) ⟨by omega, by omega, by omega, by omega⟩ ?_
        refine lv_iload hx hb (i := 6) (x := iI (cc / 16)) (by decide +kernel) (lv_at hl 3 rfl) ?_
        refine lv_iconst hx hb (n := 2) (v := iI 2) (by decide +kernel) rfl ?_
        refine lv_iushr hx hb (x := iI (cc / 16)) (y := iI 2) (v := iI ((cc / 16) / 4)) (by decide +kernel) (iI_ushr (k := 2) (d := 4) ⟨by omega, by omega⟩ (by decide +kernel) (by decide)) ?_
        refine lv_bipush hx hb (n := 13) (v := iI 13) (by decide +kernel) (by decide) ?_
        refine lz_irem hx hb (a := ((cc / 16) / 4)) (b := 13) (by decide +kernel) ⟨by omega, by omega, by omega, by omega⟩ ?_
        refine lv_iload hx hb (i := 6) (x := iI (cc / 16)) (by decide +kernel) (lv_at hl 3 rfl) ?_
        refine lv_bipush hx hb (n := 6) (v := iI 6) (by decide +kernel) (by decide) ?_
        refine lv_iushr hx hb (x := iI (cc / 16)) (y := iI 6) (v := iI ((cc / 16) / 64)) (by decide +kernel) (iI_ushr (k := 6) (d := 64) ⟨by omega, by omega⟩ (by decide +kernel) (by decide)) ?_
        refine lv_iconst hx hb (n := 5) (v := iI 5) (by decide +kernel) rfl ?_
        refine lz_irem hx hb (a := ((cc / 16) / 64)) (b := 5) (by decide +kernel) ⟨by omega, by omega, by omega, by omega⟩ ?_
        refine lk_callH (x := 143) (rest := []) (as := [.ref (ad 0), .int (iI ((cc / 16) % 3)), .int (iI (((cc / 16) / 4) % 13)), .int (iI (((cc / 16) / 64) % 5))]) (n := 4) F hw hl.1 (L_lock (τ := τ2) (B := B + 100 * (j : Int)) F.l0 ⟨by omega, by omega⟩ ⟨by omega, by omega⟩ ⟨by omega, by omega⟩ C2.1 (by omega) C2.h1 C2.h2) (lr79 13 rfl) (lr79 14 rfl) (lr79 15 rfl) (lr79 3 rfl) ⟨by decide, by decide, by decide +kernel⟩ rfl ⟨Nat.le_of_ble_eq_true rfl, Nat.le_of_ble_eq_true rfl, (by show _ ≤ 9000; omega), (by show _ ≤ 56000; omega)⟩ (Nat.le_of_ble_eq_true rfl) (by decide +kernel) rfl (fun v9 V9 hG H locs hw => ?_)
        obtain ⟨rfl, rfl⟩ := hG
        refine W.eq (g2 := F0 m 202 ls [.int (iI (A_lock (τ2 4) ((cc / 16) % 3) (((cc / 16) / 4) % 13) (((cc / 16) / 64) % 5)))]) rfl ?_
        refine lv_istore hx hb (i := 10) (lv' := [(10, .int (iI (A_lock (τ2 4) ((cc / 16) % 3) (((cc / 16) / 4) % 13) (((cc / 16) / 64) % 5)))), (9, .int (iI gv)), (8, .int (iI rv)), (7, .int (iI bv)), (6, .int (iI (cc / 16))), (5, .int (iI cc)), (4, .int (iI (j : Int))), (3, .int (iI d9)), (2, .ref qs), (1, .ref (ad 0)), (0, .ref (ad 99))]) (by decide +kernel) hl (by decide) rfl (fun ls hl => ?_)
        refine lv_goto hx hb (off := 245) (tgt := 449) (by decide +kernel) (by decide) ?_
        exact aft _ _ ls _ _ _ _ (o_lock C2 (by omega) _ _ _) (a_lock_b C2.1.1 _ _ _) (by omega) (by omega) (lv_sub hl [0, 6, 7, 8, 9, 10] rfl) (hw)
      · rw [h7]
        refine lv_tableIn hx hb (dflt := 205) (lo := 0) (hi := 5) (offs := #[40, 68, 88, 115, 143, 170]) (len := 40) (x := iI 3) (off := 115) (tgt := 207) (by decide +kernel) (by decide) (by decide) (by decide) (by decide) ?_
        refine lv_aload_n hx hb (k := 1) (i := 1) (x := ad 0) (by decide +kernel) rfl (lv_at hl 8 rfl) ?_
        refine lv_iload hx hb (i := 6) (x := iI (cc / 16)) (by decide +kernel) (lv_at hl 3 rfl) ?_
        refine lv_iconst hx hb (n := 3) (v := iI 3) (by decide +kernel) rfl ?_
        refine lz_irem hx hb (a := (cc / 16)) (b := 3) (by decide +kernel) ⟨by omega, by omega, by omega, by omega⟩ ?_
        refine lv_iload hx hb (i := 6) (x := iI (cc / 16)) (by decide +kernel) (lv_at hl 3 rfl) ?_
        refine lv_iconst hx hb (n := 2) (v := iI 2) (by decide +kernel) rfl ?_
        refine lv_iushr hx hb (x := iI (cc / 16)) (y := iI 2) (v := iI ((cc / 16) / 4)) (by decide +kernel) (iI_ushr (k := 2) (d := 4) ⟨by omega, by omega⟩ (by decide +kernel) (by decide)) ?_
        refine lv_bipush hx hb (n := 13) (v := iI 13) (by decide +kernel) (by decide) ?_
        refine lz_irem hx hb (a := ((cc / 16) / 4)) (b := 13) (by decide +kernel) ⟨by omega, by omega, by omega, by omega⟩ ?_
        refine lv_iload hx hb (i := 6) (x := iI (cc / 16)) (by decide +kernel) (lv_at hl 3 rfl) ?_
        refine lv_bipush hx hb (n := 6) (v := iI 6) (by decide +kernel) (by decide) ?_
        refine lv_iushr hx hb (x := iI (cc / 16)) (y := iI 6) (v := iI ((cc / 16) / 64)) (by decide +kernel) (iI_ushr (k := 6) (d := 64) ⟨by omega, by omega⟩ (by decide +kernel) (by decide)) ?_
        refine lv_bipush hx hb (n := 6) (v := iI 6) (by decide +kernel) (by decide) ?_
        refine lz_irem hx hb (a := ((cc / 16) / 64)) (b := 6) (by decide +kernel) ⟨by omega, by omega, by omega, by omega⟩ ?_
        refine lk_callH (x := 148) (rest := []) (as := [.ref (ad 0), .int (iI ((cc / 16) % 3)), .int (iI (((cc / 16) / 4) % 13)), .int (iI (((cc / 16) / 64) % 6))]) (n := 4) F hw hl.1 (L_fog (τ := τ2) (B := B + 100 * (j : Int)) F.l0 ⟨by omega, by omega⟩ ⟨by omega, by omega⟩ ⟨by omega, by omega⟩ C2.1 (by omega) C2.h1 C2.h2) (lr79 16 rfl) (lr79 17 rfl) (lr79 18 rfl) (lr79 3 rfl) ⟨by decide, by decide, by decide +kernel⟩ rfl ⟨Nat.le_of_ble_eq_true rfl, Nat.le_of_ble_eq_true rfl, (by show _ ≤ 9000; omega), (by show _ ≤ 56000; omega)⟩ (Nat.le_of_ble_eq_true rfl) (by decide +kernel) rfl (fun v9 V9 hG H locs hw => ?_)
        obtain ⟨rfl, rfl⟩ := hG
        refine W.eq (g2 := F0 m 230 ls [.int (iI (A_fog (τ2 4) ((cc / 16) % 3) (((cc / 16) / 4) % 13) (((cc / 16) / 64) % 6)))]) rfl ?_
        refine lv_istore hx hb (i := 10) (lv' := [(10, .int (iI (A_fog (τ2 4) ((cc / 16) % 3) (((cc / 16) / 4) % 13) (((cc / 16) / 64) % 6)))), (9, .int (iI gv)), (8, .int (iI rv)), (7, .int (iI bv)), (6, .int (iI (cc / 16))), (5, .int (iI cc)), (4, .int (iI (j : Int))), (3, .int (iI d9)), (2, .ref qs), (1, .ref (ad 0)), (0, .ref (ad 99))]) (by decide +kernel) hl (by decide) rfl (fun ls hl => ?_)
        refine lv_goto hx hb (off := 217) (tgt := 449) (by decide +kernel) (by decide) ?_
        exact aft _ _ ls _ _ _ _ (o_fog C2 (by omega) _ _ _) (a_fog_b C2.1.1 _ _ _) (by omega) (by omega) (lv_sub hl [0, 6, 7, 8, 9, 10] rfl) (hw)
      · rw [h7]
        refine lv_tableIn hx hb (dflt := 205) (lo := 0) (hi := 5) (offs := #[40, 68, 88, 115, 143, 170]) (len := 40) (x := iI 4) (off := 143) (tgt := 235) (by decide +kernel) (by decide) (by decide) (by decide) (by decide) ?_
        refine lv_iload hx hb (i := 7) (x := iI bv) (by decide +kernel) (lv_at hl 2 rfl) ?_
        refine lz_if_ge hx hb (a := bv) (off := 10) (tgt := 247) (by decide +kernel) (by decide) ⟨by omega, by omega⟩ (fun h1 => ?_) (fun h1 => ?_)
        ·
          refine lv_aload_n hx hb (k := 1) (i := 1) (x := ad 0) (by decide +kernel) rfl (lv_at hl 8 rfl) ?_
          refine lv_iload hx hb (i := 7) (x := iI bv) (by decide +kernel) (lv_at hl 2 rfl) ?_
          refine lv_iload hx hb (i := 8) (x := iI rv) (by decide +kernel) (lv_at hl 1 rfl) ?_
          refine lv_iload hx hb (i := 9) (x := iI gv) (by decide +kernel) (lv_at hl 0 rfl) ?_
          obtain ⟨k9, τ9, hop, hkb, hlk9⟩ := U_move (f := bv) (r := rv) (g := gv) C2 hBj ⟨by omega, by omega⟩ ⟨by omega, by omega⟩ (by omega)
          refine lk_callH (x := 161) (rest := []) (as := [.ref (ad 0), .int (iI bv), .int (iI rv), .int (iI gv)]) (n := 4) F hw hl.1 (hlk9 F.l0) (lr79 19 rfl) (lr79 20 rfl) (lr79 21 rfl) (lr79 3 rfl) ⟨by decide, by decide, by decide +kernel⟩ rfl ⟨Nat.le_of_ble_eq_true rfl, Nat.le_of_ble_eq_true rfl, (by show _ ≤ 9000; omega), (by show _ ≤ 56000; omega)⟩ (Nat.le_of_ble_eq_true rfl) (by decide +kernel) rfl (fun v9 V9 hG H locs hw => ?_)
          obtain ⟨rfl, rfl⟩ := hG
          refine W.eq (g2 := F0 m 257 ls [.int (iI k9)]) rfl ?_
          refine lv_istore hx hb (i := 10) (lv' := [(10, .int (iI k9)), (9, .int (iI gv)), (8, .int (iI rv)), (7, .int (iI bv)), (6, .int (iI (cc / 16))), (5, .int (iI cc)), (4, .int (iI (j : Int))), (3, .int (iI d9)), (2, .ref qs), (1, .ref (ad 0)), (0, .ref (ad 99))]) (by decide +kernel) hl (by decide) rfl (fun ls hl => ?_)
          refine lv_goto hx hb (off := 190) (tgt := 449) (by decide +kernel) (by decide) ?_
          exact aft _ _ ls _ _ _ _ (hop) (hkb) (by omega) (by omega) (lv_sub hl [0, 6, 7, 8, 9, 10] rfl) (hw)
        ·
          refine lv_aload_n hx hb (k := 1) (i := 1) (x := ad 0) (by decide +kernel) rfl (lv_at hl 8 rfl) ?_
          refine lk_callH (x := 153) (rest := []) (as := [.ref (ad 0)]) (n := 1) F hw hl.1 (L_pass (τ := τ2) (B := B + 100 * (j : Int)) F.l0  C2.1 (by omega) C2.h1 C2.h2) (lr79 22 rfl) (lr79 23 rfl) (lr79 24 rfl) (lr79 3 rfl) ⟨by decide, by decide, by decide +kernel⟩ rfl ⟨Nat.le_of_ble_eq_true rfl, Nat.le_of_ble_eq_true rfl, (by show _ ≤ 9000; omega), (by show _ ≤ 56000; omega)⟩ (Nat.le_of_ble_eq_true rfl) (by decide +kernel) rfl (fun v9 V9 hG H locs hw => ?_)
          obtain ⟨rfl, rfl⟩ := hG
          refine W.eq (g2 := F0 m 244 ls [.int (iI (A_pass (τ2 4)))]) rfl ?_
          refine lv_goto hx hb (off := 13) (tgt := 257) (by decide +kernel) (by decide) ?_
          refine lv_istore hx hb (i := 10) (lv' := [(10, .int (iI (A_pass (τ2 4)))), (9, .int (iI gv)), (8, .int (iI rv)), (7, .int (iI bv)), (6, .int (iI (cc / 16))), (5, .int (iI cc)), (4, .int (iI (j : Int))), (3, .int (iI d9)), (2, .ref qs), (1, .ref (ad 0)), (0, .ref (ad 99))]) (by decide +kernel) hl (by decide) rfl (fun ls hl => ?_)
          refine lv_goto hx hb (off := 190) (tgt := 449) (by decide +kernel) (by decide) ?_
          exact aft _ _ ls _ _ _ _ (o_pass C2 (by omega)) (a_pass_b C2.1 (by omega)) (by omega) (by omega) (lv_sub hl [0, 6, 7, 8, 9, 10] rfl) (hw)
      · rw [h7]
        refine lv_tableIn hx hb (dflt := 205) (lo := 0) (hi := 5) (offs := #[40, 68, 88, 115, 143, 170]) (len := 40) (x := iI 5) (off := 170) (tgt := 262) (by decide +kernel) (by decide) (by decide) (by decide) (by decide) ?_
        refine lv_aload_n hx hb (k := 1) (i := 1) (x := ad 0) (by decide +kernel) rfl (lv_at hl 8 rfl) ?_
        refine lv_iload hx hb (i := 6) (x := iI (cc / 16)) (by decide +kernel) (lv_at hl 3 rfl) ?_
        refine lv_bipush hx hb (n := 9) (v := iI 9) (by decide +kernel) (by decide) ?_
        refine lz_irem hx hb (a := (cc / 16)) (b := 9) (by decide +kernel) ⟨by omega, by omega, by omega, by omega⟩ ?_
        refine lv_iload hx hb (i := 6) (x := iI (cc / 16)) (by decide +kernel) (lv_at hl 3 rfl) ?_
        refine lv_iconst hx hb (n := 4) (v := iI 4) (by decide +kernel) rfl ?_
        refine lv_iushr hx hb (x := iI (cc / 16)) (y := iI 4) (v := iI ((cc / 16) / 16)) (by decide +kernel) (iI_ushr (k := 4) (d := 16) ⟨by omega, by omega⟩ (by decide +kernel) (by decide)) ?_
        refine lv_iconst hx hb (n := 2) (v := iI 2) (by decide +kernel) rfl ?_
        refine lz_irem hx hb (a := ((cc / 16) / 16)) (b := 2) (by decide +kernel) ⟨by omega, by omega, by omega, by omega⟩ ?_
        refine lv_iload hx hb (i := 5) (x := iI cc) (by decide +kernel) (lv_at hl 4 rfl) ?_
        refine lv_bipush hx hb (n := 14) (v := iI 14) (by decide +kernel) (by decide) ?_
        refine lz_irem hx hb (a := cc) (b := 14) (by decide +kernel) ⟨by omega, by omega, by omega, by omega⟩ ?_
        refine lv_bipush hx hb (n := 7) (v := iI 7) (by decide +kernel) (by decide) ?_
        refine lz_icmp_ge hx hb (a := (cc % 14)) (b := 7) (off := 7) (tgt := 288) (by decide +kernel) (by decide) ⟨by omega, by omega⟩ ⟨by decide, by decide⟩ (fun h1 => ?_) (fun h1 => ?_)
        ·
          refine lv_iconst hx hb (n := 0) (v := iI 0) (by decide +kernel) rfl ?_
          obtain ⟨k9, τ9, hop, hkb, hlk9⟩ := U_move (f := ((cc / 16) % 9)) (r := (((cc / 16) / 16) % 2)) (g := 0) C2 hBj ⟨by omega, by omega⟩ ⟨by omega, by omega⟩ (Or.inl rfl)
          refine lk_callH (x := 161) (rest := []) (as := [.ref (ad 0), .int (iI ((cc / 16) % 9)), .int (iI (((cc / 16) / 16) % 2)), .int (iI 0)]) (n := 4) F hw hl.1 (hlk9 F.l0) (lr79 19 rfl) (lr79 20 rfl) (lr79 21 rfl) (lr79 3 rfl) ⟨by decide, by decide, by decide +kernel⟩ rfl ⟨Nat.le_of_ble_eq_true rfl, Nat.le_of_ble_eq_true rfl, (by show _ ≤ 9000; omega), (by show _ ≤ 56000; omega)⟩ (Nat.le_of_ble_eq_true rfl) (by decide +kernel) rfl (fun v9 V9 hG H locs hw => ?_)
          obtain ⟨rfl, rfl⟩ := hG
          refine W.eq (g2 := F0 m 292 ls [.int (iI k9)]) rfl ?_
          refine lv_istore hx hb (i := 10) (lv' := [(10, .int (iI k9)), (9, .int (iI gv)), (8, .int (iI rv)), (7, .int (iI bv)), (6, .int (iI (cc / 16))), (5, .int (iI cc)), (4, .int (iI (j : Int))), (3, .int (iI d9)), (2, .ref qs), (1, .ref (ad 0)), (0, .ref (ad 99))]) (by decide +kernel) hl (by decide) rfl (fun ls hl => ?_)
          refine lv_goto hx hb (off := 155) (tgt := 449) (by decide +kernel) (by decide) ?_
          exact aft _ _ ls _ _ _ _ (hop) (hkb) (by omega) (by omega) (lv_sub hl [0, 6, 7, 8, 9, 10] rfl) (hw)
        ·
          refine lv_iconst hx hb (n := 1) (v := iI 1) (by decide +kernel) rfl ?_
          refine lv_goto hx hb (off := 4) (tgt := 289) (by decide +kernel) (by decide) ?_
          obtain ⟨k9, τ9, hop, hkb, hlk9⟩ := U_move (f := ((cc / 16) % 9)) (r := (((cc / 16) / 16) % 2)) (g := 1) C2 hBj ⟨by omega, by omega⟩ ⟨by omega, by omega⟩ (Or.inr rfl)
          refine lk_callH (x := 161) (rest := []) (as := [.ref (ad 0), .int (iI ((cc / 16) % 9)), .int (iI (((cc / 16) / 16) % 2)), .int (iI 1)]) (n := 4) F hw hl.1 (hlk9 F.l0) (lr79 19 rfl) (lr79 20 rfl) (lr79 21 rfl) (lr79 3 rfl) ⟨by decide, by decide, by decide +kernel⟩ rfl ⟨Nat.le_of_ble_eq_true rfl, Nat.le_of_ble_eq_true rfl, (by show _ ≤ 9000; omega), (by show _ ≤ 56000; omega)⟩ (Nat.le_of_ble_eq_true rfl) (by decide +kernel) rfl (fun v9 V9 hG H locs hw => ?_)
          obtain ⟨rfl, rfl⟩ := hG
          refine W.eq (g2 := F0 m 292 ls [.int (iI k9)]) rfl ?_
          refine lv_istore hx hb (i := 10) (lv' := [(10, .int (iI k9)), (9, .int (iI gv)), (8, .int (iI rv)), (7, .int (iI bv)), (6, .int (iI (cc / 16))), (5, .int (iI cc)), (4, .int (iI (j : Int))), (3, .int (iI d9)), (2, .ref qs), (1, .ref (ad 0)), (0, .ref (ad 99))]) (by decide +kernel) hl (by decide) rfl (fun ls hl => ?_)
          refine lv_goto hx hb (off := 155) (tgt := 449) (by decide +kernel) (by decide) ?_
          exact aft _ _ ls _ _ _ _ (hop) (hkb) (by omega) (by omega) (lv_sub hl [0, 6, 7, 8, 9, 10] rfl) (hw)
      · rw [h7]
        refine lv_tableOut hx hb (dflt := 205) (lo := 0) (hi := 5) (offs := #[40, 68, 88, 115, 143, 170]) (len := 40) (x := iI 6) (tgt := 297) (by decide +kernel) (Or.inr (by decide)) (by decide) ?_
        have n11 : (chL 11).length = 14 := rfl
        have n12 : (chL 12).length = 5 := rfl
        have n13 : (chL 13).length = 1 := rfl
        have n14 : (chL 14).length = 1 := rfl
        have n15 : (chL 15).length = 1 := rfl
        have n16 : (chL 16).length = 7 := rfl
        have n17 : (chL 17).length = 2 := rfl
        have n18 : (chL 18).length = 7 := rfl
        have n6 : (chL 6).length = 0 := rfl
        refine lv_iload hx hb (i := 7) (x := iI bv) (by decide +kernel) (lv_at hl 2 rfl) ?_
        refine lz_if_ge hx hb (a := bv) (off := 33) (tgt := 332) (by decide +kernel) (by decide) ⟨by omega, by omega⟩ (fun h1 => ?_) (fun h1 => ?_)
        ·
          refine lv_aload_n hx hb (k := 1) (i := 1) (x := ad 0) (by decide +kernel) rfl (lv_at hl 8 rfl) ?_
          refine bl_new F hw hl.1 ⟨by decide, by decide, by show _ ≤ 9000; omega, by show _ ≤ 56000; omega⟩ (Nat.le_of_ble_eq_true rfl) (by decide +kernel) (by decide +kernel) (by decide +kernel) (fun b1 v1 L1 H locs le1 ln1 lc1 hw => ?_)
          refine W.eq (g2 := F0 m 340 ls [.ref b1, .ref (ad 0)]) rfl ?_
          refine sl_ldcw F (idx := 302) (q := 12) (by decide) (by decide +kernel) ?_
          refine bl_S F hw hl.1 (TX.cs (ad := ad) (adV := adV) (cA := cA) (k := 12) (by decide)) (fun _ h9 => absurd h9 List.not_mem_nil) ⟨by omega, by omega⟩ lc1 (Or.inl (by omega)) (n' := 16) (capn_1 (by omega)) ⟨by decide, by decide, by show _ ≤ 9000; omega, by show _ ≤ 56000; omega⟩ (Nat.le_of_ble_eq_true rfl) (by decide +kernel) (fun v2 L2 H locs le2 ln2 lc2 hw => ?_)
          refine W.eq (g2 := F0 m 346 ls [.ref b1, .ref (ad 0)]) rfl ?_
          refine lv_iload hx hb (i := 7) (x := iI bv) (by decide +kernel) (lv_at hl 2 rfl) ?_
          have dg1_3 : (dgs bv.toNat).length = 1 := dgl_1 (by omega)
          have dg3 := dgl_le (k := bv.toNat)
          refine bl_I F hw hl.1 (k := bv.toNat) (by omega) (by omega) ⟨by omega, by omega⟩ lc2 (Or.inl (by omega)) (n' := 16) (capn_1 (by omega)) ⟨by decide, by decide, by show _ ≤ 9000; omega, by show _ ≤ 56000; omega⟩ (Nat.le_of_ble_eq_true rfl) (by decide +kernel) (fun v3 L3 H locs le3 ln3 lc3 hw => ?_)
          refine W.eq (g2 := F0 m 351 ls [.ref b1, .ref (ad 0)]) rfl ?_
          refine sl_ldcw F (idx := 304) (q := 13) (by decide) (by decide +kernel) ?_
          refine bl_S F hw hl.1 (TX.cs (ad := ad) (adV := adV) (cA := cA) (k := 13) (by decide)) (fun _ h9 => absurd h9 List.not_mem_nil) ⟨by omega, by omega⟩ lc3 (Or.inl (by omega)) (n' := 16) (capn_1 (by omega)) ⟨by decide, by decide, by show _ ≤ 9000; omega, by show _ ≤ 56000; omega⟩ (Nat.le_of_ble_eq_true rfl) (by decide +kernel) (fun v4 L4 H locs le4 ln4 lc4 hw => ?_)
          refine W.eq (g2 := F0 m 357 ls [.ref b1, .ref (ad 0)]) rfl ?_
          refine lv_iload hx hb (i := 8) (x := iI rv) (by decide +kernel) (lv_at hl 1 rfl) ?_
          have dg1_5 : (dgs rv.toNat).length = 1 := dgl_1 (by omega)
          have dg5 := dgl_le (k := rv.toNat)
          refine bl_I F hw hl.1 (k := rv.toNat) (by omega) (by omega) ⟨by omega, by omega⟩ lc4 (Or.inl (by omega)) (n' := 16) (capn_1 (by omega)) ⟨by decide, by decide, by show _ ≤ 9000; omega, by show _ ≤ 56000; omega⟩ (Nat.le_of_ble_eq_true rfl) (by decide +kernel) (fun v5 L5 H locs le5 ln5 lc5 hw => ?_)
          refine W.eq (g2 := F0 m 362 ls [.ref b1, .ref (ad 0)]) rfl ?_
          have at376 : ∀ (qx vx : Nat) (M : List Int) (ls : Array Slot) (H : Heap) (locs : List Loc) (cl3 sl3 : Nat), TX ad adV cA [] qx vx M → M.length = 1 → cl3 ≤ cl + 330 → sl3 ≤ sl + 2100 → lv_has ls 11 [(9, .int (iI gv)), (8, .int (iI rv)), (7, .int (iI bv)), (6, .int (iI (cc / 16))), (5, .int (iI cc)), (4, .int (iI (j : Int))), (3, .int (iI d9)), (2, .ref qs), (1, .ref (ad 0)), (0, .ref (ad 99))] → WV D A s (wO ad cA (sz τ2) ++ (XL cA qs g2 ++ BW cA b1 v5 16 L5)) H locs → W p l e (rmK 26 9000 56000) s m args below meth c H locs cl3 sl3 (vx_MQ below (LQ D A (fun v _ => v = some (.int (iI 1)))) (fun _ _ _ => False) args s 9000 56000 A) (F0 m 376 ls [.ref qx, .ref b1, .ref (ad 0)]) := by
            intro qx vx M ls H locs cl3 sl3 htx hM1 hcl3 hsl3 hl hw
            refine bl_S F hw hl.1 htx (fun _ h9 => absurd h9 List.not_mem_nil) ⟨by omega, by omega⟩ lc5 (Or.inl (by omega)) (n' := 16) (capn_1 (by omega)) ⟨by decide, by decide, by show _ ≤ 9000; omega, by show _ ≤ 56000; omega⟩ (Nat.le_of_ble_eq_true rfl) (by decide +kernel) (fun v6 L6 H locs le6 ln6 lc6 hw => ?_)
            refine W.eq (g2 := F0 m 379 ls [.ref b1, .ref (ad 0)]) rfl ?_
            refine sl_ldcw F (idx := 310) (q := 16) (by decide) (by decide +kernel) ?_
            refine bl_S F hw hl.1 (TX.cs (ad := ad) (adV := adV) (cA := cA) (k := 16) (by decide)) (fun _ h9 => absurd h9 List.not_mem_nil) ⟨by omega, by omega⟩ lc6 (Or.inl (by omega)) (n' := 16) (capn_1 (by omega)) ⟨by decide, by decide, by show _ ≤ 9000; omega, by show _ ≤ 56000; omega⟩ (Nat.le_of_ble_eq_true rfl) (by decide +kernel) (fun v7 L7 H locs le7 ln7 lc7 hw => ?_)
            refine W.eq (g2 := F0 m 385 ls [.ref b1, .ref (ad 0)]) rfl ?_
            refine lv_iload hx hb (i := 6) (x := iI (cc / 16)) (by decide +kernel) (lv_at hl 3 rfl) ?_
            refine lv_bipush hx hb (n := 12) (v := iI 12) (by decide +kernel) (by decide) ?_
            refine lz_irem hx hb (a := (cc / 16)) (b := 12) (by decide +kernel) ⟨by omega, by omega, by omega, by omega⟩ ?_
            have dg8 := dgl_le (k := ((cc / 16) % 12).toNat)
            refine bl_I F hw hl.1 (k := ((cc / 16) % 12).toNat) (by omega) (by omega) ⟨by omega, by omega⟩ lc7 (Or.inr ⟨rfl, by omega⟩) (n' := 34) (capn_2 (by omega)) ⟨by decide, by decide, by show _ ≤ 9000; omega, by show _ ≤ 56000; omega⟩ (Nat.le_of_ble_eq_true rfl) (by decide +kernel) (fun v8 L8 H locs le8 ln8 lc8 hw => ?_)
            refine W.eq (g2 := F0 m 393 ls [.ref b1, .ref (ad 0)]) rfl ?_
            refine sl_ldcw F (idx := 312) (q := 17) (by decide) (by decide +kernel) ?_
            refine bl_S F hw hl.1 (TX.cs (ad := ad) (adV := adV) (cA := cA) (k := 17) (by decide)) (fun _ h9 => absurd h9 List.not_mem_nil) ⟨by omega, by omega⟩ lc8 (Or.inl (by omega)) (n' := 34) (capn_1 (by omega)) ⟨by decide, by decide, by show _ ≤ 9000; omega, by show _ ≤ 56000; omega⟩ (Nat.le_of_ble_eq_true rfl) (by decide +kernel) (fun v9 L9 H locs le9 ln9 lc9 hw => ?_)
            refine W.eq (g2 := F0 m 399 ls [.ref b1, .ref (ad 0)]) rfl ?_
            have at438 : ∀ (T : va_W) (qy vy : Nat) (M2 : List Int) (ls : Array Slot) (H : Heap) (locs : List Loc) (cl4 sl4 : Nat), TX ad adV cA T qy vy M2 → M2.length ≤ 9 → cl4 ≤ cl + 360 → sl4 ≤ sl + 2600 → lv_has ls 11 [(9, .int (iI gv)), (8, .int (iI rv)), (7, .int (iI bv)), (6, .int (iI (cc / 16))), (5, .int (iI cc)), (4, .int (iI (j : Int))), (3, .int (iI d9)), (2, .ref qs), (1, .ref (ad 0)), (0, .ref (ad 99))] → WV D A s (wO ad cA (sz τ2) ++ ((XL cA qs g2 ++ T) ++ BW cA b1 v9 34 L9)) H locs → W p l e (rmK 26 9000 56000) s m args below meth c H locs cl4 sl4 (vx_MQ below (LQ D A (fun v _ => v = some (.int (iI 1)))) (fun _ _ _ => False) args s 9000 56000 A) (F0 m 438 ls [.ref qy, .ref b1, .ref (ad 0)]) := by
              intro T qy vy M2 ls H locs cl4 sl4 hty hM2 hcl4 hsl4 hl hw
              refine bl_S F hw hl.1 hty (fun x hx => List.mem_append_right _ hx) ⟨by omega, by omega⟩ lc9 (Or.inl (by omega)) (n' := 34) (capn_1 (by omega)) ⟨by decide, by decide, by show _ ≤ 9000; omega, by show _ ≤ 56000; omega⟩ (Nat.le_of_ble_eq_true rfl) (by decide +kernel) (fun v10 L10 H locs le10 ln10 lc10 hw => ?_)
              refine W.eq (g2 := F0 m 441 ls [.ref b1, .ref (ad 0)]) rfl ?_
              refine bl_T F hw hl.1 ⟨by omega, by omega⟩ lc10 ⟨by decide, by decide, by show _ ≤ 9000; omega, by show _ ≤ 56000; omega⟩ (Nat.le_of_ble_eq_true rfl) (by decide +kernel) (fun q11 r11 H locs ht11 hw => ?_)
              refine W.eq (g2 := F0 m 444 ls [.ref q11, .ref (ad 0)]) rfl ?_
              refine lk_call (x := 299) (rest := []) (as := [.ref (ad 0), .ref q11]) (n := 2) F hw hl.1 (K_run (X := XL cA qs g2 ++ T) (T := (SW cA q11 r11 L10)) (τ := τ2) F.l0 C2 hBj ht11 (by omega)) (lr79 25 rfl) (lr79 26 rfl) (lr79 27 rfl) (lr79 3 rfl) ⟨rfl, by decide, by decide, by decide +kernel⟩ rfl ⟨Nat.le_of_ble_eq_true rfl, Nat.le_of_ble_eq_true rfl, (by show _ ≤ 9000; omega), (by show _ ≤ 56000; omega)⟩ (Nat.le_of_ble_eq_true rfl) (by decide +kernel) rfl (fun v9 V9 hG H locs hw => ?_)
              obtain ⟨k9, τ9, hop, hkb, rfl, rfl⟩ := hG
              refine W.eq (g2 := F0 m 447 ls [.int (iI k9)]) rfl ?_
              refine lv_istore hx hb (i := 10) (lv' := [(10, .int (iI k9)), (9, .int (iI gv)), (8, .int (iI rv)), (7, .int (iI bv)), (6, .int (iI (cc / 16))), (5, .int (iI cc)), (4, .int (iI (j : Int))), (3, .int (iI d9)), (2, .ref qs), (1, .ref (ad 0)), (0, .ref (ad 99))]) (by decide +kernel) hl (by decide) rfl (fun ls hl => ?_)
              exact aft _ _ ls _ _ _ _ hop hkb (by omega) (by omega) (lv_sub hl [0, 6, 7, 8, 9, 10] rfl) (wv_end (wv_end hw))
            refine lv_iload hx hb (i := 5) (x := iI cc) (by decide +kernel) (lv_at hl 4 rfl) ?_
            refine lv_bipush hx hb (n := 14) (v := iI 14) (by decide +kernel) (by decide) ?_
            refine lz_irem hx hb (a := cc) (b := 14) (by decide +kernel) ⟨by omega, by omega, by omega, by omega⟩ ?_
            refine lv_bipush hx hb (n := 7) (v := iI 7) (by decide +kernel) (by decide) ?_
            refine lz_icmp_ge hx hb (a := (cc % 14)) (b := 7) (off := 8) (tgt := 414) (by decide +kernel) (by decide) ⟨by omega, by omega⟩ ⟨by decide, by decide⟩ (fun h1 => ?_) (fun h1 => ?_)
            ·
              refine bl_new F hw hl.1 ⟨by decide, by decide, by show _ ≤ 9000; omega, by show _ ≤ 56000; omega⟩ (Nat.le_of_ble_eq_true rfl) (by decide +kernel) (by decide +kernel) (by decide +kernel) (fun b15 v15 L15 H locs le15 ln15 lc15 hw => ?_)
              refine W.eq (g2 := F0 m 421 ls [.ref b15, .ref b1, .ref (ad 0)]) rfl ?_
              refine sl_ldcw F (idx := 314) (q := 18) (by decide) (by decide +kernel) ?_
              refine bl_S F hw hl.1 (TX.cs (ad := ad) (adV := adV) (cA := cA) (k := 18) (by decide)) (fun _ h9 => absurd h9 List.not_mem_nil) ⟨by omega, by omega⟩ lc15 (Or.inl (by omega)) (n' := 16) (capn_1 (by omega)) ⟨by decide, by decide, by show _ ≤ 9000; omega, by show _ ≤ 56000; omega⟩ (Nat.le_of_ble_eq_true rfl) (by decide +kernel) (fun v16 L16 H locs le16 ln16 lc16 hw => ?_)
              refine W.eq (g2 := F0 m 427 ls [.ref b15, .ref b1, .ref (ad 0)]) rfl ?_
              refine lv_iload hx hb (i := 6) (x := iI (cc / 16)) (by decide +kernel) (lv_at hl 3 rfl) ?_
              refine lv_bipush hx hb (n := 12) (v := iI 12) (by decide +kernel) (by decide) ?_
              refine lz_irem hx hb (a := (cc / 16)) (b := 12) (by decide +kernel) ⟨by omega, by omega, by omega, by omega⟩ ?_
              have dg17 := dgl_le (k := ((cc / 16) % 12).toNat)
              refine bl_I F hw hl.1 (k := ((cc / 16) % 12).toNat) (by omega) (by omega) ⟨by omega, by omega⟩ lc16 (Or.inl (by omega)) (n' := 16) (capn_1 (by omega)) ⟨by decide, by decide, by show _ ≤ 9000; omega, by show _ ≤ 56000; omega⟩ (Nat.le_of_ble_eq_true rfl) (by decide +kernel) (fun v17 L17 H locs le17 ln17 lc17 hw => ?_)
              refine W.eq (g2 := F0 m 435 ls [.ref b15, .ref b1, .ref (ad 0)]) rfl ?_
              refine bl_T F hw hl.1 ⟨by omega, by omega⟩ lc17 ⟨by decide, by decide, by show _ ≤ 9000; omega, by show _ ≤ 56000; omega⟩ (Nat.le_of_ble_eq_true rfl) (by decide +kernel) (fun q18 r18 H locs ht18 hw => ?_)
              refine W.eq (g2 := F0 m 438 ls [.ref q18, .ref b1, .ref (ad 0)]) rfl ?_
              exact at438 _ _ _ _ ls _ _ _ _ ht18 (by omega) (by omega) (by omega) (lv_sub hl [0, 1, 2, 3, 4, 5, 6, 7, 8, 9] rfl) (wv_swap hw)
            ·
              refine sl_ldc F (idx := 251) (q := 6) (by decide) (by decide +kernel) ?_
              refine lv_goto hx hb (off := 27) (tgt := 438) (by decide +kernel) (by decide) ?_
              exact at438 _ _ _ _ ls _ _ _ _ (TX.cs (ad := ad) (adV := adV) (cA := cA) (k := 6) (by decide)) (by omega) (by omega) (by omega) (lv_sub hl [0, 1, 2, 3, 4, 5, 6, 7, 8, 9] rfl) (by rw [List.append_nil]; exact hw)
          refine lv_iload hx hb (i := 9) (x := iI gv) (by decide +kernel) (lv_at hl 0 rfl) ?_
          refine lz_if_eq hx hb (a := gv) (off := 9) (tgt := 373) (by decide +kernel) (by decide) ⟨by omega, by omega⟩ (fun h1 => ?_) (fun h1 => ?_)
          ·
            refine sl_ldcw F (idx := 308) (q := 15) (by decide) (by decide +kernel) ?_
            exact at376 _ _ _ ls _ _ _ _ (TX.cs (ad := ad) (adV := adV) (cA := cA) (k := 15) (by decide)) n15 (by omega) (by omega) (lv_sub hl [0, 1, 2, 3, 4, 5, 6, 7, 8, 9] rfl) hw
          ·
            refine sl_ldcw F (idx := 306) (q := 14) (by decide) (by decide +kernel) ?_
            refine lv_goto hx hb (off := 6) (tgt := 376) (by decide +kernel) (by decide) ?_
            exact at376 _ _ _ ls _ _ _ _ (TX.cs (ad := ad) (adV := adV) (cA := cA) (k := 14) (by decide)) n14 (by omega) (by omega) (lv_sub hl [0, 1, 2, 3, 4, 5, 6, 7, 8, 9] rfl) hw
        ·
          refine lv_aload_n hx hb (k := 1) (i := 1) (x := ad 0) (by decide +kernel) rfl (lv_at hl 8 rfl) ?_
          refine bl_new F hw hl.1 ⟨by decide, by decide, by show _ ≤ 9000; omega, by show _ ≤ 56000; omega⟩ (Nat.le_of_ble_eq_true rfl) (by decide +kernel) (by decide +kernel) (by decide +kernel) (fun b6 v6 L6 H locs le6 ln6 lc6 hw => ?_)
          refine W.eq (g2 := F0 m 310 ls [.ref b6, .ref (ad 0)]) rfl ?_
          refine sl_ldcw F (idx := 297) (q := 11) (by decide) (by decide +kernel) ?_
          refine bl_S F hw hl.1 (TX.cs (ad := ad) (adV := adV) (cA := cA) (k := 11) (by decide)) (fun _ h9 => absurd h9 List.not_mem_nil) ⟨by omega, by omega⟩ lc6 (Or.inl (by omega)) (n' := 16) (capn_1 (by omega)) ⟨by decide, by decide, by show _ ≤ 9000; omega, by show _ ≤ 56000; omega⟩ (Nat.le_of_ble_eq_true rfl) (by decide +kernel) (fun v7 L7 H locs le7 ln7 lc7 hw => ?_)
          refine W.eq (g2 := F0 m 316 ls [.ref b6, .ref (ad 0)]) rfl ?_
          refine lv_iload hx hb (i := 6) (x := iI (cc / 16)) (by decide +kernel) (lv_at hl 3 rfl) ?_
          refine lv_iconst hx hb (n := 5) (v := iI 5) (by decide +kernel) rfl ?_
          refine lz_irem hx hb (a := (cc / 16)) (b := 5) (by decide +kernel) ⟨by omega, by omega, by omega, by omega⟩ ?_
          have dg1_8 : (dgs ((cc / 16) % 5).toNat).length = 1 := dgl_1 (by omega)
          have dg8 := dgl_le (k := ((cc / 16) % 5).toNat)
          refine bl_I F hw hl.1 (k := ((cc / 16) % 5).toNat) (by omega) (by omega) ⟨by omega, by omega⟩ lc7 (Or.inl (by omega)) (n' := 16) (capn_1 (by omega)) ⟨by decide, by decide, by show _ ≤ 9000; omega, by show _ ≤ 56000; omega⟩ (Nat.le_of_ble_eq_true rfl) (by decide +kernel) (fun v8 L8 H locs le8 ln8 lc8 hw => ?_)
          refine W.eq (g2 := F0 m 323 ls [.ref b6, .ref (ad 0)]) rfl ?_
          refine bl_T F hw hl.1 ⟨by omega, by omega⟩ lc8 ⟨by decide, by decide, by show _ ≤ 9000; omega, by show _ ≤ 56000; omega⟩ (Nat.le_of_ble_eq_true rfl) (by decide +kernel) (fun q9 r9 H locs ht9 hw => ?_)
          refine W.eq (g2 := F0 m 326 ls [.ref q9, .ref (ad 0)]) rfl ?_
          refine lk_call (x := 299) (rest := []) (as := [.ref (ad 0), .ref q9]) (n := 2) F hw hl.1 (K_run (X := XL cA qs g2) (T := (SW cA q9 r9 L8)) (τ := τ2) F.l0 C2 hBj ht9 (by omega)) (lr79 25 rfl) (lr79 26 rfl) (lr79 27 rfl) (lr79 3 rfl) ⟨rfl, by decide, by decide, by decide +kernel⟩ rfl ⟨Nat.le_of_ble_eq_true rfl, Nat.le_of_ble_eq_true rfl, (by show _ ≤ 9000; omega), (by show _ ≤ 56000; omega)⟩ (Nat.le_of_ble_eq_true rfl) (by decide +kernel) rfl (fun v9 V9 hG H locs hw => ?_)
          obtain ⟨k9, τ9, hop, hkb, rfl, rfl⟩ := hG
          refine W.eq (g2 := F0 m 329 ls [.int (iI k9)]) rfl ?_
          refine lv_goto hx hb (off := 118) (tgt := 447) (by decide +kernel) (by decide) ?_
          refine lv_istore hx hb (i := 10) (lv' := [(10, .int (iI k9)), (9, .int (iI gv)), (8, .int (iI rv)), (7, .int (iI bv)), (6, .int (iI (cc / 16))), (5, .int (iI cc)), (4, .int (iI (j : Int))), (3, .int (iI d9)), (2, .ref qs), (1, .ref (ad 0)), (0, .ref (ad 99))]) (by decide +kernel) hl (by decide) rfl (fun ls hl => ?_)
          exact aft _ _ ls _ _ _ _ hop hkb (by omega) (by omega) (lv_sub hl [0, 6, 7, 8, 9, 10] rfl) (wv_end hw)
    by_cases hneg : bb < 0
    ·
      refine lv_iload hx hb (i := 4) (x := iI (j : Int)) (by decide +kernel) (lv_at hl 0 rfl) ?_
      refine lv_bipush hx hb (n := 7) (v := iI 7) (by decide +kernel) (by decide) ?_
      refine lz_icmp_ge hx hb (a := (j : Int)) (b := 7) (off := 472) (tgt := 486) (by decide +kernel) (by decide) ⟨by omega, by omega⟩ ⟨by decide, by decide⟩ (fun h9 => absurd h9 (by omega)) (fun _ => ?_)
      refine lv_aload_n hx hb (k := 0) (i := 0) (x := ad 99) (by decide +kernel) rfl (lv_at hl 4 rfl) ?_
      refine lv_bipush hx hb (n := 20) (v := iI 20) (by decide +kernel) (by decide) ?_
      refine lv_iload hx hb (i := 4) (x := iI (j : Int)) (by decide +kernel) (lv_at hl 0 rfl) ?_
      refine lz_iadd hx hb (a := 20) (b := (j : Int)) (by decide +kernel) ?_
      refine lk_call (x := 133) (rest := []) (as := [.ref (ad 99), .int (iI (20 + (j : Int)))]) (n := 2) F hw hl.1 (K_cell (V := wO ad cA (sz τ1) ++ XL cA qs g) (k := 20 + (j : Int)) F.l0 (by omega)) (lr79 28 rfl) (lr79 29 rfl) (lr79 30 rfl) (lr79 3 rfl) ⟨rfl, by decide, by decide, by decide +kernel⟩ rfl ⟨Nat.le_of_ble_eq_true rfl, Nat.le_of_ble_eq_true rfl, (by show _ ≤ 9000; omega), (by show _ ≤ 56000; omega)⟩ (Nat.le_of_ble_eq_true rfl) (by decide +kernel) rfl (fun v9 V9 hG H locs hw => ?_)
      obtain ⟨⟨x9, rfl⟩, rfl⟩ := hG
      refine W.eq (g2 := F0 m 26 ls [.int x9]) rfl ?_
      refine lv_iconst hx hb (n := 1) (v := iI 1) (by decide +kernel) rfl ?_
      obtain ⟨cc, hcc, ecc⟩ := ush_ex x9
      refine lv_iushr hx hb (x := x9) (y := iI 1) (v := iI cc) (by decide +kernel) ecc ?_
      refine lv_istore hx hb (i := 5) (lv' := [(5, .int (iI cc)), (4, .int (iI (j : Int))), (3, .int (iI d9)), (2, .ref qs), (1, .ref (ad 0)), (0, .ref (ad 99))]) (by decide +kernel) hl (by decide) rfl (fun ls hl => ?_)
      refine lv_iload hx hb (i := 5) (x := iI cc) (by decide +kernel) (lv_at hl 0 rfl) ?_
      refine lv_iconst hx hb (n := 4) (v := iI 4) (by decide +kernel) rfl ?_
      refine lv_iushr hx hb (x := iI cc) (y := iI 4) (v := iI (cc / 16)) (by decide +kernel) (iI_ushr (k := 4) (d := 16) ⟨by omega, by omega⟩ (by decide +kernel) (by decide)) ?_
      refine lv_istore hx hb (i := 6) (lv' := [(6, .int (iI (cc / 16))), (5, .int (iI cc)), (4, .int (iI (j : Int))), (3, .int (iI d9)), (2, .ref qs), (1, .ref (ad 0)), (0, .ref (ad 99))]) (by decide +kernel) hl (by decide) rfl (fun ls hl => ?_)
      refine lv_aload_n hx hb (k := 1) (i := 1) (x := ad 0) (by decide +kernel) rfl (lv_at hl 5 rfl) ?_
      refine lv_iconst hx hb (n := 0) (v := iI 0) (by decide +kernel) rfl ?_
      refine lk_callH (x := 150) (rest := []) (as := [.ref (ad 0), .int (iI 0)]) (n := 2) F hw hl.1 ((M_best_0 (X := XL cA qs g) (τ := τ1) (c := c_) F.l0 C1 e1 (by omega)).to (k' := (-13)) (by rw [hbb, if_pos (by omega)])) (lr79 31 rfl) (lr79 32 rfl) (lr79 33 rfl) (lr79 3 rfl) ⟨by decide, by decide, by decide +kernel⟩ rfl ⟨Nat.le_of_ble_eq_true rfl, Nat.le_of_ble_eq_true rfl, (by show _ ≤ 9000; omega), (by show _ ≤ 56000; omega)⟩ (Nat.le_of_ble_eq_true rfl) (by decide +kernel) rfl (fun v9 V9 hG H locs hw => ?_)
      obtain ⟨rfl, rfl⟩ := hG
      refine W.eq (g2 := F0 m 41 ls [.int (iI (-13))]) rfl ?_
      have C20 := C1.t5 (bsd_tz hI (by omega) C1.2.2.2.1 (4 * cel c_ 107).toNat (by omega))
      have e20 : (zr τ1 5 (bsd c_ (τ1 5) (4 * cel c_ 107).toNat)) 4 = c_ := e1
      generalize zr τ1 5 (bsd c_ (τ1 5) (4 * cel c_ 107).toNat) = τ20 at hw C20 e20
      refine lv_istore hx hb (i := 7) (lv' := [(7, .int (iI (-13))), (6, .int (iI (cc / 16))), (5, .int (iI cc)), (4, .int (iI (j : Int))), (3, .int (iI d9)), (2, .ref qs), (1, .ref (ad 0)), (0, .ref (ad 99))]) (by decide +kernel) hl (by decide) rfl (fun ls hl => ?_)
      refine lv_iload hx hb (i := 7) (x := iI (-13)) (by decide +kernel) (lv_at hl 0 rfl) ?_
      refine lz_if_ge hx hb (a := (-13)) (off := 7) (tgt := 52) (by decide +kernel) (by decide) ⟨by decide, by decide⟩ (fun h9 => absurd h9 (by decide)) (fun _ => ?_)
      refine lv_iconst hx hb (n := 0) (v := iI 0) (by decide +kernel) rfl ?_
      refine lv_goto hx hb (off := 8) (tgt := 57) (by decide +kernel) (by decide) ?_
      refine lv_istore hx hb (i := 8) (lv' := [(8, .int (iI 0)), (7, .int (iI (-13))), (6, .int (iI (cc / 16))), (5, .int (iI cc)), (4, .int (iI (j : Int))), (3, .int (iI d9)), (2, .ref qs), (1, .ref (ad 0)), (0, .ref (ad 99))]) (by decide +kernel) hl (by decide) rfl (fun ls hl => ?_)
      refine lv_iload hx hb (i := 7) (x := iI (-13)) (by decide +kernel) (lv_at hl 1 rfl) ?_
      refine lz_if_lt hx hb (a := (-13)) (off := 16) (tgt := 77) (by decide +kernel) (by decide) ⟨by decide, by decide⟩ (fun _ => ?_) (fun h9 => absurd (by decide) h9)
      refine lv_iconst hx hb (n := 0) (v := iI 0) (by decide +kernel) rfl ?_
      refine lv_istore hx hb (i := 9) (lv' := [(9, .int (iI 0)), (8, .int (iI 0)), (7, .int (iI (-13))), (6, .int (iI (cc / 16))), (5, .int (iI cc)), (4, .int (iI (j : Int))), (3, .int (iI d9)), (2, .ref qs), (1, .ref (ad 0)), (0, .ref (ad 99))]) (by decide +kernel) hl (by decide) rfl (fun ls hl => ?_)
      exact at80 _ (-13) 0 0 cc ls _ _ _ _ hcc e20 C20 (by omega) (by omega) (by omega) (lv_sub hl [0, 1, 2, 3, 4, 5, 6, 7, 8, 9] rfl) hw
    ·
      refine lv_iload hx hb (i := 4) (x := iI (j : Int)) (by decide +kernel) (lv_at hl 0 rfl) ?_
      refine lv_bipush hx hb (n := 7) (v := iI 7) (by decide +kernel) (by decide) ?_
      refine lz_icmp_ge hx hb (a := (j : Int)) (b := 7) (off := 472) (tgt := 486) (by decide +kernel) (by decide) ⟨by omega, by omega⟩ ⟨by decide, by decide⟩ (fun h9 => absurd h9 (by omega)) (fun _ => ?_)
      refine lv_aload_n hx hb (k := 0) (i := 0) (x := ad 99) (by decide +kernel) rfl (lv_at hl 4 rfl) ?_
      refine lv_bipush hx hb (n := 20) (v := iI 20) (by decide +kernel) (by decide) ?_
      refine lv_iload hx hb (i := 4) (x := iI (j : Int)) (by decide +kernel) (lv_at hl 0 rfl) ?_
      refine lz_iadd hx hb (a := 20) (b := (j : Int)) (by decide +kernel) ?_
      refine lk_call (x := 133) (rest := []) (as := [.ref (ad 99), .int (iI (20 + (j : Int)))]) (n := 2) F hw hl.1 (K_cell (V := wO ad cA (sz τ1) ++ XL cA qs g) (k := 20 + (j : Int)) F.l0 (by omega)) (lr79 28 rfl) (lr79 29 rfl) (lr79 30 rfl) (lr79 3 rfl) ⟨rfl, by decide, by decide, by decide +kernel⟩ rfl ⟨Nat.le_of_ble_eq_true rfl, Nat.le_of_ble_eq_true rfl, (by show _ ≤ 9000; omega), (by show _ ≤ 56000; omega)⟩ (Nat.le_of_ble_eq_true rfl) (by decide +kernel) rfl (fun v9 V9 hG H locs hw => ?_)
      obtain ⟨⟨x9, rfl⟩, rfl⟩ := hG
      refine W.eq (g2 := F0 m 26 ls [.int x9]) rfl ?_
      refine lv_iconst hx hb (n := 1) (v := iI 1) (by decide +kernel) rfl ?_
      obtain ⟨cc, hcc, ecc⟩ := ush_ex x9
      refine lv_iushr hx hb (x := x9) (y := iI 1) (v := iI cc) (by decide +kernel) ecc ?_
      refine lv_istore hx hb (i := 5) (lv' := [(5, .int (iI cc)), (4, .int (iI (j : Int))), (3, .int (iI d9)), (2, .ref qs), (1, .ref (ad 0)), (0, .ref (ad 99))]) (by decide +kernel) hl (by decide) rfl (fun ls hl => ?_)
      refine lv_iload hx hb (i := 5) (x := iI cc) (by decide +kernel) (lv_at hl 0 rfl) ?_
      refine lv_iconst hx hb (n := 4) (v := iI 4) (by decide +kernel) rfl ?_
      refine lv_iushr hx hb (x := iI cc) (y := iI 4) (v := iI (cc / 16)) (by decide +kernel) (iI_ushr (k := 4) (d := 16) ⟨by omega, by omega⟩ (by decide +kernel) (by decide)) ?_
      refine lv_istore hx hb (i := 6) (lv' := [(6, .int (iI (cc / 16))), (5, .int (iI cc)), (4, .int (iI (j : Int))), (3, .int (iI d9)), (2, .ref qs), (1, .ref (ad 0)), (0, .ref (ad 99))]) (by decide +kernel) hl (by decide) rfl (fun ls hl => ?_)
      refine lv_aload_n hx hb (k := 1) (i := 1) (x := ad 0) (by decide +kernel) rfl (lv_at hl 5 rfl) ?_
      refine lv_iconst hx hb (n := 0) (v := iI 0) (by decide +kernel) rfl ?_
      refine lk_callH (x := 150) (rest := []) (as := [.ref (ad 0), .int (iI 0)]) (n := 2) F hw hl.1 ((M_best_0 (X := XL cA qs g) (τ := τ1) (c := c_) F.l0 C1 e1 (by omega)).to (k' := bb / 4) (by rw [hbb, if_neg (by omega)])) (lr79 31 rfl) (lr79 32 rfl) (lr79 33 rfl) (lr79 3 rfl) ⟨by decide, by decide, by decide +kernel⟩ rfl ⟨Nat.le_of_ble_eq_true rfl, Nat.le_of_ble_eq_true rfl, (by show _ ≤ 9000; omega), (by show _ ≤ 56000; omega)⟩ (Nat.le_of_ble_eq_true rfl) (by decide +kernel) rfl (fun v9 V9 hG H locs hw => ?_)
      obtain ⟨rfl, rfl⟩ := hG
      refine W.eq (g2 := F0 m 41 ls [.int (iI (bb / 4))]) rfl ?_
      have C20 := C1.t5 (bsd_tz hI (by omega) C1.2.2.2.1 (4 * cel c_ 107).toNat (by omega))
      have e20 : (zr τ1 5 (bsd c_ (τ1 5) (4 * cel c_ 107).toNat)) 4 = c_ := e1
      generalize zr τ1 5 (bsd c_ (τ1 5) (4 * cel c_ 107).toNat) = τ20 at hw C20 e20
      refine lv_istore hx hb (i := 7) (lv' := [(7, .int (iI (bb / 4))), (6, .int (iI (cc / 16))), (5, .int (iI cc)), (4, .int (iI (j : Int))), (3, .int (iI d9)), (2, .ref qs), (1, .ref (ad 0)), (0, .ref (ad 99))]) (by decide +kernel) hl (by decide) rfl (fun ls hl => ?_)
      refine lv_iload hx hb (i := 7) (x := iI (bb / 4)) (by decide +kernel) (lv_at hl 0 rfl) ?_
      refine lz_if_ge hx hb (a := (bb / 4)) (off := 7) (tgt := 52) (by decide +kernel) (by decide) ⟨by omega, by omega⟩ (fun _ => ?_) (fun h9 => absurd (by omega) h9)
      refine lv_aload_n hx hb (k := 1) (i := 1) (x := ad 0) (by decide +kernel) rfl (lv_at hl 6 rfl) ?_
      refine lv_iconst hx hb (n := 1) (v := iI 1) (by decide +kernel) rfl ?_
      refine lk_callH (x := 150) (rest := []) (as := [.ref (ad 0), .int (iI 1)]) (n := 2) F hw hl.1 ((M_best_1 (X := XL cA qs g) (τ := τ20) (c := c_) F.l0 C20 e20 (by omega)).to (k' := bb / 2 % 2) (by rw [hbb, if_neg (by omega)])) (lr79 31 rfl) (lr79 32 rfl) (lr79 33 rfl) (lr79 3 rfl) ⟨by decide, by decide, by decide +kernel⟩ rfl ⟨Nat.le_of_ble_eq_true rfl, Nat.le_of_ble_eq_true rfl, (by show _ ≤ 9000; omega), (by show _ ≤ 56000; omega)⟩ (Nat.le_of_ble_eq_true rfl) (by decide +kernel) rfl (fun v9 V9 hG H locs hw => ?_)
      obtain ⟨rfl, rfl⟩ := hG
      refine W.eq (g2 := F0 m 57 ls [.int (iI (bb / 2 % 2))]) rfl ?_
      have C21 := C20.t5 (bsd_tz hI (by omega) C20.2.2.2.1 (4 * cel c_ 107).toNat (by omega))
      have e21 : (zr τ20 5 (bsd c_ (τ20 5) (4 * cel c_ 107).toNat)) 4 = c_ := e20
      generalize zr τ20 5 (bsd c_ (τ20 5) (4 * cel c_ 107).toNat) = τ21 at hw C21 e21
      refine lv_istore hx hb (i := 8) (lv' := [(8, .int (iI (bb / 2 % 2))), (7, .int (iI (bb / 4))), (6, .int (iI (cc / 16))), (5, .int (iI cc)), (4, .int (iI (j : Int))), (3, .int (iI d9)), (2, .ref qs), (1, .ref (ad 0)), (0, .ref (ad 99))]) (by decide +kernel) hl (by decide) rfl (fun ls hl => ?_)
      refine lv_iload hx hb (i := 7) (x := iI (bb / 4)) (by decide +kernel) (lv_at hl 1 rfl) ?_
      refine lz_if_lt hx hb (a := (bb / 4)) (off := 16) (tgt := 77) (by decide +kernel) (by decide) ⟨by omega, by omega⟩ (fun h9 => absurd h9 (by omega)) (fun _ => ?_)
      refine lv_aload_n hx hb (k := 1) (i := 1) (x := ad 0) (by decide +kernel) rfl (lv_at hl 7 rfl) ?_
      refine lv_iconst hx hb (n := 2) (v := iI 2) (by decide +kernel) rfl ?_
      refine lk_callH (x := 150) (rest := []) (as := [.ref (ad 0), .int (iI 2)]) (n := 2) F hw hl.1 ((M_best_2 (X := XL cA qs g) (τ := τ21) (c := c_) F.l0 C21 e21 (by omega)).to (k' := 1 - bb % 2) (by rw [hbb, if_neg (by omega)])) (lr79 31 rfl) (lr79 32 rfl) (lr79 33 rfl) (lr79 3 rfl) ⟨by decide, by decide, by decide +kernel⟩ rfl ⟨Nat.le_of_ble_eq_true rfl, Nat.le_of_ble_eq_true rfl, (by show _ ≤ 9000; omega), (by show _ ≤ 56000; omega)⟩ (Nat.le_of_ble_eq_true rfl) (by decide +kernel) rfl (fun v9 V9 hG H locs hw => ?_)
      obtain ⟨rfl, rfl⟩ := hG
      refine W.eq (g2 := F0 m 69 ls [.int (iI (1 - bb % 2))]) rfl ?_
      have C22 := C21.t5 (bsd_tz hI (by omega) C21.2.2.2.1 (4 * cel c_ 107).toNat (by omega))
      have e22 : (zr τ21 5 (bsd c_ (τ21 5) (4 * cel c_ 107).toNat)) 4 = c_ := e21
      generalize zr τ21 5 (bsd c_ (τ21 5) (4 * cel c_ 107).toNat) = τ22 at hw C22 e22
      refine lv_iconst hx hb (n := 1) (v := iI 1) (by decide +kernel) rfl ?_
      refine lz_icmp_ne hx hb (a := (1 - bb % 2)) (b := 1) (off := 7) (tgt := 77) (by decide +kernel) (by decide) ⟨by omega, by omega⟩ ⟨by decide, by decide⟩ (fun h4 => ?_) (fun h4 => ?_)
      ·
        refine lv_iconst hx hb (n := 0) (v := iI 0) (by decide +kernel) rfl ?_
        refine lv_istore hx hb (i := 9) (lv' := [(9, .int (iI 0)), (8, .int (iI (bb / 2 % 2))), (7, .int (iI (bb / 4))), (6, .int (iI (cc / 16))), (5, .int (iI cc)), (4, .int (iI (j : Int))), (3, .int (iI d9)), (2, .ref qs), (1, .ref (ad 0)), (0, .ref (ad 99))]) (by decide +kernel) hl (by decide) rfl (fun ls hl => ?_)
        exact at80 _ (bb / 4) (bb / 2 % 2) 0 cc ls _ _ _ _ hcc e22 C22 (by omega) (by omega) (by omega) (lv_sub hl [0, 1, 2, 3, 4, 5, 6, 7, 8, 9] rfl) hw
      ·
        refine lv_iconst hx hb (n := 1) (v := iI 1) (by decide +kernel) rfl ?_
        refine lv_goto hx hb (off := 4) (tgt := 78) (by decide +kernel) (by decide) ?_
        refine lv_istore hx hb (i := 9) (lv' := [(9, .int (iI 1)), (8, .int (iI (bb / 2 % 2))), (7, .int (iI (bb / 4))), (6, .int (iI (cc / 16))), (5, .int (iI cc)), (4, .int (iI (j : Int))), (3, .int (iI d9)), (2, .ref qs), (1, .ref (ad 0)), (0, .ref (ad 99))]) (by decide +kernel) hl (by decide) rfl (fun ls hl => ?_)
        exact at80 _ (bb / 4) (bb / 2 % 2) 1 cc ls _ _ _ _ hcc e22 C22 (by omega) (by omega) (by omega) (lv_sub hl [0, 1, 2, 3, 4, 5, 6, 7, 8, 9] rfl) hw
theorem K_undone {τ : SZ} {h : List (Nat → Int)} {B : Int} (hl0 : l.stackTraces = false) (C : CV B τ h) (hB : 100 ≤ B ∧ B + 4000 ≤ 100000000) : LK l D A ad adV cA (.code yL_undone method_45_code 11 (some .boolean)) yL_undone 26 9000 56000 [.ref (ad 99), .ref (ad 0)] (wO ad cA (sz τ) ++ []) (fun v _ => v = some (.int (iI 1))) := by
  refine lk_of hl0 rfl ?_ (Nat.le_of_ble_eq_true rfl)
  rintro p e s m args below meth c F hlk hrt hw ls hl
  have hl : lv_has ls 11 [(0, .ref (ad 99)), (1, .ref (ad 0))] := hl
  have hx := F.1
  have hb := F.2.1
  refine lv_bipush hx hb (n := 9) (v := iI 9) (by decide +kernel) (by decide) ?_
  refine lg_new F hw (by show _ ≤ 9000; omega) (by show _ ≤ 56000; omega) (by decide +kernel) (fun qs H hw => ?_)
  refine lv_astore_n hx hb (k := 2) (i := 2) (lv' := [(2, .ref qs), (0, .ref (ad 99)), (1, .ref (ad 0))]) (by decide +kernel) rfl hl (by decide) rfl (fun ls hl => ?_)
  refine lv_iconst hx hb (n := 0) (v := iI 0) (by decide +kernel) rfl ?_
  refine lv_istore_n hx hb (k := 3) (i := 3) (lv' := [(3, .int (iI 0)), (2, .ref qs), (0, .ref (ad 99)), (1, .ref (ad 0))]) (by decide +kernel) rfl hl (by decide) rfl (fun ls hl => ?_)
  refine lv_iconst hx hb (n := 0) (v := iI 0) (by decide +kernel) rfl ?_
  refine lv_istore hx hb (i := 4) (lv' := [(4, .int (iI 0)), (3, .int (iI 0)), (2, .ref qs), (0, .ref (ad 99)), (1, .ref (ad 0))]) (by decide +kernel) hl (by decide) rfl (fun ls hl => ?_)
  exact un_loop F hlk hrt hB 7 0 0 0 [] h τ _ ls _ _ _ _ (by omega) rfl rfl (Nat.le_refl 0) (C.mono (by omega) (by omega)) trivial (by omega) (by omega) (lv_sub hl [0, 1, 2, 4, 3] rfl) hw
end UND
