/-! orders, counts, the way to the next lock, means, accounts: printed by wip/p39/db69.py -/
section RNK
variable {l : Launch} {D : va_G} {A : Nat → Prop} {ad adV : Nat → Nat} {cA : Nat → ClassId}
theorem c_acc_N {τ : SZ} {B : Int} {N : Nat} (hS : Sh B (τ 4)) (hN : cel (τ 4) 107 = (N : Int)) : RZ 6 m7_account [.inl 0, .inr 0] τ (.inl (some (.inr (N : Int)), τ)) := by
  have q := c_account_0 hS hN
  rw [hN] at q
  exact q
theorem nrv_b {c : Nat → Int} {f r : Int} (j : Nat) (hj : j ≤ 11) : -13 ≤ nrv c f r j ∧ nrv c f r j ≤ 11 := by
  have key := wtl_in (c := c) (f := f) (r := r) j hj
  unfold nrv
  split <;> omega
def lr69W : List Jvm.Cond := [.methodLink RL 155 (mY m7_account),
  .instanceMethod (mY m7_account),
  .selects (mY m7_account).cls (mY m7_account) (mY m7_account),
  .methodLink RL 230 yL_boldest,
  .static yL_boldest,
  .codeWith yL_boldest method_22_code 3 (some .int) [(0, 5, 6, 58)],
  .initialized RL,
  .methodLink RL 232 yL_farthest,
  .static yL_farthest,
  .codeWith yL_farthest method_23_code 3 (some .int) [(0, 5, 6, 58)],
  .methodLink RL 239 yL_toLock,
  .static yL_toLock,
  .codeWith yL_toLock method_21_code 4 (some .int) [(0, 6, 7, 22), (0, 6, 11, 58)],
  .methodLink RL 171 yL_at,
  .static yL_at,
  .codeWith yL_at method_10_code 4 (some .int) [(0, 6, 7, 22)],
  .methodLink RL 237 yL_lockAt,
  .static yL_lockAt,
  .codeWith yL_lockAt method_11_code 4 (some .int) [(0, 6, 7, 22)],
  .methodLink RL 169 yL_isFog,
  .static yL_isFog,
  .codeWith yL_isFog method_12_code 4 (some .int) [(0, 14, 15, 22)],
  .methodLink RL 163 yL_of,
  .static yL_of,
  .codeWith yL_of method_9_code 4 (some .int) [(0, 6, 7, 22), (0, 6, 11, 14)],
  .methodLink RL 241 yX7_meanJumps,
  .instanceMethod yX7_meanJumps,
  .selects yX7_meanJumps.cls yX7_meanJumps yX7_meanJumps,
  .code yX7_meanJumps cX7_meanJumps 2 (some .double),
  .methodLink RL 245 yX7_kingShare,
  .instanceMethod yX7_kingShare,
  .selects yX7_kingShare.cls yX7_kingShare yX7_kingShare,
  .code yX7_kingShare cX7_kingShare 2 (some .float),
  .methodLink RL 166 yL_placeOf,
  .static yL_placeOf,
  .code yL_placeOf method_33_code 3 (some .int),
  .methodLink RL 234 yL_far,
  .static yL_far,
  .code yL_far method_41_code 3 (some .int)]
theorem lr69_in : ∀ w ∈ lr69W, w ∈ lw_tbl := by decide +kernel
theorem lr69 (k : Nat) {w : Jvm.Cond} (h : lr69W[k]? = some w) : w ∈ lw_tbl := lr69_in w (List.mem_of_getElem? h)
theorem rk_tail {p : Program} {e : Env} {s : State} {m : MethodId} {args : Array Value} {below : List Frame} {meth : Method} {c : Code} {X : va_W} {τ : SZ} {B : Int} {N : Nat} (F : FL D A ad adV cA p l s m args c method_40_code 13) (hlk : meth.locks = false) (hrt : meth.sig.returnType = some .boolean) (hI : Iv B (τ 4)) (hN : cel (τ 4) 107 = (N : Int)) {ls : Array Slot} {H : Heap} {locs : List Loc} {cl sl : Nat} (hcl : cl ≤ 2310) (hsl : sl ≤ 13860) (hl : lv_has ls 13 [(6, .int (iI (g24 (lkF (τ 4)) 24))), (5, .int (iI (g24 (tgF (τ 4)) 24))), (4, .int (iI (sm (fun k => cel (τ 4) (0 + (k : Int) * 6 + 4)) N))), (3, .int (iI (sm (fun k => b2 (cel (τ 4) (0 + (k : Int) * 6 + 0) = 0)) N))), (2, .int (iI (sm (fun k => cel (τ 4) (0 + (k : Int) * 6 + 3)) N))), (1, .int (iI (N : Int))), (0, .ref (ad 0))]) (hw : WV D A s (wO ad cA (sz τ) ++ X) H locs) : W p l e (rmK 26 2400 14400) s m args below meth c H locs cl sl (vx_MQ below (LQ D A (RV ad cA X 1 τ)) (fun _ _ _ => False) args s 2400 14400 A) (F0 m 554 ls []) := by
  have hx := F.1
  have hb := F.2.1
  have hS := hI.1
  have hn := hS.n
  have htu := hS.tu
  have hBB := hS.B
  have hmx : mX m7_account = 1 := rfl
  have hk := sm_01 (f := fun k => cel (τ 4) (0 + (k : Int) * 6 + 3)) (n := N) (fun k hk => hS.kg ⟨by omega, by omega⟩)
  have hf := sm_01 (f := fun k => b2 (cel (τ 4) (0 + (k : Int) * 6 + 0) = 0)) (n := N) (fun k hk => b2_01)
  have ht := g24_b (F := tgF (τ 4)) (fun r p => b2_01) 24
  have hlo := g24_b (F := lkF (τ 4)) (fun r p => b2_01) 24
  have ht2 : tgs (τ 4) 0 + tgs (τ 4) 1 = g24 (tgF (τ 4)) 24 := (g24_is (F := tgF (τ 4))).symm
  have hl2 : sm (fun k => b2 (0 < usz (τ 4) 0 (k : Int))) 12 + sm (fun k => b2 (0 < usz (τ 4) 1 (k : Int))) 12 = g24 (lkF (τ 4)) 24 := (g24_is (F := lkF (τ 4))).symm
  have hb4 := cel_bd hS.bd 104
  have hb6 := hI.2.2
  refine lv_iconst hx hb (n := 1) (v := iI 1) (by decide +kernel) rfl ?_
  refine lv_goto hx hb (off := 4) (tgt := 559) (by decide +kernel) (by decide) ?_
  refine lv_istore hx hb (i := 7) (lv' := [(7, .int (iI 1)), (6, .int (iI (g24 (lkF (τ 4)) 24))), (5, .int (iI (g24 (tgF (τ 4)) 24))), (4, .int (iI (sm (fun k => cel (τ 4) (0 + (k : Int) * 6 + 4)) N))), (3, .int (iI (sm (fun k => b2 (cel (τ 4) (0 + (k : Int) * 6 + 0) = 0)) N))), (2, .int (iI (sm (fun k => cel (τ 4) (0 + (k : Int) * 6 + 3)) N))), (1, .int (iI (N : Int))), (0, .ref (ad 0))]) (by decide +kernel) hl (by decide) rfl (fun ls hl => ?_)
  refine lv_iload hx hb (i := 7) (x := iI 1) (by decide +kernel) (lv_at hl 0 rfl) ?_
  refine lz_if_eq hx hb (a := 1) (off := 139) (tgt := 702) (by decide +kernel) (by decide) ⟨by decide, by decide⟩ (fun h9 => absurd h9 (by decide)) (fun _ => ?_)
  refine lv_aload_n hx hb (k := 0) (i := 0) (x := ad 0) (by decide +kernel) rfl (lv_at hl 7 rfl) ?_
  refine lv_iconst hx hb (n := 1) (v := iI 1) (by decide +kernel) rfl ?_
  refine fl_call (d := 6) (j := m7_account) (as := [.inr 1]) (X := X) (x := 155) (rest := []) F hw hl.1 (c_account_1 hS hN) (by decide) rfl rfl (lr69 0 rfl) (lr69 1 rfl) (lr69 2 rfl) ⟨Nat.le_of_ble_eq_true rfl, Nat.le_of_ble_eq_true rfl, (by show _ ≤ 2400; omega), (by show _ ≤ 14400; omega)⟩ (Nat.le_of_ble_eq_true rfl) (by decide +kernel) rfl (fun E9 τ9 e9 => by cases e9) (fun v9 τ9 e9 H locs hw => ?_)
  cases e9
  refine W.eq (g2 := F0 m 571 ls [.int (iI (sm (fun k => b2 (cel (τ 4) (0 + (k : Int) * 6 + 0) = 0)) N))]) rfl ?_
  refine lv_iload_n hx hb (k := 3) (i := 3) (x := iI (sm (fun k => b2 (cel (τ 4) (0 + (k : Int) * 6 + 0) = 0)) N)) (by decide +kernel) rfl (lv_at hl 4 rfl) ?_
  refine lz_icmp_ne hx hb (a := (sm (fun k => b2 (cel (τ 4) (0 + (k : Int) * 6 + 0) = 0)) N)) (b := (sm (fun k => b2 (cel (τ 4) (0 + (k : Int) * 6 + 0) = 0)) N)) (off := 130) (tgt := 702) (by decide +kernel) (by decide) ⟨by omega, by omega⟩ ⟨by omega, by omega⟩ (fun h9 => absurd h9 (by omega)) (fun _ => ?_)
  refine lv_aload_n hx hb (k := 0) (i := 0) (x := ad 0) (by decide +kernel) rfl (lv_at hl 7 rfl) ?_
  refine lv_iconst hx hb (n := 2) (v := iI 2) (by decide +kernel) rfl ?_
  refine fl_call (d := 6) (j := m7_account) (as := [.inr 2]) (X := X) (x := 155) (rest := []) F hw hl.1 (c_account_2 hS hN) (by decide) rfl rfl (lr69 0 rfl) (lr69 1 rfl) (lr69 2 rfl) ⟨Nat.le_of_ble_eq_true rfl, Nat.le_of_ble_eq_true rfl, (by show _ ≤ 2400; omega), (by show _ ≤ 14400; omega)⟩ (Nat.le_of_ble_eq_true rfl) (by decide +kernel) rfl (fun E9 τ9 e9 => by cases e9) (fun v9 τ9 e9 H locs hw => ?_)
  cases e9
  refine W.eq (g2 := F0 m 580 ls [.int (iI (sm (fun k => cel (τ 4) (0 + (k : Int) * 6 + 3)) N))]) rfl ?_
  refine lv_iload_n hx hb (k := 2) (i := 2) (x := iI (sm (fun k => cel (τ 4) (0 + (k : Int) * 6 + 3)) N)) (by decide +kernel) rfl (lv_at hl 5 rfl) ?_
  refine lz_icmp_ne hx hb (a := (sm (fun k => cel (τ 4) (0 + (k : Int) * 6 + 3)) N)) (b := (sm (fun k => cel (τ 4) (0 + (k : Int) * 6 + 3)) N)) (off := 121) (tgt := 702) (by decide +kernel) (by decide) ⟨by omega, by omega⟩ ⟨by omega, by omega⟩ (fun h9 => absurd h9 (by omega)) (fun _ => ?_)
  refine lv_aload_n hx hb (k := 0) (i := 0) (x := ad 0) (by decide +kernel) rfl (lv_at hl 7 rfl) ?_
  refine lv_iconst hx hb (n := 3) (v := iI 3) (by decide +kernel) rfl ?_
  refine fl_call (d := 6) (j := m7_account) (as := [.inr 3]) (X := X) (x := 155) (rest := []) F hw hl.1 (c_account_3 hS hN) (by decide) rfl rfl (lr69 0 rfl) (lr69 1 rfl) (lr69 2 rfl) ⟨Nat.le_of_ble_eq_true rfl, Nat.le_of_ble_eq_true rfl, (by show _ ≤ 2400; omega), (by show _ ≤ 14400; omega)⟩ (Nat.le_of_ble_eq_true rfl) (by decide +kernel) rfl (fun E9 τ9 e9 => by cases e9) (fun v9 τ9 e9 H locs hw => ?_)
  cases e9
  refine W.eq (g2 := F0 m 589 ls [.int (iI (tgs (τ 4) 0 + tgs (τ 4) 1))]) rfl ?_
  refine lv_iload hx hb (i := 5) (x := iI (g24 (tgF (τ 4)) 24)) (by decide +kernel) (lv_at hl 2 rfl) ?_
  refine lz_icmp_ne hx hb (a := (tgs (τ 4) 0 + tgs (τ 4) 1)) (b := (g24 (tgF (τ 4)) 24)) (off := 111) (tgt := 702) (by decide +kernel) (by decide) ⟨by omega, by omega⟩ ⟨by omega, by omega⟩ (fun h9 => absurd h9 (by omega)) (fun _ => ?_)
  refine lv_aload_n hx hb (k := 0) (i := 0) (x := ad 0) (by decide +kernel) rfl (lv_at hl 7 rfl) ?_
  refine lv_iconst hx hb (n := 4) (v := iI 4) (by decide +kernel) rfl ?_
  refine fl_call (d := 6) (j := m7_account) (as := [.inr 4]) (X := X) (x := 155) (rest := []) F hw hl.1 (c_account_4 hS hN) (by decide) rfl rfl (lr69 0 rfl) (lr69 1 rfl) (lr69 2 rfl) ⟨Nat.le_of_ble_eq_true rfl, Nat.le_of_ble_eq_true rfl, (by show _ ≤ 2400; omega), (by show _ ≤ 14400; omega)⟩ (Nat.le_of_ble_eq_true rfl) (by decide +kernel) rfl (fun E9 τ9 e9 => by cases e9) (fun v9 τ9 e9 H locs hw => ?_)
  cases e9
  refine W.eq (g2 := F0 m 599 ls [.int (iI (sm (fun k => b2 (0 < usz (τ 4) 0 (k : Int))) 12 + sm (fun k => b2 (0 < usz (τ 4) 1 (k : Int))) 12))]) rfl ?_
  refine lv_iload hx hb (i := 6) (x := iI (g24 (lkF (τ 4)) 24)) (by decide +kernel) (lv_at hl 1 rfl) ?_
  refine lz_icmp_ne hx hb (a := (sm (fun k => b2 (0 < usz (τ 4) 0 (k : Int))) 12 + sm (fun k => b2 (0 < usz (τ 4) 1 (k : Int))) 12)) (b := (g24 (lkF (τ 4)) 24)) (off := 101) (tgt := 702) (by decide +kernel) (by decide) ⟨by omega, by omega⟩ ⟨by omega, by omega⟩ (fun h9 => absurd h9 (by omega)) (fun _ => ?_)
  refine lv_aload_n hx hb (k := 0) (i := 0) (x := ad 0) (by decide +kernel) rfl (lv_at hl 7 rfl) ?_
  refine lv_bipush hx hb (n := 11) (v := iI 11) (by decide +kernel) (by decide) ?_
  refine fl_call (d := 6) (j := m7_account) (as := [.inr 11]) (X := X) (x := 155) (rest := []) F hw hl.1 (c_account_11 hS hN) (by decide) rfl rfl (lr69 0 rfl) (lr69 1 rfl) (lr69 2 rfl) ⟨Nat.le_of_ble_eq_true rfl, Nat.le_of_ble_eq_true rfl, (by show _ ≤ 2400; omega), (by show _ ≤ 14400; omega)⟩ (Nat.le_of_ble_eq_true rfl) (by decide +kernel) rfl (fun E9 τ9 e9 => by cases e9) (fun v9 τ9 e9 H locs hw => ?_)
  cases e9
  refine W.eq (g2 := F0 m 610 ls [.int (iI (cel (τ 4) 106))]) rfl ?_
  refine lv_iload_n hx hb (k := 1) (i := 1) (x := iI (N : Int)) (by decide +kernel) rfl (lv_at hl 6 rfl) ?_
  refine lv_aload_n hx hb (k := 0) (i := 0) (x := ad 0) (by decide +kernel) rfl (lv_at hl 7 rfl) ?_
  refine lv_bipush hx hb (n := 9) (v := iI 9) (by decide +kernel) (by decide) ?_
  refine fl_call (d := 6) (j := m7_account) (as := [.inr 9]) (X := X) (x := 155) (rest := [.int (iI (N : Int)), .int (iI (cel (τ 4) 106))]) F hw hl.1 (c_account_9 hS hN) (by decide) rfl rfl (lr69 0 rfl) (lr69 1 rfl) (lr69 2 rfl) ⟨Nat.le_of_ble_eq_true rfl, Nat.le_of_ble_eq_true rfl, (by show _ ≤ 2400; omega), (by show _ ≤ 14400; omega)⟩ (Nat.le_of_ble_eq_true rfl) (by decide +kernel) rfl (fun E9 τ9 e9 => by cases e9) (fun v9 τ9 e9 H locs hw => ?_)
  cases e9
  refine W.eq (g2 := F0 m 617 ls [.int (iI (cel (τ 4) 104)), .int (iI (N : Int)), .int (iI (cel (τ 4) 106))]) rfl ?_
  refine lz_iadd hx hb (a := (N : Int)) (b := (cel (τ 4) 104)) (by decide +kernel) ?_
  refine lz_icmp_ne hx hb (a := (cel (τ 4) 106)) (b := ((N : Int) + (cel (τ 4) 104))) (off := 84) (tgt := 702) (by decide +kernel) (by decide) ⟨by omega, by omega⟩ ⟨by omega, by omega⟩ (fun h9 => absurd h9 (by omega)) (fun _ => ?_)
  refine lv_aload_n hx hb (k := 0) (i := 0) (x := ad 0) (by decide +kernel) rfl (lv_at hl 7 rfl) ?_
  refine lv_iload_n hx hb (k := 1) (i := 1) (x := iI (N : Int)) (by decide +kernel) rfl (lv_at hl 6 rfl) ?_
  refine lk_callH (x := 230) (rest := []) (as := [.ref (ad 0), .int (iI (N : Int))]) (n := 2) F hw hl.1 ((L_boldest (X := X) (τ := τ) (p := (N : Int)) F.l0 ⟨by omega, by omega⟩ hS hN).to (k' := (-13)) (A_bold_no hN (by omega))) (lr69 3 rfl) (lr69 4 rfl) (lr69 5 rfl) (lr69 6 rfl) ⟨by decide, by decide, by decide +kernel⟩ rfl ⟨Nat.le_of_ble_eq_true rfl, Nat.le_of_ble_eq_true rfl, (by show _ ≤ 2400; omega), (by show _ ≤ 14400; omega)⟩ (Nat.le_of_ble_eq_true rfl) (by decide +kernel) rfl (fun v9 V9 hG H locs hw => ?_)
  obtain ⟨rfl, rfl⟩ := hG
  refine W.eq (g2 := F0 m 626 ls [.int (iI (-13))]) rfl ?_
  refine lv_bipush hx hb (n := (-13)) (v := iI (-13)) (by decide +kernel) (by decide) ?_
  refine lz_icmp_ne hx hb (a := (-13)) (b := (-13)) (off := 74) (tgt := 702) (by decide +kernel) (by decide) ⟨by decide, by decide⟩ ⟨by decide, by decide⟩ (fun h9 => absurd h9 (by decide)) (fun _ => ?_)
  refine lv_aload_n hx hb (k := 0) (i := 0) (x := ad 0) (by decide +kernel) rfl (lv_at hl 7 rfl) ?_
  refine lv_iload_n hx hb (k := 1) (i := 1) (x := iI (N : Int)) (by decide +kernel) rfl (lv_at hl 6 rfl) ?_
  refine lk_callH (x := 232) (rest := []) (as := [.ref (ad 0), .int (iI (N : Int))]) (n := 2) F hw hl.1 ((L_farthest (X := X) (τ := τ) (p := (N : Int)) F.l0 ⟨by omega, by omega⟩ hS hN).to (k' := (-13)) (A_farr_no hN (by omega))) (lr69 7 rfl) (lr69 8 rfl) (lr69 9 rfl) (lr69 6 rfl) ⟨by decide, by decide, by decide +kernel⟩ rfl ⟨Nat.le_of_ble_eq_true rfl, Nat.le_of_ble_eq_true rfl, (by show _ ≤ 2400; omega), (by show _ ≤ 14400; omega)⟩ (Nat.le_of_ble_eq_true rfl) (by decide +kernel) rfl (fun v9 V9 hG H locs hw => ?_)
  obtain ⟨rfl, rfl⟩ := hG
  refine W.eq (g2 := F0 m 636 ls [.int (iI (-13))]) rfl ?_
  refine lv_bipush hx hb (n := (-13)) (v := iI (-13)) (by decide +kernel) (by decide) ?_
  refine lz_icmp_ne hx hb (a := (-13)) (b := (-13)) (off := 64) (tgt := 702) (by decide +kernel) (by decide) ⟨by decide, by decide⟩ ⟨by decide, by decide⟩ (fun h9 => absurd h9 (by decide)) (fun _ => ?_)
  refine lv_aload_n hx hb (k := 0) (i := 0) (x := ad 0) (by decide +kernel) rfl (lv_at hl 7 rfl) ?_
  refine lv_iload_n hx hb (k := 1) (i := 1) (x := iI (N : Int)) (by decide +kernel) rfl (lv_at hl 6 rfl) ?_
  refine lv_iconst hx hb (n := 0) (v := iI 0) (by decide +kernel) rfl ?_
  refine lk_callH (x := 239) (rest := []) (as := [.ref (ad 0), .int (iI (N : Int)), .int (iI 0)]) (n := 3) F hw hl.1 ((L_toLock (X := X) (τ := τ) (f := (N : Int)) (r := 0) F.l0 ⟨by omega, by omega⟩ ⟨by omega, by omega⟩ hS).to (k' := (-11)) (if_neg (by omega))) (lr69 10 rfl) (lr69 11 rfl) (lr69 12 rfl) (lr69 6 rfl) ⟨by decide, by decide, by decide +kernel⟩ rfl ⟨Nat.le_of_ble_eq_true rfl, Nat.le_of_ble_eq_true rfl, (by show _ ≤ 2400; omega), (by show _ ≤ 14400; omega)⟩ (Nat.le_of_ble_eq_true rfl) (by decide +kernel) rfl (fun v9 V9 hG H locs hw => ?_)
  obtain ⟨rfl, rfl⟩ := hG
  refine W.eq (g2 := F0 m 647 ls [.int (iI (-11))]) rfl ?_
  refine lv_bipush hx hb (n := (-11)) (v := iI (-11)) (by decide +kernel) (by decide) ?_
  refine lz_icmp_ne hx hb (a := (-11)) (b := (-11)) (off := 53) (tgt := 702) (by decide +kernel) (by decide) ⟨by decide, by decide⟩ ⟨by decide, by decide⟩ (fun h9 => absurd h9 (by decide)) (fun _ => ?_)
  refine lv_aload_n hx hb (k := 0) (i := 0) (x := ad 0) (by decide +kernel) rfl (lv_at hl 7 rfl) ?_
  refine lv_iconst hx hb (n := 2) (v := iI 2) (by decide +kernel) rfl ?_
  refine lv_iconst hx hb (n := 0) (v := iI 0) (by decide +kernel) rfl ?_
  refine lk_callH (x := 171) (rest := []) (as := [.ref (ad 0), .int (iI 2), .int (iI 0)]) (n := 3) F hw hl.1 ((L_at (X := X) (τ := τ) (r := 2) (p := 0) F.l0 ⟨by omega, by omega⟩ ⟨by omega, by omega⟩).to (k' := (-11)) (if_neg (by omega))) (lr69 13 rfl) (lr69 14 rfl) (lr69 15 rfl) (lr69 6 rfl) ⟨by decide, by decide, by decide +kernel⟩ rfl ⟨Nat.le_of_ble_eq_true rfl, Nat.le_of_ble_eq_true rfl, (by show _ ≤ 2400; omega), (by show _ ≤ 14400; omega)⟩ (Nat.le_of_ble_eq_true rfl) (by decide +kernel) rfl (fun v9 V9 hG H locs hw => ?_)
  obtain ⟨rfl, rfl⟩ := hG
  refine W.eq (g2 := F0 m 658 ls [.int (iI (-11))]) rfl ?_
  refine lv_bipush hx hb (n := (-11)) (v := iI (-11)) (by decide +kernel) (by decide) ?_
  refine lz_icmp_ne hx hb (a := (-11)) (b := (-11)) (off := 42) (tgt := 702) (by decide +kernel) (by decide) ⟨by decide, by decide⟩ ⟨by decide, by decide⟩ (fun h9 => absurd h9 (by decide)) (fun _ => ?_)
  refine lv_aload_n hx hb (k := 0) (i := 0) (x := ad 0) (by decide +kernel) rfl (lv_at hl 7 rfl) ?_
  refine lv_iconst hx hb (n := 0) (v := iI 0) (by decide +kernel) rfl ?_
  refine lv_bipush hx hb (n := 12) (v := iI 12) (by decide +kernel) (by decide) ?_
  refine lk_callH (x := 237) (rest := []) (as := [.ref (ad 0), .int (iI 0), .int (iI 12)]) (n := 3) F hw hl.1 ((L_lockAt (X := X) (τ := τ) (r := 0) (p := 12) F.l0 ⟨by omega, by omega⟩ ⟨by omega, by omega⟩).to (k' := (-11)) (if_neg (by omega))) (lr69 16 rfl) (lr69 17 rfl) (lr69 18 rfl) (lr69 6 rfl) ⟨by decide, by decide, by decide +kernel⟩ rfl ⟨Nat.le_of_ble_eq_true rfl, Nat.le_of_ble_eq_true rfl, (by show _ ≤ 2400; omega), (by show _ ≤ 14400; omega)⟩ (Nat.le_of_ble_eq_true rfl) (by decide +kernel) rfl (fun v9 V9 hG H locs hw => ?_)
  obtain ⟨rfl, rfl⟩ := hG
  refine W.eq (g2 := F0 m 670 ls [.int (iI (-11))]) rfl ?_
  refine lv_bipush hx hb (n := (-11)) (v := iI (-11)) (by decide +kernel) (by decide) ?_
  refine lz_icmp_ne hx hb (a := (-11)) (b := (-11)) (off := 30) (tgt := 702) (by decide +kernel) (by decide) ⟨by decide, by decide⟩ ⟨by decide, by decide⟩ (fun h9 => absurd h9 (by decide)) (fun _ => ?_)
  refine lv_aload_n hx hb (k := 0) (i := 0) (x := ad 0) (by decide +kernel) rfl (lv_at hl 7 rfl) ?_
  refine lv_iconst hx hb (n := 0) (v := iI 0) (by decide +kernel) rfl ?_
  refine lv_iconst hx hb (n := (-1)) (v := iI (-1)) (by decide +kernel) rfl ?_
  refine lk_callH (x := 169) (rest := []) (as := [.ref (ad 0), .int (iI 0), .int (iI (-1))]) (n := 3) F hw hl.1 ((L_isFog (X := X) (τ := τ) (r := 0) (p := (-1)) F.l0 ⟨by omega, by omega⟩ ⟨by omega, by omega⟩ hS).to (k' := (-11)) (if_neg (by omega))) (lr69 19 rfl) (lr69 20 rfl) (lr69 21 rfl) (lr69 6 rfl) ⟨by decide, by decide, by decide +kernel⟩ rfl ⟨Nat.le_of_ble_eq_true rfl, Nat.le_of_ble_eq_true rfl, (by show _ ≤ 2400; omega), (by show _ ≤ 14400; omega)⟩ (Nat.le_of_ble_eq_true rfl) (by decide +kernel) rfl (fun v9 V9 hG H locs hw => ?_)
  obtain ⟨rfl, rfl⟩ := hG
  refine W.eq (g2 := F0 m 681 ls [.int (iI (-11))]) rfl ?_
  refine lv_bipush hx hb (n := (-11)) (v := iI (-11)) (by decide +kernel) (by decide) ?_
  refine lz_icmp_ne hx hb (a := (-11)) (b := (-11)) (off := 19) (tgt := 702) (by decide +kernel) (by decide) ⟨by decide, by decide⟩ ⟨by decide, by decide⟩ (fun h9 => absurd h9 (by decide)) (fun _ => ?_)
  refine lv_aload_n hx hb (k := 0) (i := 0) (x := ad 0) (by decide +kernel) rfl (lv_at hl 7 rfl) ?_
  refine lv_iload_n hx hb (k := 1) (i := 1) (x := iI (N : Int)) (by decide +kernel) rfl (lv_at hl 6 rfl) ?_
  refine lv_bipush hx hb (n := 9) (v := iI 9) (by decide +kernel) (by decide) ?_
  refine lk_callH (x := 163) (rest := []) (as := [.ref (ad 0), .int (iI (N : Int)), .int (iI 9)]) (n := 3) F hw hl.1 ((L_of (X := X) (τ := τ) (f := (N : Int)) (w := 9) F.l0 ⟨by omega, by omega⟩ ⟨by omega, by omega⟩ hS).to (k' := (-11)) (if_neg (by omega))) (lr69 22 rfl) (lr69 23 rfl) (lr69 24 rfl) (lr69 6 rfl) ⟨by decide, by decide, by decide +kernel⟩ rfl ⟨Nat.le_of_ble_eq_true rfl, Nat.le_of_ble_eq_true rfl, (by show _ ≤ 2400; omega), (by show _ ≤ 14400; omega)⟩ (Nat.le_of_ble_eq_true rfl) (by decide +kernel) rfl (fun v9 V9 hG H locs hw => ?_)
  obtain ⟨rfl, rfl⟩ := hG
  refine W.eq (g2 := F0 m 693 ls [.int (iI (-11))]) rfl ?_
  refine lv_bipush hx hb (n := (-11)) (v := iI (-11)) (by decide +kernel) (by decide) ?_
  refine lz_icmp_ne hx hb (a := (-11)) (b := (-11)) (off := 7) (tgt := 702) (by decide +kernel) (by decide) ⟨by decide, by decide⟩ ⟨by decide, by decide⟩ (fun h9 => absurd h9 (by decide)) (fun _ => ?_)
  refine lv_iconst hx hb (n := 1) (v := iI 1) (by decide +kernel) rfl ?_
  refine lv_goto hx hb (off := 4) (tgt := 703) (by decide +kernel) (by decide) ?_
  exact lk_iret F hlk hrt hw rfl ⟨rfl, rfl⟩ (by omega) (by omega) (by decide +kernel)
theorem rk_end {p : Program} {e : Env} {s : State} {m : MethodId} {args : Array Value} {below : List Frame} {meth : Method} {c : Code} {X : va_W} {τ : SZ} {B : Int} {N : Nat} (F : FL D A ad adV cA p l s m args c method_40_code 13) (hlk : meth.locks = false) (hrt : meth.sig.returnType = some .boolean) (hI : Iv B (τ 4)) (hN : cel (τ 4) 107 = (N : Int)) {ls : Array Slot} {H : Heap} {locs : List Loc} {cl sl : Nat} (hcl : cl ≤ 2300) (hsl : sl ≤ 13800) (hl : lv_has ls 13 [(6, .int (iI (g24 (lkF (τ 4)) 24))), (5, .int (iI (g24 (tgF (τ 4)) 24))), (4, .int (iI (sm (fun k => cel (τ 4) (0 + (k : Int) * 6 + 4)) N))), (3, .int (iI (sm (fun k => b2 (cel (τ 4) (0 + (k : Int) * 6 + 0) = 0)) N))), (2, .int (iI (sm (fun k => cel (τ 4) (0 + (k : Int) * 6 + 3)) N))), (1, .int (iI (N : Int))), (0, .ref (ad 0))]) (hw : WV D A s (wO ad cA (sz τ) ++ X) H locs) : W p l e (rmK 26 2400 14400) s m args below meth c H locs cl sl (vx_MQ below (LQ D A (RV ad cA X 1 τ)) (fun _ _ _ => False) args s 2400 14400 A) (F0 m 523 ls []) := by
  have hx := F.1
  have hb := F.2.1
  have hS := hI.1
  have hn := hS.n
  have htu := hS.tu
  have hBB := hS.B
  have hmx : mX m7_account = 1 := rfl
  by_cases hN0 : N = 0
  ·
    refine lv_iload_n hx hb (k := 1) (i := 1) (x := iI (N : Int)) (by decide +kernel) rfl (lv_at hl 5 rfl) ?_
    refine lz_if_eq hx hb (a := (N : Int)) (off := 30) (tgt := 554) (by decide +kernel) (by decide) ⟨by omega, by omega⟩ (fun _ => ?_) (fun h9 => absurd (by omega) h9)
    exact rk_tail F hlk hrt hI hN (by omega) (by omega) hl hw
  ·
    refine lv_iload_n hx hb (k := 1) (i := 1) (x := iI (N : Int)) (by decide +kernel) rfl (lv_at hl 5 rfl) ?_
    refine lz_if_eq hx hb (a := (N : Int)) (off := 30) (tgt := 554) (by decide +kernel) (by decide) ⟨by omega, by omega⟩ (fun h9 => absurd h9 (by omega)) (fun _ => ?_)
    have hz : ¬ iI (N : Int) = 0 := fun h => by
      have h9 := congrArg Int32.toInt h
      rw [iI_toInt ⟨by omega, by omega⟩, show (0 : Int32).toInt = 0 from rfl] at h9
      omega
    have hnd : vf_n64 (FP.ddiv (FP.i2d (iI (sm (fun k => cel (τ 4) (0 + (k : Int) * 6 + 4)) N))) (FP.i2d (iI (N : Int)))) := Jvm.Free.Fl.ddiv_out (Jvm.Free.Fl.i2d_fin _).noNaN (Jvm.Free.Fl.i2d_fin _) (Jvm.Free.Fl.i2d_nz hz)
    have hnf : vf_n32 (FP.fdiv (FP.i2f (iI (sm (fun k => cel (τ 4) (0 + (k : Int) * 6 + 3)) N))) (FP.i2f (iI (N : Int)))) := Jvm.Free.Fl.fdiv_out (Jvm.Free.Fl.i2f_fin _).noNaN (Jvm.Free.Fl.i2f_fin _) (Jvm.Free.Fl.i2f_nz hz)
    refine lv_aload_n hx hb (k := 0) (i := 0) (x := ad 0) (by decide +kernel) rfl (lv_at hl 6 rfl) ?_
    refine dl_call (x := 241) (rest := []) F hw hl.1 (dc_mean (X := X) (N := N) F.l0 hN (by omega) hS.bd) hN0 rfl (lr69 25 rfl) (lr69 26 rfl) (lr69 27 rfl) (lr69 28 rfl) (by decide +kernel) ⟨by decide, by decide, (by show _ ≤ 2400; omega), (by show _ ≤ 14400; omega)⟩ (by decide) (by decide +kernel) rfl (fun v9 V9 hG H locs hw => ?_)
    obtain ⟨-, rfl, rfl⟩ := hG
    refine lv_iload hx hb (i := 4) (x := iI (sm (fun k => cel (τ 4) (0 + (k : Int) * 6 + 4)) N)) (by decide +kernel) (lv_at hl 2 rfl) ?_
    refine lv_i2d hx hb (by decide +kernel) ?_
    refine lv_iload_n hx hb (k := 1) (i := 1) (x := iI (N : Int)) (by decide +kernel) rfl (lv_at hl 5 rfl) ?_
    refine lv_i2d hx hb (by decide +kernel) ?_
    refine lv_ddiv hx hb (by decide +kernel) hnd ?_
    refine lv_dcmp hx hb (op := .l) (by decide +kernel) ?_
    refine lv_if_ne hx hb (off := 20) (tgt := 558) (by decide +kernel) (by decide) (fun h => absurd (dc0 hnd) h) (fun _ => ?_)
    refine lv_aload_n hx hb (k := 0) (i := 0) (x := ad 0) (by decide +kernel) rfl (lv_at hl 6 rfl) ?_
    refine dl_call (x := 245) (rest := []) F hw hl.1 (dc_king (X := X) (N := N) F.l0 hN (by omega) hS.bd) hN0 rfl (lr69 29 rfl) (lr69 30 rfl) (lr69 31 rfl) (lr69 32 rfl) (by decide +kernel) ⟨by decide, by decide, (by show _ ≤ 2400; omega), (by show _ ≤ 14400; omega)⟩ (by decide) (by decide +kernel) rfl (fun v9 V9 hG H locs hw => ?_)
    obtain ⟨-, rfl, rfl⟩ := hG
    refine lv_iload_n hx hb (k := 2) (i := 2) (x := iI (sm (fun k => cel (τ 4) (0 + (k : Int) * 6 + 3)) N)) (by decide +kernel) rfl (lv_at hl 4 rfl) ?_
    refine lv_i2f hx hb (by decide +kernel) ?_
    refine lv_iload_n hx hb (k := 1) (i := 1) (x := iI (N : Int)) (by decide +kernel) rfl (lv_at hl 5 rfl) ?_
    refine lv_i2f hx hb (by decide +kernel) ?_
    refine lv_fdiv hx hb (by decide +kernel) hnf ?_
    refine lv_fcmp hx hb (op := .l) (by decide +kernel) ?_
    refine lv_if_ne hx hb (off := 7) (tgt := 558) (by decide +kernel) (by decide) (fun h => absurd (fc0 hnf) h) (fun _ => ?_)
    exact rk_tail F hlk hrt hI hN (by omega) (by omega) hl hw
theorem rk_locks {p : Program} {e : Env} {s : State} {m : MethodId} {args : Array Value} {below : List Frame} {meth : Method} {c : Code} {X : va_W} {τ : SZ} {B : Int} {N : Nat} (F : FL D A ad adV cA p l s m args c method_40_code 13) (hlk : meth.locks = false) (hrt : meth.sig.returnType = some .boolean) (hI : Iv B (τ 4)) (hN : cel (τ 4) 107 = (N : Int)) : ∀ (q j : Nat) (z : Int) (ls : Array Slot) (H : Heap) (locs : List Loc) (cl sl : Nat), j + q = 2 * N → z = (j : Int) → cl ≤ 420 + 116 * j → sl ≤ 2520 + 696 * j → lv_has ls 13 [(7, .int (iI z)), (6, .int (iI (g24 (lkF (τ 4)) 24))), (5, .int (iI (g24 (tgF (τ 4)) 24))), (4, .int (iI (sm (fun k => cel (τ 4) (0 + (k : Int) * 6 + 4)) N))), (3, .int (iI (sm (fun k => b2 (cel (τ 4) (0 + (k : Int) * 6 + 0) = 0)) N))), (2, .int (iI (sm (fun k => cel (τ 4) (0 + (k : Int) * 6 + 3)) N))), (1, .int (iI (N : Int))), (0, .ref (ad 0))] → WV D A s (wO ad cA (sz τ) ++ X) H locs → W p l e (rmK 26 2400 14400) s m args below meth c H locs cl sl (vx_MQ below (LQ D A (RV ad cA X 1 τ)) (fun _ _ _ => False) args s 2400 14400 A) (F0 m 307 ls []) := by
  have hx := F.1
  have hb := F.2.1
  have hS := hI.1
  have hn := hS.n
  have htu := hS.tu
  have hBB := hS.B
  have hmx : mX m7_account = 1 := rfl
  intro q
  induction q with
  | zero =>
    intro j z ls H locs cl sl hk hz hcl hsl hl hw
    refine lv_iload hx hb (i := 7) (x := iI z) (by decide +kernel) (lv_at hl 0 rfl) ?_
    refine lv_iconst hx hb (n := 2) (v := iI 2) (by decide +kernel) rfl ?_
    refine lv_iload_n hx hb (k := 1) (i := 1) (x := iI (N : Int)) (by decide +kernel) rfl (lv_at hl 6 rfl) ?_
    refine lz_imul hx hb (a := 2) (b := (N : Int)) (by decide +kernel) ?_
    refine lz_icmp_ge hx hb (a := z) (b := (2 * (N : Int))) (off := 211) (tgt := 523) (by decide +kernel) (by decide) ⟨by omega, by omega⟩ ⟨by omega, by omega⟩ (fun _ => ?_) (fun h9 => absurd (by omega) h9)
    exact rk_end F hlk hrt hI hN (by omega) (by omega) (lv_sub hl [1, 2, 3, 4, 5, 6, 7] rfl) hw
  | succ q ih =>
    intro j z ls H locs cl sl hk hz hcl hsl hl hw
    subst hz
    have hf : 0 ≤ (j : Int) / 2 ∧ (j : Int) / 2 < cel (τ 4) 107 := by omega
    have hr : 0 ≤ (j : Int) % 2 ∧ (j : Int) % 2 < 2 := by omega
    have hsd := hS.sd (f := (j : Int) / 2) ⟨by omega, by omega⟩
    have hkg := hS.kg (f := (j : Int) / 2) ⟨by omega, by omega⟩
    have hpl := hS.pl (f := (j : Int) / 2) (r := (j : Int) % 2) ⟨by omega, by omega⟩ hr
    refine lv_iload hx hb (i := 7) (x := iI (j : Int)) (by decide +kernel) (lv_at hl 0 rfl) ?_
    refine lv_iconst hx hb (n := 2) (v := iI 2) (by decide +kernel) rfl ?_
    refine lv_iload_n hx hb (k := 1) (i := 1) (x := iI (N : Int)) (by decide +kernel) rfl (lv_at hl 6 rfl) ?_
    refine lz_imul hx hb (a := 2) (b := (N : Int)) (by decide +kernel) ?_
    refine lz_icmp_ge hx hb (a := (j : Int)) (b := (2 * (N : Int))) (off := 211) (tgt := 523) (by decide +kernel) (by decide) ⟨by omega, by omega⟩ ⟨by omega, by omega⟩ (fun h9 => absurd h9 (by omega)) (fun _ => ?_)
    refine lv_aload_n hx hb (k := 0) (i := 0) (x := ad 0) (by decide +kernel) rfl (lv_at hl 7 rfl) ?_
    refine lv_iload hx hb (i := 7) (x := iI (j : Int)) (by decide +kernel) (lv_at hl 0 rfl) ?_
    refine lv_iconst hx hb (n := 2) (v := iI 2) (by decide +kernel) rfl ?_
    refine lz_idiv hx hb (a := (j : Int)) (b := 2) (by decide +kernel) ⟨by omega, by omega, by omega, by omega⟩ ?_
    refine lv_iload hx hb (i := 7) (x := iI (j : Int)) (by decide +kernel) (lv_at hl 0 rfl) ?_
    refine lv_iconst hx hb (n := 2) (v := iI 2) (by decide +kernel) rfl ?_
    refine lz_irem hx hb (a := (j : Int)) (b := 2) (by decide +kernel) ⟨by omega, by omega, by omega, by omega⟩ ?_
    refine lk_call (x := 166) (rest := []) (as := [.ref (ad 0), .int (iI ((j : Int) / 2)), .int (iI ((j : Int) % 2))]) (n := 3) F hw hl.1 (K_placeOf (X := X) (τ := τ) (f := ((j : Int) / 2)) (r := ((j : Int) % 2)) (B := B) F.l0 (by omega) (by omega) hS) (lr69 33 rfl) (lr69 34 rfl) (lr69 35 rfl) (lr69 6 rfl) ⟨rfl, by decide, by decide, by decide +kernel⟩ rfl ⟨Nat.le_of_ble_eq_true rfl, Nat.le_of_ble_eq_true rfl, (by show _ ≤ 2400; omega), (by show _ ≤ 14400; omega)⟩ (Nat.le_of_ble_eq_true rfl) (by decide +kernel) rfl (fun v9 V9 hG H locs hw => ?_)
    obtain ⟨rfl, rfl⟩ := hG
    refine W.eq (g2 := F0 m 327 ls [.int (iI (cel (τ 4) (0 + ((j : Int) / 2) * 6 + (1 + ((j : Int) % 2)))))]) rfl ?_
    refine lv_istore hx hb (i := 8) (lv' := [(8, .int (iI (cel (τ 4) (0 + ((j : Int) / 2) * 6 + (1 + ((j : Int) % 2)))))), (7, .int (iI (j : Int))), (6, .int (iI (g24 (lkF (τ 4)) 24))), (5, .int (iI (g24 (tgF (τ 4)) 24))), (4, .int (iI (sm (fun k => cel (τ 4) (0 + (k : Int) * 6 + 4)) N))), (3, .int (iI (sm (fun k => b2 (cel (τ 4) (0 + (k : Int) * 6 + 0) = 0)) N))), (2, .int (iI (sm (fun k => cel (τ 4) (0 + (k : Int) * 6 + 3)) N))), (1, .int (iI (N : Int))), (0, .ref (ad 0))]) (by decide +kernel) hl (by decide) rfl (fun ls hl => ?_)
    refine lv_bipush hx hb (n := (-13)) (v := iI (-13)) (by decide +kernel) (by decide) ?_
    refine lv_istore hx hb (i := 9) (lv' := [(9, .int (iI (-13))), (8, .int (iI (cel (τ 4) (0 + ((j : Int) / 2) * 6 + (1 + ((j : Int) % 2)))))), (7, .int (iI (j : Int))), (6, .int (iI (g24 (lkF (τ 4)) 24))), (5, .int (iI (g24 (tgF (τ 4)) 24))), (4, .int (iI (sm (fun k => cel (τ 4) (0 + (k : Int) * 6 + 4)) N))), (3, .int (iI (sm (fun k => b2 (cel (τ 4) (0 + (k : Int) * 6 + 0) = 0)) N))), (2, .int (iI (sm (fun k => cel (τ 4) (0 + (k : Int) * 6 + 3)) N))), (1, .int (iI (N : Int))), (0, .ref (ad 0))]) (by decide +kernel) hl (by decide) rfl (fun ls hl => ?_)
    refine lv_bipush hx hb (n := 11) (v := iI 11) (by decide +kernel) (by decide) ?_
    refine lv_istore hx hb (i := 10) (lv' := [(10, .int (iI 11)), (9, .int (iI (-13))), (8, .int (iI (cel (τ 4) (0 + ((j : Int) / 2) * 6 + (1 + ((j : Int) % 2)))))), (7, .int (iI (j : Int))), (6, .int (iI (g24 (lkF (τ 4)) 24))), (5, .int (iI (g24 (tgF (τ 4)) 24))), (4, .int (iI (sm (fun k => cel (τ 4) (0 + (k : Int) * 6 + 4)) N))), (3, .int (iI (sm (fun k => b2 (cel (τ 4) (0 + (k : Int) * 6 + 0) = 0)) N))), (2, .int (iI (sm (fun k => cel (τ 4) (0 + (k : Int) * 6 + 3)) N))), (1, .int (iI (N : Int))), (0, .ref (ad 0))]) (by decide +kernel) hl (by decide) rfl (fun ls hl => ?_)
    have far : ∀ (q2 j2 : Nat) (z v : Int) (ls : Array Slot) (H : Heap) (locs : List Loc) (cl2 sl2 : Nat), j2 + q2 = 11 → z = 11 - (j2 : Int) → v = nrv (τ 4) ((j : Int) / 2) ((j : Int) % 2) j2 → cl2 ≤ cl + 2 + 10 * j2 → sl2 ≤ sl + 12 + 60 * j2 → lv_has ls 13 [(10, .int (iI z)), (9, .int (iI v)), (8, .int (iI (cel (τ 4) (0 + ((j : Int) / 2) * 6 + (1 + ((j : Int) % 2)))))), (7, .int (iI (j : Int))), (6, .int (iI (g24 (lkF (τ 4)) 24))), (5, .int (iI (g24 (tgF (τ 4)) 24))), (4, .int (iI (sm (fun k => cel (τ 4) (0 + (k : Int) * 6 + 4)) N))), (3, .int (iI (sm (fun k => b2 (cel (τ 4) (0 + (k : Int) * 6 + 0) = 0)) N))), (2, .int (iI (sm (fun k => cel (τ 4) (0 + (k : Int) * 6 + 3)) N))), (1, .int (iI (N : Int))), (0, .ref (ad 0))] → WV D A s (wO ad cA (sz τ) ++ X) H locs → W p l e (rmK 26 2400 14400) s m args below meth c H locs cl2 sl2 (vx_MQ below (LQ D A (RV ad cA X 1 τ)) (fun _ _ _ => False) args s 2400 14400 A) (F0 m 337 ls []) := by
      intro q2
      induction q2 with
      | zero =>
        intro j2 z v ls H locs cl2 sl2 hk2 hz2 hv hcl2 hsl2 hl hw
        have hus : ∀ p, 0 ≤ usz (τ 4) ((j : Int) % 2) p ∧ usz (τ 4) ((j : Int) % 2) p ≤ 3 := fun p => hS.us hr
        have hwt : -13 ≤ nrv (τ 4) ((j : Int) / 2) ((j : Int) % 2) 11 ∧ nrv (τ 4) ((j : Int) / 2) ((j : Int) % 2) 11 ≤ 11 := nrv_b _ (by omega)
        have hwh : whz (τ 4) ((j : Int) % 2) (cel (τ 4) (0 + ((j : Int) / 2) * 6 + (1 + ((j : Int) % 2)))) = (j : Int) / 2 := Co.whp hI hf hr
        have e11 : j2 = 11 := by omega
        rw [e11] at hv
        refine lv_iload hx hb (i := 10) (x := iI z) (by decide +kernel) (lv_at hl 0 rfl) ?_
        refine lz_if_le hx hb (a := z) (off := 142) (tgt := 481) (by decide +kernel) (by decide) ⟨by omega, by omega⟩ (fun _ => ?_) (fun h9 => absurd (by omega) h9)
        refine lv_aload_n hx hb (k := 0) (i := 0) (x := ad 0) (by decide +kernel) rfl (lv_at hl 10 rfl) ?_
        refine lv_iload hx hb (i := 7) (x := iI (j : Int)) (by decide +kernel) (lv_at hl 3 rfl) ?_
        refine lv_iconst hx hb (n := 2) (v := iI 2) (by decide +kernel) rfl ?_
        refine lz_idiv hx hb (a := (j : Int)) (b := 2) (by decide +kernel) ⟨by omega, by omega, by omega, by omega⟩ ?_
        refine lv_iload hx hb (i := 7) (x := iI (j : Int)) (by decide +kernel) (lv_at hl 3 rfl) ?_
        refine lv_iconst hx hb (n := 2) (v := iI 2) (by decide +kernel) rfl ?_
        refine lz_irem hx hb (a := (j : Int)) (b := 2) (by decide +kernel) ⟨by omega, by omega, by omega, by omega⟩ ?_
        refine lk_callH (x := 239) (rest := []) (as := [.ref (ad 0), .int (iI ((j : Int) / 2)), .int (iI ((j : Int) % 2))]) (n := 3) F hw hl.1 ((L_toLock (X := X) (τ := τ) (f := (j : Int) / 2) (r := (j : Int) % 2) F.l0 ⟨by omega, by omega⟩ ⟨by omega, by omega⟩ hS).to (k' := v) ((if_pos ⟨hf, hr⟩).trans hv.symm)) (lr69 10 rfl) (lr69 11 rfl) (lr69 12 rfl) (lr69 6 rfl) ⟨by decide, by decide, by decide +kernel⟩ rfl ⟨Nat.le_of_ble_eq_true rfl, Nat.le_of_ble_eq_true rfl, (by show _ ≤ 2400; omega), (by show _ ≤ 14400; omega)⟩ (Nat.le_of_ble_eq_true rfl) (by decide +kernel) rfl (fun v9 V9 hG H locs hw => ?_)
        obtain ⟨rfl, rfl⟩ := hG
        refine W.eq (g2 := F0 m 493 ls [.int (iI v)]) rfl ?_
        refine lv_iload hx hb (i := 9) (x := iI v) (by decide +kernel) (lv_at hl 1 rfl) ?_
        refine lz_icmp_ne hx hb (a := v) (b := v) (off := 20) (tgt := 515) (by decide +kernel) (by decide) ⟨by omega, by omega⟩ ⟨by omega, by omega⟩ (fun h9 => absurd h9 (by omega)) (fun _ => ?_)
        refine lv_aload_n hx hb (k := 0) (i := 0) (x := ad 0) (by decide +kernel) rfl (lv_at hl 10 rfl) ?_
        refine lv_iload hx hb (i := 7) (x := iI (j : Int)) (by decide +kernel) (lv_at hl 3 rfl) ?_
        refine lv_iconst hx hb (n := 2) (v := iI 2) (by decide +kernel) rfl ?_
        refine lz_irem hx hb (a := (j : Int)) (b := 2) (by decide +kernel) ⟨by omega, by omega, by omega, by omega⟩ ?_
        refine lv_iload hx hb (i := 8) (x := iI (cel (τ 4) (0 + ((j : Int) / 2) * 6 + (1 + ((j : Int) % 2))))) (by decide +kernel) (lv_at hl 2 rfl) ?_
        refine lk_callH (x := 171) (rest := []) (as := [.ref (ad 0), .int (iI ((j : Int) % 2)), .int (iI (cel (τ 4) (0 + ((j : Int) / 2) * 6 + (1 + ((j : Int) % 2)))))]) (n := 3) F hw hl.1 ((K_at (X := X) (τ := τ) (r := (j : Int) % 2) (p := cel (τ 4) (0 + ((j : Int) / 2) * 6 + (1 + ((j : Int) % 2)))) F.l0 hr (by omega)).to (k' := (j : Int) / 2) hwh) (lr69 13 rfl) (lr69 14 rfl) (lr69 15 rfl) (lr69 6 rfl) ⟨by decide, by decide, by decide +kernel⟩ rfl ⟨Nat.le_of_ble_eq_true rfl, Nat.le_of_ble_eq_true rfl, (by show _ ≤ 2400; omega), (by show _ ≤ 14400; omega)⟩ (Nat.le_of_ble_eq_true rfl) (by decide +kernel) rfl (fun v9 V9 hG H locs hw => ?_)
        obtain ⟨rfl, rfl⟩ := hG
        refine W.eq (g2 := F0 m 508 ls [.int (iI ((j : Int) / 2))]) rfl ?_
        refine lv_iload hx hb (i := 7) (x := iI (j : Int)) (by decide +kernel) (lv_at hl 3 rfl) ?_
        refine lv_iconst hx hb (n := 2) (v := iI 2) (by decide +kernel) rfl ?_
        refine lz_idiv hx hb (a := (j : Int)) (b := 2) (by decide +kernel) ⟨by omega, by omega, by omega, by omega⟩ ?_
        refine lz_icmp_eq hx hb (a := ((j : Int) / 2)) (b := ((j : Int) / 2)) (off := 5) (tgt := 517) (by decide +kernel) (by decide) ⟨by omega, by omega⟩ ⟨by omega, by omega⟩ (fun _ => ?_) (fun h9 => absurd (by omega) h9)
        refine lv_iinc hx hb (i := 7) (n := 1) (v := iI ((j : Int) + 1)) (lv' := [(7, .int (iI ((j : Int) + 1))), (10, .int (iI z)), (9, .int (iI v)), (8, .int (iI (cel (τ 4) (0 + ((j : Int) / 2) * 6 + (1 + ((j : Int) % 2)))))), (6, .int (iI (g24 (lkF (τ 4)) 24))), (5, .int (iI (g24 (tgF (τ 4)) 24))), (4, .int (iI (sm (fun k => cel (τ 4) (0 + (k : Int) * 6 + 4)) N))), (3, .int (iI (sm (fun k => b2 (cel (τ 4) (0 + (k : Int) * 6 + 0) = 0)) N))), (2, .int (iI (sm (fun k => cel (τ 4) (0 + (k : Int) * 6 + 3)) N))), (1, .int (iI (N : Int))), (0, .ref (ad 0))]) (by decide +kernel) hl (k := 3) rfl (iI_add _ _) (by decide) rfl (fun ls hl => ?_)
        refine lv_goto hx hb (off := (-213)) (tgt := 307) (by decide +kernel) (by decide) ?_
        exact ih (j + 1) _ ls _ _ _ _ (by omega) (by omega) (by omega) (by omega) (lv_sub hl [0, 4, 5, 6, 7, 8, 9, 10] rfl) hw
      | succ q2 ih2 =>
        intro j2 z v ls H locs cl2 sl2 hk2 hz2 hv hcl2 hsl2 hl hw
        have hu1 := hS.us (p := cel (τ 4) (0 + ((j : Int) / 2) * 6 + (1 + ((j : Int) % 2))) + z) hr
        have hu2 := hS.us (p := cel (τ 4) (0 + ((j : Int) / 2) * 6 + (1 + ((j : Int) % 2))) - z) hr
        refine lv_iload hx hb (i := 10) (x := iI z) (by decide +kernel) (lv_at hl 0 rfl) ?_
        refine lz_if_le hx hb (a := z) (off := 142) (tgt := 481) (by decide +kernel) (by decide) ⟨by omega, by omega⟩ (fun h9 => absurd h9 (by omega)) (fun _ => ?_)
        refine lv_iload hx hb (i := 8) (x := iI (cel (τ 4) (0 + ((j : Int) / 2) * 6 + (1 + ((j : Int) % 2))))) (by decide +kernel) (lv_at hl 2 rfl) ?_
        refine lv_iload hx hb (i := 10) (x := iI z) (by decide +kernel) (lv_at hl 0 rfl) ?_
        refine lz_iadd hx hb (a := (cel (τ 4) (0 + ((j : Int) / 2) * 6 + (1 + ((j : Int) % 2))))) (b := z) (by decide +kernel) ?_
        refine lv_bipush hx hb (n := 12) (v := iI 12) (by decide +kernel) (by decide) ?_
        refine lz_icmp_ge hx hb (a := ((cel (τ 4) (0 + ((j : Int) / 2) * 6 + (1 + ((j : Int) % 2)))) + z)) (b := 12) (off := 48) (tgt := 397) (by decide +kernel) (by decide) ⟨by omega, by omega⟩ ⟨by decide, by decide⟩ (fun h2 => ?_) (fun h2 => ?_)
        ·
          refine lv_iconst hx hb (n := 0) (v := iI 0) (by decide +kernel) rfl ?_
          refine lv_istore hx hb (i := 11) (lv' := [(11, .int (iI 0)), (10, .int (iI z)), (9, .int (iI v)), (8, .int (iI (cel (τ 4) (0 + ((j : Int) / 2) * 6 + (1 + ((j : Int) % 2)))))), (7, .int (iI (j : Int))), (6, .int (iI (g24 (lkF (τ 4)) 24))), (5, .int (iI (g24 (tgF (τ 4)) 24))), (4, .int (iI (sm (fun k => cel (τ 4) (0 + (k : Int) * 6 + 4)) N))), (3, .int (iI (sm (fun k => b2 (cel (τ 4) (0 + (k : Int) * 6 + 0) = 0)) N))), (2, .int (iI (sm (fun k => cel (τ 4) (0 + (k : Int) * 6 + 3)) N))), (1, .int (iI (N : Int))), (0, .ref (ad 0))]) (by decide +kernel) hl (by decide) rfl (fun ls hl => ?_)
          refine lv_iload hx hb (i := 8) (x := iI (cel (τ 4) (0 + ((j : Int) / 2) * 6 + (1 + ((j : Int) % 2))))) (by decide +kernel) (lv_at hl 3 rfl) ?_
          refine lv_iload hx hb (i := 10) (x := iI z) (by decide +kernel) (lv_at hl 1 rfl) ?_
          refine lz_icmp_lt hx hb (a := (cel (τ 4) (0 + ((j : Int) / 2) * 6 + (1 + ((j : Int) % 2))))) (b := z) (off := 49) (tgt := 453) (by decide +kernel) (by decide) ⟨by omega, by omega⟩ ⟨by omega, by omega⟩ (fun h3 => ?_) (fun h3 => ?_)
          ·
            refine lv_iconst hx hb (n := 0) (v := iI 0) (by decide +kernel) rfl ?_
            refine lv_istore hx hb (i := 12) (lv' := [(12, .int (iI 0)), (11, .int (iI 0)), (10, .int (iI z)), (9, .int (iI v)), (8, .int (iI (cel (τ 4) (0 + ((j : Int) / 2) * 6 + (1 + ((j : Int) % 2)))))), (7, .int (iI (j : Int))), (6, .int (iI (g24 (lkF (τ 4)) 24))), (5, .int (iI (g24 (tgF (τ 4)) 24))), (4, .int (iI (sm (fun k => cel (τ 4) (0 + (k : Int) * 6 + 4)) N))), (3, .int (iI (sm (fun k => b2 (cel (τ 4) (0 + (k : Int) * 6 + 0) = 0)) N))), (2, .int (iI (sm (fun k => cel (τ 4) (0 + (k : Int) * 6 + 3)) N))), (1, .int (iI (N : Int))), (0, .ref (ad 0))]) (by decide +kernel) hl (by decide) rfl (fun ls hl => ?_)
            refine lv_iload hx hb (i := 11) (x := iI 0) (by decide +kernel) (lv_at hl 1 rfl) ?_
            refine lz_if_ne hx hb (a := 0) (off := 8) (tgt := 466) (by decide +kernel) (by decide) ⟨by decide, by decide⟩ (fun h9 => absurd h9 (by decide)) (fun _ => ?_)
            refine lv_iload hx hb (i := 12) (x := iI 0) (by decide +kernel) (lv_at hl 0 rfl) ?_
            refine lz_if_eq hx hb (a := 0) (off := 8) (tgt := 471) (by decide +kernel) (by decide) ⟨by decide, by decide⟩ (fun _ => ?_) (fun h9 => absurd (by decide) h9)
            refine lv_iload hx hb (i := 9) (x := iI v) (by decide +kernel) (lv_at hl 3 rfl) ?_
            refine lv_istore hx hb (i := 9) (lv' := [(9, .int (iI v)), (12, .int (iI 0)), (11, .int (iI 0)), (10, .int (iI z)), (8, .int (iI (cel (τ 4) (0 + ((j : Int) / 2) * 6 + (1 + ((j : Int) % 2)))))), (7, .int (iI (j : Int))), (6, .int (iI (g24 (lkF (τ 4)) 24))), (5, .int (iI (g24 (tgF (τ 4)) 24))), (4, .int (iI (sm (fun k => cel (τ 4) (0 + (k : Int) * 6 + 4)) N))), (3, .int (iI (sm (fun k => b2 (cel (τ 4) (0 + (k : Int) * 6 + 0) = 0)) N))), (2, .int (iI (sm (fun k => cel (τ 4) (0 + (k : Int) * 6 + 3)) N))), (1, .int (iI (N : Int))), (0, .ref (ad 0))]) (by decide +kernel) hl (by decide) rfl (fun ls hl => ?_)
            refine lv_iinc hx hb (i := 10) (n := (-1)) (v := iI (z + (-1))) (lv' := [(10, .int (iI (z + (-1)))), (9, .int (iI v)), (12, .int (iI 0)), (11, .int (iI 0)), (8, .int (iI (cel (τ 4) (0 + ((j : Int) / 2) * 6 + (1 + ((j : Int) % 2)))))), (7, .int (iI (j : Int))), (6, .int (iI (g24 (lkF (τ 4)) 24))), (5, .int (iI (g24 (tgF (τ 4)) 24))), (4, .int (iI (sm (fun k => cel (τ 4) (0 + (k : Int) * 6 + 4)) N))), (3, .int (iI (sm (fun k => b2 (cel (τ 4) (0 + (k : Int) * 6 + 0) = 0)) N))), (2, .int (iI (sm (fun k => cel (τ 4) (0 + (k : Int) * 6 + 3)) N))), (1, .int (iI (N : Int))), (0, .ref (ad 0))]) (by decide +kernel) hl (k := 3) rfl (iI_add _ _) (by decide) rfl (fun ls hl => ?_)
            refine lv_goto hx hb (off := (-141)) (tgt := 337) (by decide +kernel) (by decide) ?_
            exact ih2 (j2 + 1) _ _ ls _ _ _ _ (by omega) (by omega) (nrv_is (by omega) hz2 hsd (by omega)) (by omega) (by omega) (lv_sub hl [0, 1, 4, 5, 6, 7, 8, 9, 10, 11, 12] rfl) hw
          ·
            refine lv_aload_n hx hb (k := 0) (i := 0) (x := ad 0) (by decide +kernel) rfl (lv_at hl 11 rfl) ?_
            refine lv_iload hx hb (i := 7) (x := iI (j : Int)) (by decide +kernel) (lv_at hl 4 rfl) ?_
            refine lv_iconst hx hb (n := 2) (v := iI 2) (by decide +kernel) rfl ?_
            refine lz_irem hx hb (a := (j : Int)) (b := 2) (by decide +kernel) ⟨by omega, by omega, by omega, by omega⟩ ?_
            refine lv_iload hx hb (i := 8) (x := iI (cel (τ 4) (0 + ((j : Int) / 2) * 6 + (1 + ((j : Int) % 2))))) (by decide +kernel) (lv_at hl 3 rfl) ?_
            refine lv_iload hx hb (i := 10) (x := iI z) (by decide +kernel) (lv_at hl 1 rfl) ?_
            refine lz_isub hx hb (a := (cel (τ 4) (0 + ((j : Int) / 2) * 6 + (1 + ((j : Int) % 2))))) (b := z) (by decide +kernel) ?_
            refine lk_callH (x := 237) (rest := []) (as := [.ref (ad 0), .int (iI ((j : Int) % 2)), .int (iI ((cel (τ 4) (0 + ((j : Int) / 2) * 6 + (1 + ((j : Int) % 2)))) - z))]) (n := 3) F hw hl.1 (K_lockAt (X := X) (τ := τ) (r := ((j : Int) % 2)) (p := ((cel (τ 4) (0 + ((j : Int) / 2) * 6 + (1 + ((j : Int) % 2)))) - z)) F.l0 (by omega) (by omega)) (lr69 16 rfl) (lr69 17 rfl) (lr69 18 rfl) (lr69 6 rfl) ⟨by decide, by decide, by decide +kernel⟩ rfl ⟨Nat.le_of_ble_eq_true rfl, Nat.le_of_ble_eq_true rfl, (by show _ ≤ 2400; omega), (by show _ ≤ 14400; omega)⟩ (Nat.le_of_ble_eq_true rfl) (by decide +kernel) rfl (fun v9 V9 hG H locs hw => ?_)
            obtain ⟨rfl, rfl⟩ := hG
            refine W.eq (g2 := F0 m 420 ls [.int (iI (usz (τ 4) ((j : Int) % 2) ((cel (τ 4) (0 + ((j : Int) / 2) * 6 + (1 + ((j : Int) % 2)))) - z)))]) rfl ?_
            refine lz_if_le hx hb (a := (usz (τ 4) ((j : Int) % 2) ((cel (τ 4) (0 + ((j : Int) / 2) * 6 + (1 + ((j : Int) % 2)))) - z))) (off := 33) (tgt := 453) (by decide +kernel) (by decide) ⟨by omega, by omega⟩ (fun h6 => ?_) (fun h6 => ?_)
            ·
              refine lv_iconst hx hb (n := 0) (v := iI 0) (by decide +kernel) rfl ?_
              refine lv_istore hx hb (i := 12) (lv' := [(12, .int (iI 0)), (11, .int (iI 0)), (10, .int (iI z)), (9, .int (iI v)), (8, .int (iI (cel (τ 4) (0 + ((j : Int) / 2) * 6 + (1 + ((j : Int) % 2)))))), (7, .int (iI (j : Int))), (6, .int (iI (g24 (lkF (τ 4)) 24))), (5, .int (iI (g24 (tgF (τ 4)) 24))), (4, .int (iI (sm (fun k => cel (τ 4) (0 + (k : Int) * 6 + 4)) N))), (3, .int (iI (sm (fun k => b2 (cel (τ 4) (0 + (k : Int) * 6 + 0) = 0)) N))), (2, .int (iI (sm (fun k => cel (τ 4) (0 + (k : Int) * 6 + 3)) N))), (1, .int (iI (N : Int))), (0, .ref (ad 0))]) (by decide +kernel) hl (by decide) rfl (fun ls hl => ?_)
              refine lv_iload hx hb (i := 11) (x := iI 0) (by decide +kernel) (lv_at hl 1 rfl) ?_
              refine lz_if_ne hx hb (a := 0) (off := 8) (tgt := 466) (by decide +kernel) (by decide) ⟨by decide, by decide⟩ (fun h9 => absurd h9 (by decide)) (fun _ => ?_)
              refine lv_iload hx hb (i := 12) (x := iI 0) (by decide +kernel) (lv_at hl 0 rfl) ?_
              refine lz_if_eq hx hb (a := 0) (off := 8) (tgt := 471) (by decide +kernel) (by decide) ⟨by decide, by decide⟩ (fun _ => ?_) (fun h9 => absurd (by decide) h9)
              refine lv_iload hx hb (i := 9) (x := iI v) (by decide +kernel) (lv_at hl 3 rfl) ?_
              refine lv_istore hx hb (i := 9) (lv' := [(9, .int (iI v)), (12, .int (iI 0)), (11, .int (iI 0)), (10, .int (iI z)), (8, .int (iI (cel (τ 4) (0 + ((j : Int) / 2) * 6 + (1 + ((j : Int) % 2)))))), (7, .int (iI (j : Int))), (6, .int (iI (g24 (lkF (τ 4)) 24))), (5, .int (iI (g24 (tgF (τ 4)) 24))), (4, .int (iI (sm (fun k => cel (τ 4) (0 + (k : Int) * 6 + 4)) N))), (3, .int (iI (sm (fun k => b2 (cel (τ 4) (0 + (k : Int) * 6 + 0) = 0)) N))), (2, .int (iI (sm (fun k => cel (τ 4) (0 + (k : Int) * 6 + 3)) N))), (1, .int (iI (N : Int))), (0, .ref (ad 0))]) (by decide +kernel) hl (by decide) rfl (fun ls hl => ?_)
              refine lv_iinc hx hb (i := 10) (n := (-1)) (v := iI (z + (-1))) (lv' := [(10, .int (iI (z + (-1)))), (9, .int (iI v)), (12, .int (iI 0)), (11, .int (iI 0)), (8, .int (iI (cel (τ 4) (0 + ((j : Int) / 2) * 6 + (1 + ((j : Int) % 2)))))), (7, .int (iI (j : Int))), (6, .int (iI (g24 (lkF (τ 4)) 24))), (5, .int (iI (g24 (tgF (τ 4)) 24))), (4, .int (iI (sm (fun k => cel (τ 4) (0 + (k : Int) * 6 + 4)) N))), (3, .int (iI (sm (fun k => b2 (cel (τ 4) (0 + (k : Int) * 6 + 0) = 0)) N))), (2, .int (iI (sm (fun k => cel (τ 4) (0 + (k : Int) * 6 + 3)) N))), (1, .int (iI (N : Int))), (0, .ref (ad 0))]) (by decide +kernel) hl (k := 3) rfl (iI_add _ _) (by decide) rfl (fun ls hl => ?_)
              refine lv_goto hx hb (off := (-141)) (tgt := 337) (by decide +kernel) (by decide) ?_
              exact ih2 (j2 + 1) _ _ ls _ _ _ _ (by omega) (by omega) (nrv_is (by omega) hz2 hsd (by omega)) (by omega) (by omega) (lv_sub hl [0, 1, 4, 5, 6, 7, 8, 9, 10, 11, 12] rfl) hw
            ·
              refine lv_aload_n hx hb (k := 0) (i := 0) (x := ad 0) (by decide +kernel) rfl (lv_at hl 11 rfl) ?_
              refine lv_iload hx hb (i := 7) (x := iI (j : Int)) (by decide +kernel) (lv_at hl 4 rfl) ?_
              refine lv_iconst hx hb (n := 2) (v := iI 2) (by decide +kernel) rfl ?_
              refine lz_idiv hx hb (a := (j : Int)) (b := 2) (by decide +kernel) ⟨by omega, by omega, by omega, by omega⟩ ?_
              refine lv_iconst hx hb (n := 0) (v := iI 0) (by decide +kernel) rfl ?_
              refine lk_callH (x := 163) (rest := []) (as := [.ref (ad 0), .int (iI ((j : Int) / 2)), .int (iI 0)]) (n := 3) F hw hl.1 (K_of (X := X) (τ := τ) (f := ((j : Int) / 2)) (w := 0) (B := B) F.l0 (by omega) (by omega) hS) (lr69 22 rfl) (lr69 23 rfl) (lr69 24 rfl) (lr69 6 rfl) ⟨by decide, by decide, by decide +kernel⟩ rfl ⟨Nat.le_of_ble_eq_true rfl, Nat.le_of_ble_eq_true rfl, (by show _ ≤ 2400; omega), (by show _ ≤ 14400; omega)⟩ (Nat.le_of_ble_eq_true rfl) (by decide +kernel) rfl (fun v9 V9 hG H locs hw => ?_)
              obtain ⟨rfl, rfl⟩ := hG
              refine W.eq (g2 := F0 m 432 ls [.int (iI (cel (τ 4) (0 + ((j : Int) / 2) * 6 + 0)))]) rfl ?_
              refine lv_iconst hx hb (n := 1) (v := iI 1) (by decide +kernel) rfl ?_
              refine lz_icmp_eq hx hb (a := (cel (τ 4) (0 + ((j : Int) / 2) * 6 + 0))) (b := 1) (off := 16) (tgt := 449) (by decide +kernel) (by decide) ⟨by omega, by omega⟩ ⟨by decide, by decide⟩ (fun h9 => ?_) (fun h9 => ?_)
              ·
                refine lv_iconst hx hb (n := 1) (v := iI 1) (by decide +kernel) rfl ?_
                refine lv_goto hx hb (off := 4) (tgt := 454) (by decide +kernel) (by decide) ?_
                refine lv_istore hx hb (i := 12) (lv' := [(12, .int (iI 1)), (11, .int (iI 0)), (10, .int (iI z)), (9, .int (iI v)), (8, .int (iI (cel (τ 4) (0 + ((j : Int) / 2) * 6 + (1 + ((j : Int) % 2)))))), (7, .int (iI (j : Int))), (6, .int (iI (g24 (lkF (τ 4)) 24))), (5, .int (iI (g24 (tgF (τ 4)) 24))), (4, .int (iI (sm (fun k => cel (τ 4) (0 + (k : Int) * 6 + 4)) N))), (3, .int (iI (sm (fun k => b2 (cel (τ 4) (0 + (k : Int) * 6 + 0) = 0)) N))), (2, .int (iI (sm (fun k => cel (τ 4) (0 + (k : Int) * 6 + 3)) N))), (1, .int (iI (N : Int))), (0, .ref (ad 0))]) (by decide +kernel) hl (by decide) rfl (fun ls hl => ?_)
                refine lv_iload hx hb (i := 11) (x := iI 0) (by decide +kernel) (lv_at hl 1 rfl) ?_
                refine lz_if_ne hx hb (a := 0) (off := 8) (tgt := 466) (by decide +kernel) (by decide) ⟨by decide, by decide⟩ (fun h9 => absurd h9 (by decide)) (fun _ => ?_)
                refine lv_iload hx hb (i := 12) (x := iI 1) (by decide +kernel) (lv_at hl 0 rfl) ?_
                refine lz_if_eq hx hb (a := 1) (off := 8) (tgt := 471) (by decide +kernel) (by decide) ⟨by decide, by decide⟩ (fun h9 => absurd h9 (by decide)) (fun _ => ?_)
                refine lv_iload hx hb (i := 10) (x := iI z) (by decide +kernel) (lv_at hl 2 rfl) ?_
                refine lv_goto hx hb (off := 5) (tgt := 473) (by decide +kernel) (by decide) ?_
                refine lv_istore hx hb (i := 9) (lv' := [(9, .int (iI z)), (12, .int (iI 1)), (11, .int (iI 0)), (10, .int (iI z)), (8, .int (iI (cel (τ 4) (0 + ((j : Int) / 2) * 6 + (1 + ((j : Int) % 2)))))), (7, .int (iI (j : Int))), (6, .int (iI (g24 (lkF (τ 4)) 24))), (5, .int (iI (g24 (tgF (τ 4)) 24))), (4, .int (iI (sm (fun k => cel (τ 4) (0 + (k : Int) * 6 + 4)) N))), (3, .int (iI (sm (fun k => b2 (cel (τ 4) (0 + (k : Int) * 6 + 0) = 0)) N))), (2, .int (iI (sm (fun k => cel (τ 4) (0 + (k : Int) * 6 + 3)) N))), (1, .int (iI (N : Int))), (0, .ref (ad 0))]) (by decide +kernel) hl (by decide) rfl (fun ls hl => ?_)
                refine lv_iinc hx hb (i := 10) (n := (-1)) (v := iI (z + (-1))) (lv' := [(10, .int (iI (z + (-1)))), (9, .int (iI z)), (12, .int (iI 1)), (11, .int (iI 0)), (8, .int (iI (cel (τ 4) (0 + ((j : Int) / 2) * 6 + (1 + ((j : Int) % 2)))))), (7, .int (iI (j : Int))), (6, .int (iI (g24 (lkF (τ 4)) 24))), (5, .int (iI (g24 (tgF (τ 4)) 24))), (4, .int (iI (sm (fun k => cel (τ 4) (0 + (k : Int) * 6 + 4)) N))), (3, .int (iI (sm (fun k => b2 (cel (τ 4) (0 + (k : Int) * 6 + 0) = 0)) N))), (2, .int (iI (sm (fun k => cel (τ 4) (0 + (k : Int) * 6 + 3)) N))), (1, .int (iI (N : Int))), (0, .ref (ad 0))]) (by decide +kernel) hl (k := 3) rfl (iI_add _ _) (by decide) rfl (fun ls hl => ?_)
                refine lv_goto hx hb (off := (-141)) (tgt := 337) (by decide +kernel) (by decide) ?_
                exact ih2 (j2 + 1) _ _ ls _ _ _ _ (by omega) (by omega) (nrv_is (by omega) hz2 hsd (by omega)) (by omega) (by omega) (lv_sub hl [0, 1, 4, 5, 6, 7, 8, 9, 10, 11, 12] rfl) hw
              ·
                refine lv_aload_n hx hb (k := 0) (i := 0) (x := ad 0) (by decide +kernel) rfl (lv_at hl 11 rfl) ?_
                refine lv_iload hx hb (i := 7) (x := iI (j : Int)) (by decide +kernel) (lv_at hl 4 rfl) ?_
                refine lv_iconst hx hb (n := 2) (v := iI 2) (by decide +kernel) rfl ?_
                refine lz_idiv hx hb (a := (j : Int)) (b := 2) (by decide +kernel) ⟨by omega, by omega, by omega, by omega⟩ ?_
                refine lv_iconst hx hb (n := 3) (v := iI 3) (by decide +kernel) rfl ?_
                refine lk_callH (x := 163) (rest := []) (as := [.ref (ad 0), .int (iI ((j : Int) / 2)), .int (iI 3)]) (n := 3) F hw hl.1 (K_of (X := X) (τ := τ) (f := ((j : Int) / 2)) (w := 3) (B := B) F.l0 (by omega) (by omega) hS) (lr69 22 rfl) (lr69 23 rfl) (lr69 24 rfl) (lr69 6 rfl) ⟨by decide, by decide, by decide +kernel⟩ rfl ⟨Nat.le_of_ble_eq_true rfl, Nat.le_of_ble_eq_true rfl, (by show _ ≤ 2400; omega), (by show _ ≤ 14400; omega)⟩ (Nat.le_of_ble_eq_true rfl) (by decide +kernel) rfl (fun v9 V9 hG H locs hw => ?_)
                obtain ⟨rfl, rfl⟩ := hG
                refine W.eq (g2 := F0 m 445 ls [.int (iI (cel (τ 4) (0 + ((j : Int) / 2) * 6 + 3)))]) rfl ?_
                refine lv_iconst hx hb (n := 1) (v := iI 1) (by decide +kernel) rfl ?_
                refine lz_icmp_ne hx hb (a := (cel (τ 4) (0 + ((j : Int) / 2) * 6 + 3))) (b := 1) (off := 7) (tgt := 453) (by decide +kernel) (by decide) ⟨by omega, by omega⟩ ⟨by decide, by decide⟩ (fun h12 => ?_) (fun h12 => ?_)
                ·
                  refine lv_iconst hx hb (n := 0) (v := iI 0) (by decide +kernel) rfl ?_
                  refine lv_istore hx hb (i := 12) (lv' := [(12, .int (iI 0)), (11, .int (iI 0)), (10, .int (iI z)), (9, .int (iI v)), (8, .int (iI (cel (τ 4) (0 + ((j : Int) / 2) * 6 + (1 + ((j : Int) % 2)))))), (7, .int (iI (j : Int))), (6, .int (iI (g24 (lkF (τ 4)) 24))), (5, .int (iI (g24 (tgF (τ 4)) 24))), (4, .int (iI (sm (fun k => cel (τ 4) (0 + (k : Int) * 6 + 4)) N))), (3, .int (iI (sm (fun k => b2 (cel (τ 4) (0 + (k : Int) * 6 + 0) = 0)) N))), (2, .int (iI (sm (fun k => cel (τ 4) (0 + (k : Int) * 6 + 3)) N))), (1, .int (iI (N : Int))), (0, .ref (ad 0))]) (by decide +kernel) hl (by decide) rfl (fun ls hl => ?_)
                  refine lv_iload hx hb (i := 11) (x := iI 0) (by decide +kernel) (lv_at hl 1 rfl) ?_
                  refine lz_if_ne hx hb (a := 0) (off := 8) (tgt := 466) (by decide +kernel) (by decide) ⟨by decide, by decide⟩ (fun h9 => absurd h9 (by decide)) (fun _ => ?_)
                  refine lv_iload hx hb (i := 12) (x := iI 0) (by decide +kernel) (lv_at hl 0 rfl) ?_
                  refine lz_if_eq hx hb (a := 0) (off := 8) (tgt := 471) (by decide +kernel) (by decide) ⟨by decide, by decide⟩ (fun _ => ?_) (fun h9 => absurd (by decide) h9)
                  refine lv_iload hx hb (i := 9) (x := iI v) (by decide +kernel) (lv_at hl 3 rfl) ?_
                  refine lv_istore hx hb (i := 9) (lv' := [(9, .int (iI v)), (12, .int (iI 0)), (11, .int (iI 0)), (10, .int (iI z)), (8, .int (iI (cel (τ 4) (0 + ((j : Int) / 2) * 6 + (1 + ((j : Int) % 2)))))), (7, .int (iI (j : Int))), (6, .int (iI (g24 (lkF (τ 4)) 24))), (5, .int (iI (g24 (tgF (τ 4)) 24))), (4, .int (iI (sm (fun k => cel (τ 4) (0 + (k : Int) * 6 + 4)) N))), (3, .int (iI (sm (fun k => b2 (cel (τ 4) (0 + (k : Int) * 6 + 0) = 0)) N))), (2, .int (iI (sm (fun k => cel (τ 4) (0 + (k : Int) * 6 + 3)) N))), (1, .int (iI (N : Int))), (0, .ref (ad 0))]) (by decide +kernel) hl (by decide) rfl (fun ls hl => ?_)
                  refine lv_iinc hx hb (i := 10) (n := (-1)) (v := iI (z + (-1))) (lv' := [(10, .int (iI (z + (-1)))), (9, .int (iI v)), (12, .int (iI 0)), (11, .int (iI 0)), (8, .int (iI (cel (τ 4) (0 + ((j : Int) / 2) * 6 + (1 + ((j : Int) % 2)))))), (7, .int (iI (j : Int))), (6, .int (iI (g24 (lkF (τ 4)) 24))), (5, .int (iI (g24 (tgF (τ 4)) 24))), (4, .int (iI (sm (fun k => cel (τ 4) (0 + (k : Int) * 6 + 4)) N))), (3, .int (iI (sm (fun k => b2 (cel (τ 4) (0 + (k : Int) * 6 + 0) = 0)) N))), (2, .int (iI (sm (fun k => cel (τ 4) (0 + (k : Int) * 6 + 3)) N))), (1, .int (iI (N : Int))), (0, .ref (ad 0))]) (by decide +kernel) hl (k := 3) rfl (iI_add _ _) (by decide) rfl (fun ls hl => ?_)
                  refine lv_goto hx hb (off := (-141)) (tgt := 337) (by decide +kernel) (by decide) ?_
                  exact ih2 (j2 + 1) _ _ ls _ _ _ _ (by omega) (by omega) (nrv_is (by omega) hz2 hsd (by omega)) (by omega) (by omega) (lv_sub hl [0, 1, 4, 5, 6, 7, 8, 9, 10, 11, 12] rfl) hw
                ·
                  refine lv_iconst hx hb (n := 1) (v := iI 1) (by decide +kernel) rfl ?_
                  refine lv_goto hx hb (off := 4) (tgt := 454) (by decide +kernel) (by decide) ?_
                  refine lv_istore hx hb (i := 12) (lv' := [(12, .int (iI 1)), (11, .int (iI 0)), (10, .int (iI z)), (9, .int (iI v)), (8, .int (iI (cel (τ 4) (0 + ((j : Int) / 2) * 6 + (1 + ((j : Int) % 2)))))), (7, .int (iI (j : Int))), (6, .int (iI (g24 (lkF (τ 4)) 24))), (5, .int (iI (g24 (tgF (τ 4)) 24))), (4, .int (iI (sm (fun k => cel (τ 4) (0 + (k : Int) * 6 + 4)) N))), (3, .int (iI (sm (fun k => b2 (cel (τ 4) (0 + (k : Int) * 6 + 0) = 0)) N))), (2, .int (iI (sm (fun k => cel (τ 4) (0 + (k : Int) * 6 + 3)) N))), (1, .int (iI (N : Int))), (0, .ref (ad 0))]) (by decide +kernel) hl (by decide) rfl (fun ls hl => ?_)
                  refine lv_iload hx hb (i := 11) (x := iI 0) (by decide +kernel) (lv_at hl 1 rfl) ?_
                  refine lz_if_ne hx hb (a := 0) (off := 8) (tgt := 466) (by decide +kernel) (by decide) ⟨by decide, by decide⟩ (fun h9 => absurd h9 (by decide)) (fun _ => ?_)
                  refine lv_iload hx hb (i := 12) (x := iI 1) (by decide +kernel) (lv_at hl 0 rfl) ?_
                  refine lz_if_eq hx hb (a := 1) (off := 8) (tgt := 471) (by decide +kernel) (by decide) ⟨by decide, by decide⟩ (fun h9 => absurd h9 (by decide)) (fun _ => ?_)
                  refine lv_iload hx hb (i := 10) (x := iI z) (by decide +kernel) (lv_at hl 2 rfl) ?_
                  refine lv_goto hx hb (off := 5) (tgt := 473) (by decide +kernel) (by decide) ?_
                  refine lv_istore hx hb (i := 9) (lv' := [(9, .int (iI z)), (12, .int (iI 1)), (11, .int (iI 0)), (10, .int (iI z)), (8, .int (iI (cel (τ 4) (0 + ((j : Int) / 2) * 6 + (1 + ((j : Int) % 2)))))), (7, .int (iI (j : Int))), (6, .int (iI (g24 (lkF (τ 4)) 24))), (5, .int (iI (g24 (tgF (τ 4)) 24))), (4, .int (iI (sm (fun k => cel (τ 4) (0 + (k : Int) * 6 + 4)) N))), (3, .int (iI (sm (fun k => b2 (cel (τ 4) (0 + (k : Int) * 6 + 0) = 0)) N))), (2, .int (iI (sm (fun k => cel (τ 4) (0 + (k : Int) * 6 + 3)) N))), (1, .int (iI (N : Int))), (0, .ref (ad 0))]) (by decide +kernel) hl (by decide) rfl (fun ls hl => ?_)
                  refine lv_iinc hx hb (i := 10) (n := (-1)) (v := iI (z + (-1))) (lv' := [(10, .int (iI (z + (-1)))), (9, .int (iI z)), (12, .int (iI 1)), (11, .int (iI 0)), (8, .int (iI (cel (τ 4) (0 + ((j : Int) / 2) * 6 + (1 + ((j : Int) % 2)))))), (7, .int (iI (j : Int))), (6, .int (iI (g24 (lkF (τ 4)) 24))), (5, .int (iI (g24 (tgF (τ 4)) 24))), (4, .int (iI (sm (fun k => cel (τ 4) (0 + (k : Int) * 6 + 4)) N))), (3, .int (iI (sm (fun k => b2 (cel (τ 4) (0 + (k : Int) * 6 + 0) = 0)) N))), (2, .int (iI (sm (fun k => cel (τ 4) (0 + (k : Int) * 6 + 3)) N))), (1, .int (iI (N : Int))), (0, .ref (ad 0))]) (by decide +kernel) hl (k := 3) rfl (iI_add _ _) (by decide) rfl (fun ls hl => ?_)
                  refine lv_goto hx hb (off := (-141)) (tgt := 337) (by decide +kernel) (by decide) ?_
                  exact ih2 (j2 + 1) _ _ ls _ _ _ _ (by omega) (by omega) (nrv_is (by omega) hz2 hsd (by omega)) (by omega) (by omega) (lv_sub hl [0, 1, 4, 5, 6, 7, 8, 9, 10, 11, 12] rfl) hw
        ·
          refine lv_aload_n hx hb (k := 0) (i := 0) (x := ad 0) (by decide +kernel) rfl (lv_at hl 10 rfl) ?_
          refine lv_iload hx hb (i := 7) (x := iI (j : Int)) (by decide +kernel) (lv_at hl 3 rfl) ?_
          refine lv_iconst hx hb (n := 2) (v := iI 2) (by decide +kernel) rfl ?_
          refine lz_irem hx hb (a := (j : Int)) (b := 2) (by decide +kernel) ⟨by omega, by omega, by omega, by omega⟩ ?_
          refine lv_iload hx hb (i := 8) (x := iI (cel (τ 4) (0 + ((j : Int) / 2) * 6 + (1 + ((j : Int) % 2))))) (by decide +kernel) (lv_at hl 2 rfl) ?_
          refine lv_iload hx hb (i := 10) (x := iI z) (by decide +kernel) (lv_at hl 0 rfl) ?_
          refine lz_iadd hx hb (a := (cel (τ 4) (0 + ((j : Int) / 2) * 6 + (1 + ((j : Int) % 2))))) (b := z) (by decide +kernel) ?_
          refine lk_callH (x := 237) (rest := []) (as := [.ref (ad 0), .int (iI ((j : Int) % 2)), .int (iI ((cel (τ 4) (0 + ((j : Int) / 2) * 6 + (1 + ((j : Int) % 2)))) + z))]) (n := 3) F hw hl.1 (K_lockAt (X := X) (τ := τ) (r := ((j : Int) % 2)) (p := ((cel (τ 4) (0 + ((j : Int) / 2) * 6 + (1 + ((j : Int) % 2)))) + z)) F.l0 (by omega) (by omega)) (lr69 16 rfl) (lr69 17 rfl) (lr69 18 rfl) (lr69 6 rfl) ⟨by decide, by decide, by decide +kernel⟩ rfl ⟨Nat.le_of_ble_eq_true rfl, Nat.le_of_ble_eq_true rfl, (by show _ ≤ 2400; omega), (by show _ ≤ 14400; omega)⟩ (Nat.le_of_ble_eq_true rfl) (by decide +kernel) rfl (fun v9 V9 hG H locs hw => ?_)
          obtain ⟨rfl, rfl⟩ := hG
          refine W.eq (g2 := F0 m 365 ls [.int (iI (usz (τ 4) ((j : Int) % 2) ((cel (τ 4) (0 + ((j : Int) / 2) * 6 + (1 + ((j : Int) % 2)))) + z)))]) rfl ?_
          refine lz_if_le hx hb (a := (usz (τ 4) ((j : Int) % 2) ((cel (τ 4) (0 + ((j : Int) / 2) * 6 + (1 + ((j : Int) % 2)))) + z))) (off := 32) (tgt := 397) (by decide +kernel) (by decide) ⟨by omega, by omega⟩ (fun h17 => ?_) (fun h17 => ?_)
          ·
            refine lv_iconst hx hb (n := 0) (v := iI 0) (by decide +kernel) rfl ?_
            refine lv_istore hx hb (i := 11) (lv' := [(11, .int (iI 0)), (10, .int (iI z)), (9, .int (iI v)), (8, .int (iI (cel (τ 4) (0 + ((j : Int) / 2) * 6 + (1 + ((j : Int) % 2)))))), (7, .int (iI (j : Int))), (6, .int (iI (g24 (lkF (τ 4)) 24))), (5, .int (iI (g24 (tgF (τ 4)) 24))), (4, .int (iI (sm (fun k => cel (τ 4) (0 + (k : Int) * 6 + 4)) N))), (3, .int (iI (sm (fun k => b2 (cel (τ 4) (0 + (k : Int) * 6 + 0) = 0)) N))), (2, .int (iI (sm (fun k => cel (τ 4) (0 + (k : Int) * 6 + 3)) N))), (1, .int (iI (N : Int))), (0, .ref (ad 0))]) (by decide +kernel) hl (by decide) rfl (fun ls hl => ?_)
            refine lv_iload hx hb (i := 8) (x := iI (cel (τ 4) (0 + ((j : Int) / 2) * 6 + (1 + ((j : Int) % 2))))) (by decide +kernel) (lv_at hl 3 rfl) ?_
            refine lv_iload hx hb (i := 10) (x := iI z) (by decide +kernel) (lv_at hl 1 rfl) ?_
            refine lz_icmp_lt hx hb (a := (cel (τ 4) (0 + ((j : Int) / 2) * 6 + (1 + ((j : Int) % 2))))) (b := z) (off := 49) (tgt := 453) (by decide +kernel) (by decide) ⟨by omega, by omega⟩ ⟨by omega, by omega⟩ (fun h18 => ?_) (fun h18 => ?_)
            ·
              refine lv_iconst hx hb (n := 0) (v := iI 0) (by decide +kernel) rfl ?_
              refine lv_istore hx hb (i := 12) (lv' := [(12, .int (iI 0)), (11, .int (iI 0)), (10, .int (iI z)), (9, .int (iI v)), (8, .int (iI (cel (τ 4) (0 + ((j : Int) / 2) * 6 + (1 + ((j : Int) % 2)))))), (7, .int (iI (j : Int))), (6, .int (iI (g24 (lkF (τ 4)) 24))), (5, .int (iI (g24 (tgF (τ 4)) 24))), (4, .int (iI (sm (fun k => cel (τ 4) (0 + (k : Int) * 6 + 4)) N))), (3, .int (iI (sm (fun k => b2 (cel (τ 4) (0 + (k : Int) * 6 + 0) = 0)) N))), (2, .int (iI (sm (fun k => cel (τ 4) (0 + (k : Int) * 6 + 3)) N))), (1, .int (iI (N : Int))), (0, .ref (ad 0))]) (by decide +kernel) hl (by decide) rfl (fun ls hl => ?_)
              refine lv_iload hx hb (i := 11) (x := iI 0) (by decide +kernel) (lv_at hl 1 rfl) ?_
              refine lz_if_ne hx hb (a := 0) (off := 8) (tgt := 466) (by decide +kernel) (by decide) ⟨by decide, by decide⟩ (fun h9 => absurd h9 (by decide)) (fun _ => ?_)
              refine lv_iload hx hb (i := 12) (x := iI 0) (by decide +kernel) (lv_at hl 0 rfl) ?_
              refine lz_if_eq hx hb (a := 0) (off := 8) (tgt := 471) (by decide +kernel) (by decide) ⟨by decide, by decide⟩ (fun _ => ?_) (fun h9 => absurd (by decide) h9)
              refine lv_iload hx hb (i := 9) (x := iI v) (by decide +kernel) (lv_at hl 3 rfl) ?_
              refine lv_istore hx hb (i := 9) (lv' := [(9, .int (iI v)), (12, .int (iI 0)), (11, .int (iI 0)), (10, .int (iI z)), (8, .int (iI (cel (τ 4) (0 + ((j : Int) / 2) * 6 + (1 + ((j : Int) % 2)))))), (7, .int (iI (j : Int))), (6, .int (iI (g24 (lkF (τ 4)) 24))), (5, .int (iI (g24 (tgF (τ 4)) 24))), (4, .int (iI (sm (fun k => cel (τ 4) (0 + (k : Int) * 6 + 4)) N))), (3, .int (iI (sm (fun k => b2 (cel (τ 4) (0 + (k : Int) * 6 + 0) = 0)) N))), (2, .int (iI (sm (fun k => cel (τ 4) (0 + (k : Int) * 6 + 3)) N))), (1, .int (iI (N : Int))), (0, .ref (ad 0))]) (by decide +kernel) hl (by decide) rfl (fun ls hl => ?_)
              refine lv_iinc hx hb (i := 10) (n := (-1)) (v := iI (z + (-1))) (lv' := [(10, .int (iI (z + (-1)))), (9, .int (iI v)), (12, .int (iI 0)), (11, .int (iI 0)), (8, .int (iI (cel (τ 4) (0 + ((j : Int) / 2) * 6 + (1 + ((j : Int) % 2)))))), (7, .int (iI (j : Int))), (6, .int (iI (g24 (lkF (τ 4)) 24))), (5, .int (iI (g24 (tgF (τ 4)) 24))), (4, .int (iI (sm (fun k => cel (τ 4) (0 + (k : Int) * 6 + 4)) N))), (3, .int (iI (sm (fun k => b2 (cel (τ 4) (0 + (k : Int) * 6 + 0) = 0)) N))), (2, .int (iI (sm (fun k => cel (τ 4) (0 + (k : Int) * 6 + 3)) N))), (1, .int (iI (N : Int))), (0, .ref (ad 0))]) (by decide +kernel) hl (k := 3) rfl (iI_add _ _) (by decide) rfl (fun ls hl => ?_)
              refine lv_goto hx hb (off := (-141)) (tgt := 337) (by decide +kernel) (by decide) ?_
              exact ih2 (j2 + 1) _ _ ls _ _ _ _ (by omega) (by omega) (nrv_is (by omega) hz2 hsd (by omega)) (by omega) (by omega) (lv_sub hl [0, 1, 4, 5, 6, 7, 8, 9, 10, 11, 12] rfl) hw
            ·
              refine lv_aload_n hx hb (k := 0) (i := 0) (x := ad 0) (by decide +kernel) rfl (lv_at hl 11 rfl) ?_
              refine lv_iload hx hb (i := 7) (x := iI (j : Int)) (by decide +kernel) (lv_at hl 4 rfl) ?_
              refine lv_iconst hx hb (n := 2) (v := iI 2) (by decide +kernel) rfl ?_
              refine lz_irem hx hb (a := (j : Int)) (b := 2) (by decide +kernel) ⟨by omega, by omega, by omega, by omega⟩ ?_
              refine lv_iload hx hb (i := 8) (x := iI (cel (τ 4) (0 + ((j : Int) / 2) * 6 + (1 + ((j : Int) % 2))))) (by decide +kernel) (lv_at hl 3 rfl) ?_
              refine lv_iload hx hb (i := 10) (x := iI z) (by decide +kernel) (lv_at hl 1 rfl) ?_
              refine lz_isub hx hb (a := (cel (τ 4) (0 + ((j : Int) / 2) * 6 + (1 + ((j : Int) % 2))))) (b := z) (by decide +kernel) ?_
              refine lk_callH (x := 237) (rest := []) (as := [.ref (ad 0), .int (iI ((j : Int) % 2)), .int (iI ((cel (τ 4) (0 + ((j : Int) / 2) * 6 + (1 + ((j : Int) % 2)))) - z))]) (n := 3) F hw hl.1 (K_lockAt (X := X) (τ := τ) (r := ((j : Int) % 2)) (p := ((cel (τ 4) (0 + ((j : Int) / 2) * 6 + (1 + ((j : Int) % 2)))) - z)) F.l0 (by omega) (by omega)) (lr69 16 rfl) (lr69 17 rfl) (lr69 18 rfl) (lr69 6 rfl) ⟨by decide, by decide, by decide +kernel⟩ rfl ⟨Nat.le_of_ble_eq_true rfl, Nat.le_of_ble_eq_true rfl, (by show _ ≤ 2400; omega), (by show _ ≤ 14400; omega)⟩ (Nat.le_of_ble_eq_true rfl) (by decide +kernel) rfl (fun v9 V9 hG H locs hw => ?_)
              obtain ⟨rfl, rfl⟩ := hG
              refine W.eq (g2 := F0 m 420 ls [.int (iI (usz (τ 4) ((j : Int) % 2) ((cel (τ 4) (0 + ((j : Int) / 2) * 6 + (1 + ((j : Int) % 2)))) - z)))]) rfl ?_
              refine lz_if_le hx hb (a := (usz (τ 4) ((j : Int) % 2) ((cel (τ 4) (0 + ((j : Int) / 2) * 6 + (1 + ((j : Int) % 2)))) - z))) (off := 33) (tgt := 453) (by decide +kernel) (by decide) ⟨by omega, by omega⟩ (fun h21 => ?_) (fun h21 => ?_)
              ·
                refine lv_iconst hx hb (n := 0) (v := iI 0) (by decide +kernel) rfl ?_
                refine lv_istore hx hb (i := 12) (lv' := [(12, .int (iI 0)), (11, .int (iI 0)), (10, .int (iI z)), (9, .int (iI v)), (8, .int (iI (cel (τ 4) (0 + ((j : Int) / 2) * 6 + (1 + ((j : Int) % 2)))))), (7, .int (iI (j : Int))), (6, .int (iI (g24 (lkF (τ 4)) 24))), (5, .int (iI (g24 (tgF (τ 4)) 24))), (4, .int (iI (sm (fun k => cel (τ 4) (0 + (k : Int) * 6 + 4)) N))), (3, .int (iI (sm (fun k => b2 (cel (τ 4) (0 + (k : Int) * 6 + 0) = 0)) N))), (2, .int (iI (sm (fun k => cel (τ 4) (0 + (k : Int) * 6 + 3)) N))), (1, .int (iI (N : Int))), (0, .ref (ad 0))]) (by decide +kernel) hl (by decide) rfl (fun ls hl => ?_)
                refine lv_iload hx hb (i := 11) (x := iI 0) (by decide +kernel) (lv_at hl 1 rfl) ?_
                refine lz_if_ne hx hb (a := 0) (off := 8) (tgt := 466) (by decide +kernel) (by decide) ⟨by decide, by decide⟩ (fun h9 => absurd h9 (by decide)) (fun _ => ?_)
                refine lv_iload hx hb (i := 12) (x := iI 0) (by decide +kernel) (lv_at hl 0 rfl) ?_
                refine lz_if_eq hx hb (a := 0) (off := 8) (tgt := 471) (by decide +kernel) (by decide) ⟨by decide, by decide⟩ (fun _ => ?_) (fun h9 => absurd (by decide) h9)
                refine lv_iload hx hb (i := 9) (x := iI v) (by decide +kernel) (lv_at hl 3 rfl) ?_
                refine lv_istore hx hb (i := 9) (lv' := [(9, .int (iI v)), (12, .int (iI 0)), (11, .int (iI 0)), (10, .int (iI z)), (8, .int (iI (cel (τ 4) (0 + ((j : Int) / 2) * 6 + (1 + ((j : Int) % 2)))))), (7, .int (iI (j : Int))), (6, .int (iI (g24 (lkF (τ 4)) 24))), (5, .int (iI (g24 (tgF (τ 4)) 24))), (4, .int (iI (sm (fun k => cel (τ 4) (0 + (k : Int) * 6 + 4)) N))), (3, .int (iI (sm (fun k => b2 (cel (τ 4) (0 + (k : Int) * 6 + 0) = 0)) N))), (2, .int (iI (sm (fun k => cel (τ 4) (0 + (k : Int) * 6 + 3)) N))), (1, .int (iI (N : Int))), (0, .ref (ad 0))]) (by decide +kernel) hl (by decide) rfl (fun ls hl => ?_)
                refine lv_iinc hx hb (i := 10) (n := (-1)) (v := iI (z + (-1))) (lv' := [(10, .int (iI (z + (-1)))), (9, .int (iI v)), (12, .int (iI 0)), (11, .int (iI 0)), (8, .int (iI (cel (τ 4) (0 + ((j : Int) / 2) * 6 + (1 + ((j : Int) % 2)))))), (7, .int (iI (j : Int))), (6, .int (iI (g24 (lkF (τ 4)) 24))), (5, .int (iI (g24 (tgF (τ 4)) 24))), (4, .int (iI (sm (fun k => cel (τ 4) (0 + (k : Int) * 6 + 4)) N))), (3, .int (iI (sm (fun k => b2 (cel (τ 4) (0 + (k : Int) * 6 + 0) = 0)) N))), (2, .int (iI (sm (fun k => cel (τ 4) (0 + (k : Int) * 6 + 3)) N))), (1, .int (iI (N : Int))), (0, .ref (ad 0))]) (by decide +kernel) hl (k := 3) rfl (iI_add _ _) (by decide) rfl (fun ls hl => ?_)
                refine lv_goto hx hb (off := (-141)) (tgt := 337) (by decide +kernel) (by decide) ?_
                exact ih2 (j2 + 1) _ _ ls _ _ _ _ (by omega) (by omega) (nrv_is (by omega) hz2 hsd (by omega)) (by omega) (by omega) (lv_sub hl [0, 1, 4, 5, 6, 7, 8, 9, 10, 11, 12] rfl) hw
              ·
                refine lv_aload_n hx hb (k := 0) (i := 0) (x := ad 0) (by decide +kernel) rfl (lv_at hl 11 rfl) ?_
                refine lv_iload hx hb (i := 7) (x := iI (j : Int)) (by decide +kernel) (lv_at hl 4 rfl) ?_
                refine lv_iconst hx hb (n := 2) (v := iI 2) (by decide +kernel) rfl ?_
                refine lz_idiv hx hb (a := (j : Int)) (b := 2) (by decide +kernel) ⟨by omega, by omega, by omega, by omega⟩ ?_
                refine lv_iconst hx hb (n := 0) (v := iI 0) (by decide +kernel) rfl ?_
                refine lk_callH (x := 163) (rest := []) (as := [.ref (ad 0), .int (iI ((j : Int) / 2)), .int (iI 0)]) (n := 3) F hw hl.1 (K_of (X := X) (τ := τ) (f := ((j : Int) / 2)) (w := 0) (B := B) F.l0 (by omega) (by omega) hS) (lr69 22 rfl) (lr69 23 rfl) (lr69 24 rfl) (lr69 6 rfl) ⟨by decide, by decide, by decide +kernel⟩ rfl ⟨Nat.le_of_ble_eq_true rfl, Nat.le_of_ble_eq_true rfl, (by show _ ≤ 2400; omega), (by show _ ≤ 14400; omega)⟩ (Nat.le_of_ble_eq_true rfl) (by decide +kernel) rfl (fun v9 V9 hG H locs hw => ?_)
                obtain ⟨rfl, rfl⟩ := hG
                refine W.eq (g2 := F0 m 432 ls [.int (iI (cel (τ 4) (0 + ((j : Int) / 2) * 6 + 0)))]) rfl ?_
                refine lv_iconst hx hb (n := 1) (v := iI 1) (by decide +kernel) rfl ?_
                refine lz_icmp_eq hx hb (a := (cel (τ 4) (0 + ((j : Int) / 2) * 6 + 0))) (b := 1) (off := 16) (tgt := 449) (by decide +kernel) (by decide) ⟨by omega, by omega⟩ ⟨by decide, by decide⟩ (fun h24 => ?_) (fun h24 => ?_)
                ·
                  refine lv_iconst hx hb (n := 1) (v := iI 1) (by decide +kernel) rfl ?_
                  refine lv_goto hx hb (off := 4) (tgt := 454) (by decide +kernel) (by decide) ?_
                  refine lv_istore hx hb (i := 12) (lv' := [(12, .int (iI 1)), (11, .int (iI 0)), (10, .int (iI z)), (9, .int (iI v)), (8, .int (iI (cel (τ 4) (0 + ((j : Int) / 2) * 6 + (1 + ((j : Int) % 2)))))), (7, .int (iI (j : Int))), (6, .int (iI (g24 (lkF (τ 4)) 24))), (5, .int (iI (g24 (tgF (τ 4)) 24))), (4, .int (iI (sm (fun k => cel (τ 4) (0 + (k : Int) * 6 + 4)) N))), (3, .int (iI (sm (fun k => b2 (cel (τ 4) (0 + (k : Int) * 6 + 0) = 0)) N))), (2, .int (iI (sm (fun k => cel (τ 4) (0 + (k : Int) * 6 + 3)) N))), (1, .int (iI (N : Int))), (0, .ref (ad 0))]) (by decide +kernel) hl (by decide) rfl (fun ls hl => ?_)
                  refine lv_iload hx hb (i := 11) (x := iI 0) (by decide +kernel) (lv_at hl 1 rfl) ?_
                  refine lz_if_ne hx hb (a := 0) (off := 8) (tgt := 466) (by decide +kernel) (by decide) ⟨by decide, by decide⟩ (fun h9 => absurd h9 (by decide)) (fun _ => ?_)
                  refine lv_iload hx hb (i := 12) (x := iI 1) (by decide +kernel) (lv_at hl 0 rfl) ?_
                  refine lz_if_eq hx hb (a := 1) (off := 8) (tgt := 471) (by decide +kernel) (by decide) ⟨by decide, by decide⟩ (fun h9 => absurd h9 (by decide)) (fun _ => ?_)
                  refine lv_iload hx hb (i := 10) (x := iI z) (by decide +kernel) (lv_at hl 2 rfl) ?_
                  refine lv_goto hx hb (off := 5) (tgt := 473) (by decide +kernel) (by decide) ?_
                  refine lv_istore hx hb (i := 9) (lv' := [(9, .int (iI z)), (12, .int (iI 1)), (11, .int (iI 0)), (10, .int (iI z)), (8, .int (iI (cel (τ 4) (0 + ((j : Int) / 2) * 6 + (1 + ((j : Int) % 2)))))), (7, .int (iI (j : Int))), (6, .int (iI (g24 (lkF (τ 4)) 24))), (5, .int (iI (g24 (tgF (τ 4)) 24))), (4, .int (iI (sm (fun k => cel (τ 4) (0 + (k : Int) * 6 + 4)) N))), (3, .int (iI (sm (fun k => b2 (cel (τ 4) (0 + (k : Int) * 6 + 0) = 0)) N))), (2, .int (iI (sm (fun k => cel (τ 4) (0 + (k : Int) * 6 + 3)) N))), (1, .int (iI (N : Int))), (0, .ref (ad 0))]) (by decide +kernel) hl (by decide) rfl (fun ls hl => ?_)
                  refine lv_iinc hx hb (i := 10) (n := (-1)) (v := iI (z + (-1))) (lv' := [(10, .int (iI (z + (-1)))), (9, .int (iI z)), (12, .int (iI 1)), (11, .int (iI 0)), (8, .int (iI (cel (τ 4) (0 + ((j : Int) / 2) * 6 + (1 + ((j : Int) % 2)))))), (7, .int (iI (j : Int))), (6, .int (iI (g24 (lkF (τ 4)) 24))), (5, .int (iI (g24 (tgF (τ 4)) 24))), (4, .int (iI (sm (fun k => cel (τ 4) (0 + (k : Int) * 6 + 4)) N))), (3, .int (iI (sm (fun k => b2 (cel (τ 4) (0 + (k : Int) * 6 + 0) = 0)) N))), (2, .int (iI (sm (fun k => cel (τ 4) (0 + (k : Int) * 6 + 3)) N))), (1, .int (iI (N : Int))), (0, .ref (ad 0))]) (by decide +kernel) hl (k := 3) rfl (iI_add _ _) (by decide) rfl (fun ls hl => ?_)
                  refine lv_goto hx hb (off := (-141)) (tgt := 337) (by decide +kernel) (by decide) ?_
                  exact ih2 (j2 + 1) _ _ ls _ _ _ _ (by omega) (by omega) (nrv_is (by omega) hz2 hsd (by omega)) (by omega) (by omega) (lv_sub hl [0, 1, 4, 5, 6, 7, 8, 9, 10, 11, 12] rfl) hw
                ·
                  refine lv_aload_n hx hb (k := 0) (i := 0) (x := ad 0) (by decide +kernel) rfl (lv_at hl 11 rfl) ?_
                  refine lv_iload hx hb (i := 7) (x := iI (j : Int)) (by decide +kernel) (lv_at hl 4 rfl) ?_
                  refine lv_iconst hx hb (n := 2) (v := iI 2) (by decide +kernel) rfl ?_
                  refine lz_idiv hx hb (a := (j : Int)) (b := 2) (by decide +kernel) ⟨by omega, by omega, by omega, by omega⟩ ?_
                  refine lv_iconst hx hb (n := 3) (v := iI 3) (by decide +kernel) rfl ?_
                  refine lk_callH (x := 163) (rest := []) (as := [.ref (ad 0), .int (iI ((j : Int) / 2)), .int (iI 3)]) (n := 3) F hw hl.1 (K_of (X := X) (τ := τ) (f := ((j : Int) / 2)) (w := 3) (B := B) F.l0 (by omega) (by omega) hS) (lr69 22 rfl) (lr69 23 rfl) (lr69 24 rfl) (lr69 6 rfl) ⟨by decide, by decide, by decide +kernel⟩ rfl ⟨Nat.le_of_ble_eq_true rfl, Nat.le_of_ble_eq_true rfl, (by show _ ≤ 2400; omega), (by show _ ≤ 14400; omega)⟩ (Nat.le_of_ble_eq_true rfl) (by decide +kernel) rfl (fun v9 V9 hG H locs hw => ?_)
                  obtain ⟨rfl, rfl⟩ := hG
                  refine W.eq (g2 := F0 m 445 ls [.int (iI (cel (τ 4) (0 + ((j : Int) / 2) * 6 + 3)))]) rfl ?_
                  refine lv_iconst hx hb (n := 1) (v := iI 1) (by decide +kernel) rfl ?_
                  refine lz_icmp_ne hx hb (a := (cel (τ 4) (0 + ((j : Int) / 2) * 6 + 3))) (b := 1) (off := 7) (tgt := 453) (by decide +kernel) (by decide) ⟨by omega, by omega⟩ ⟨by decide, by decide⟩ (fun h27 => ?_) (fun h27 => ?_)
                  ·
                    refine lv_iconst hx hb (n := 0) (v := iI 0) (by decide +kernel) rfl ?_
                    refine lv_istore hx hb (i := 12) (lv' := [(12, .int (iI 0)), (11, .int (iI 0)), (10, .int (iI z)), (9, .int (iI v)), (8, .int (iI (cel (τ 4) (0 + ((j : Int) / 2) * 6 + (1 + ((j : Int) % 2)))))), (7, .int (iI (j : Int))), (6, .int (iI (g24 (lkF (τ 4)) 24))), (5, .int (iI (g24 (tgF (τ 4)) 24))), (4, .int (iI (sm (fun k => cel (τ 4) (0 + (k : Int) * 6 + 4)) N))), (3, .int (iI (sm (fun k => b2 (cel (τ 4) (0 + (k : Int) * 6 + 0) = 0)) N))), (2, .int (iI (sm (fun k => cel (τ 4) (0 + (k : Int) * 6 + 3)) N))), (1, .int (iI (N : Int))), (0, .ref (ad 0))]) (by decide +kernel) hl (by decide) rfl (fun ls hl => ?_)
                    refine lv_iload hx hb (i := 11) (x := iI 0) (by decide +kernel) (lv_at hl 1 rfl) ?_
                    refine lz_if_ne hx hb (a := 0) (off := 8) (tgt := 466) (by decide +kernel) (by decide) ⟨by decide, by decide⟩ (fun h9 => absurd h9 (by decide)) (fun _ => ?_)
                    refine lv_iload hx hb (i := 12) (x := iI 0) (by decide +kernel) (lv_at hl 0 rfl) ?_
                    refine lz_if_eq hx hb (a := 0) (off := 8) (tgt := 471) (by decide +kernel) (by decide) ⟨by decide, by decide⟩ (fun _ => ?_) (fun h9 => absurd (by decide) h9)
                    refine lv_iload hx hb (i := 9) (x := iI v) (by decide +kernel) (lv_at hl 3 rfl) ?_
                    refine lv_istore hx hb (i := 9) (lv' := [(9, .int (iI v)), (12, .int (iI 0)), (11, .int (iI 0)), (10, .int (iI z)), (8, .int (iI (cel (τ 4) (0 + ((j : Int) / 2) * 6 + (1 + ((j : Int) % 2)))))), (7, .int (iI (j : Int))), (6, .int (iI (g24 (lkF (τ 4)) 24))), (5, .int (iI (g24 (tgF (τ 4)) 24))), (4, .int (iI (sm (fun k => cel (τ 4) (0 + (k : Int) * 6 + 4)) N))), (3, .int (iI (sm (fun k => b2 (cel (τ 4) (0 + (k : Int) * 6 + 0) = 0)) N))), (2, .int (iI (sm (fun k => cel (τ 4) (0 + (k : Int) * 6 + 3)) N))), (1, .int (iI (N : Int))), (0, .ref (ad 0))]) (by decide +kernel) hl (by decide) rfl (fun ls hl => ?_)
                    refine lv_iinc hx hb (i := 10) (n := (-1)) (v := iI (z + (-1))) (lv' := [(10, .int (iI (z + (-1)))), (9, .int (iI v)), (12, .int (iI 0)), (11, .int (iI 0)), (8, .int (iI (cel (τ 4) (0 + ((j : Int) / 2) * 6 + (1 + ((j : Int) % 2)))))), (7, .int (iI (j : Int))), (6, .int (iI (g24 (lkF (τ 4)) 24))), (5, .int (iI (g24 (tgF (τ 4)) 24))), (4, .int (iI (sm (fun k => cel (τ 4) (0 + (k : Int) * 6 + 4)) N))), (3, .int (iI (sm (fun k => b2 (cel (τ 4) (0 + (k : Int) * 6 + 0) = 0)) N))), (2, .int (iI (sm (fun k => cel (τ 4) (0 + (k : Int) * 6 + 3)) N))), (1, .int (iI (N : Int))), (0, .ref (ad 0))]) (by decide +kernel) hl (k := 3) rfl (iI_add _ _) (by decide) rfl (fun ls hl => ?_)
                    refine lv_goto hx hb (off := (-141)) (tgt := 337) (by decide +kernel) (by decide) ?_
                    exact ih2 (j2 + 1) _ _ ls _ _ _ _ (by omega) (by omega) (nrv_is (by omega) hz2 hsd (by omega)) (by omega) (by omega) (lv_sub hl [0, 1, 4, 5, 6, 7, 8, 9, 10, 11, 12] rfl) hw
                  ·
                    refine lv_iconst hx hb (n := 1) (v := iI 1) (by decide +kernel) rfl ?_
                    refine lv_goto hx hb (off := 4) (tgt := 454) (by decide +kernel) (by decide) ?_
                    refine lv_istore hx hb (i := 12) (lv' := [(12, .int (iI 1)), (11, .int (iI 0)), (10, .int (iI z)), (9, .int (iI v)), (8, .int (iI (cel (τ 4) (0 + ((j : Int) / 2) * 6 + (1 + ((j : Int) % 2)))))), (7, .int (iI (j : Int))), (6, .int (iI (g24 (lkF (τ 4)) 24))), (5, .int (iI (g24 (tgF (τ 4)) 24))), (4, .int (iI (sm (fun k => cel (τ 4) (0 + (k : Int) * 6 + 4)) N))), (3, .int (iI (sm (fun k => b2 (cel (τ 4) (0 + (k : Int) * 6 + 0) = 0)) N))), (2, .int (iI (sm (fun k => cel (τ 4) (0 + (k : Int) * 6 + 3)) N))), (1, .int (iI (N : Int))), (0, .ref (ad 0))]) (by decide +kernel) hl (by decide) rfl (fun ls hl => ?_)
                    refine lv_iload hx hb (i := 11) (x := iI 0) (by decide +kernel) (lv_at hl 1 rfl) ?_
                    refine lz_if_ne hx hb (a := 0) (off := 8) (tgt := 466) (by decide +kernel) (by decide) ⟨by decide, by decide⟩ (fun h9 => absurd h9 (by decide)) (fun _ => ?_)
                    refine lv_iload hx hb (i := 12) (x := iI 1) (by decide +kernel) (lv_at hl 0 rfl) ?_
                    refine lz_if_eq hx hb (a := 1) (off := 8) (tgt := 471) (by decide +kernel) (by decide) ⟨by decide, by decide⟩ (fun h9 => absurd h9 (by decide)) (fun _ => ?_)
                    refine lv_iload hx hb (i := 10) (x := iI z) (by decide +kernel) (lv_at hl 2 rfl) ?_
                    refine lv_goto hx hb (off := 5) (tgt := 473) (by decide +kernel) (by decide) ?_
                    refine lv_istore hx hb (i := 9) (lv' := [(9, .int (iI z)), (12, .int (iI 1)), (11, .int (iI 0)), (10, .int (iI z)), (8, .int (iI (cel (τ 4) (0 + ((j : Int) / 2) * 6 + (1 + ((j : Int) % 2)))))), (7, .int (iI (j : Int))), (6, .int (iI (g24 (lkF (τ 4)) 24))), (5, .int (iI (g24 (tgF (τ 4)) 24))), (4, .int (iI (sm (fun k => cel (τ 4) (0 + (k : Int) * 6 + 4)) N))), (3, .int (iI (sm (fun k => b2 (cel (τ 4) (0 + (k : Int) * 6 + 0) = 0)) N))), (2, .int (iI (sm (fun k => cel (τ 4) (0 + (k : Int) * 6 + 3)) N))), (1, .int (iI (N : Int))), (0, .ref (ad 0))]) (by decide +kernel) hl (by decide) rfl (fun ls hl => ?_)
                    refine lv_iinc hx hb (i := 10) (n := (-1)) (v := iI (z + (-1))) (lv' := [(10, .int (iI (z + (-1)))), (9, .int (iI z)), (12, .int (iI 1)), (11, .int (iI 0)), (8, .int (iI (cel (τ 4) (0 + ((j : Int) / 2) * 6 + (1 + ((j : Int) % 2)))))), (7, .int (iI (j : Int))), (6, .int (iI (g24 (lkF (τ 4)) 24))), (5, .int (iI (g24 (tgF (τ 4)) 24))), (4, .int (iI (sm (fun k => cel (τ 4) (0 + (k : Int) * 6 + 4)) N))), (3, .int (iI (sm (fun k => b2 (cel (τ 4) (0 + (k : Int) * 6 + 0) = 0)) N))), (2, .int (iI (sm (fun k => cel (τ 4) (0 + (k : Int) * 6 + 3)) N))), (1, .int (iI (N : Int))), (0, .ref (ad 0))]) (by decide +kernel) hl (k := 3) rfl (iI_add _ _) (by decide) rfl (fun ls hl => ?_)
                    refine lv_goto hx hb (off := (-141)) (tgt := 337) (by decide +kernel) (by decide) ?_
                    exact ih2 (j2 + 1) _ _ ls _ _ _ _ (by omega) (by omega) (nrv_is (by omega) hz2 hsd (by omega)) (by omega) (by omega) (lv_sub hl [0, 1, 4, 5, 6, 7, 8, 9, 10, 11, 12] rfl) hw
          ·
            refine lv_aload_n hx hb (k := 0) (i := 0) (x := ad 0) (by decide +kernel) rfl (lv_at hl 10 rfl) ?_
            refine lv_iload hx hb (i := 7) (x := iI (j : Int)) (by decide +kernel) (lv_at hl 3 rfl) ?_
            refine lv_iconst hx hb (n := 2) (v := iI 2) (by decide +kernel) rfl ?_
            refine lz_idiv hx hb (a := (j : Int)) (b := 2) (by decide +kernel) ⟨by omega, by omega, by omega, by omega⟩ ?_
            refine lv_iconst hx hb (n := 0) (v := iI 0) (by decide +kernel) rfl ?_
            refine lk_callH (x := 163) (rest := []) (as := [.ref (ad 0), .int (iI ((j : Int) / 2)), .int (iI 0)]) (n := 3) F hw hl.1 (K_of (X := X) (τ := τ) (f := ((j : Int) / 2)) (w := 0) (B := B) F.l0 (by omega) (by omega) hS) (lr69 22 rfl) (lr69 23 rfl) (lr69 24 rfl) (lr69 6 rfl) ⟨by decide, by decide, by decide +kernel⟩ rfl ⟨Nat.le_of_ble_eq_true rfl, Nat.le_of_ble_eq_true rfl, (by show _ ≤ 2400; omega), (by show _ ≤ 14400; omega)⟩ (Nat.le_of_ble_eq_true rfl) (by decide +kernel) rfl (fun v9 V9 hG H locs hw => ?_)
            obtain ⟨rfl, rfl⟩ := hG
            refine W.eq (g2 := F0 m 377 ls [.int (iI (cel (τ 4) (0 + ((j : Int) / 2) * 6 + 0)))]) rfl ?_
            refine lz_if_eq hx hb (a := (cel (τ 4) (0 + ((j : Int) / 2) * 6 + 0))) (off := 16) (tgt := 393) (by decide +kernel) (by decide) ⟨by omega, by omega⟩ (fun h32 => ?_) (fun h32 => ?_)
            ·
              refine lv_iconst hx hb (n := 1) (v := iI 1) (by decide +kernel) rfl ?_
              refine lv_goto hx hb (off := 4) (tgt := 398) (by decide +kernel) (by decide) ?_
              refine lv_istore hx hb (i := 11) (lv' := [(11, .int (iI 1)), (10, .int (iI z)), (9, .int (iI v)), (8, .int (iI (cel (τ 4) (0 + ((j : Int) / 2) * 6 + (1 + ((j : Int) % 2)))))), (7, .int (iI (j : Int))), (6, .int (iI (g24 (lkF (τ 4)) 24))), (5, .int (iI (g24 (tgF (τ 4)) 24))), (4, .int (iI (sm (fun k => cel (τ 4) (0 + (k : Int) * 6 + 4)) N))), (3, .int (iI (sm (fun k => b2 (cel (τ 4) (0 + (k : Int) * 6 + 0) = 0)) N))), (2, .int (iI (sm (fun k => cel (τ 4) (0 + (k : Int) * 6 + 3)) N))), (1, .int (iI (N : Int))), (0, .ref (ad 0))]) (by decide +kernel) hl (by decide) rfl (fun ls hl => ?_)
              refine lv_iload hx hb (i := 8) (x := iI (cel (τ 4) (0 + ((j : Int) / 2) * 6 + (1 + ((j : Int) % 2))))) (by decide +kernel) (lv_at hl 3 rfl) ?_
              refine lv_iload hx hb (i := 10) (x := iI z) (by decide +kernel) (lv_at hl 1 rfl) ?_
              refine lz_icmp_lt hx hb (a := (cel (τ 4) (0 + ((j : Int) / 2) * 6 + (1 + ((j : Int) % 2))))) (b := z) (off := 49) (tgt := 453) (by decide +kernel) (by decide) ⟨by omega, by omega⟩ ⟨by omega, by omega⟩ (fun h33 => ?_) (fun h33 => ?_)
              ·
                refine lv_iconst hx hb (n := 0) (v := iI 0) (by decide +kernel) rfl ?_
                refine lv_istore hx hb (i := 12) (lv' := [(12, .int (iI 0)), (11, .int (iI 1)), (10, .int (iI z)), (9, .int (iI v)), (8, .int (iI (cel (τ 4) (0 + ((j : Int) / 2) * 6 + (1 + ((j : Int) % 2)))))), (7, .int (iI (j : Int))), (6, .int (iI (g24 (lkF (τ 4)) 24))), (5, .int (iI (g24 (tgF (τ 4)) 24))), (4, .int (iI (sm (fun k => cel (τ 4) (0 + (k : Int) * 6 + 4)) N))), (3, .int (iI (sm (fun k => b2 (cel (τ 4) (0 + (k : Int) * 6 + 0) = 0)) N))), (2, .int (iI (sm (fun k => cel (τ 4) (0 + (k : Int) * 6 + 3)) N))), (1, .int (iI (N : Int))), (0, .ref (ad 0))]) (by decide +kernel) hl (by decide) rfl (fun ls hl => ?_)
                refine lv_iload hx hb (i := 11) (x := iI 1) (by decide +kernel) (lv_at hl 1 rfl) ?_
                refine lz_if_ne hx hb (a := 1) (off := 8) (tgt := 466) (by decide +kernel) (by decide) ⟨by decide, by decide⟩ (fun _ => ?_) (fun h9 => absurd (by decide) h9)
                refine lv_iload hx hb (i := 10) (x := iI z) (by decide +kernel) (lv_at hl 2 rfl) ?_
                refine lv_goto hx hb (off := 5) (tgt := 473) (by decide +kernel) (by decide) ?_
                refine lv_istore hx hb (i := 9) (lv' := [(9, .int (iI z)), (12, .int (iI 0)), (11, .int (iI 1)), (10, .int (iI z)), (8, .int (iI (cel (τ 4) (0 + ((j : Int) / 2) * 6 + (1 + ((j : Int) % 2)))))), (7, .int (iI (j : Int))), (6, .int (iI (g24 (lkF (τ 4)) 24))), (5, .int (iI (g24 (tgF (τ 4)) 24))), (4, .int (iI (sm (fun k => cel (τ 4) (0 + (k : Int) * 6 + 4)) N))), (3, .int (iI (sm (fun k => b2 (cel (τ 4) (0 + (k : Int) * 6 + 0) = 0)) N))), (2, .int (iI (sm (fun k => cel (τ 4) (0 + (k : Int) * 6 + 3)) N))), (1, .int (iI (N : Int))), (0, .ref (ad 0))]) (by decide +kernel) hl (by decide) rfl (fun ls hl => ?_)
                refine lv_iinc hx hb (i := 10) (n := (-1)) (v := iI (z + (-1))) (lv' := [(10, .int (iI (z + (-1)))), (9, .int (iI z)), (12, .int (iI 0)), (11, .int (iI 1)), (8, .int (iI (cel (τ 4) (0 + ((j : Int) / 2) * 6 + (1 + ((j : Int) % 2)))))), (7, .int (iI (j : Int))), (6, .int (iI (g24 (lkF (τ 4)) 24))), (5, .int (iI (g24 (tgF (τ 4)) 24))), (4, .int (iI (sm (fun k => cel (τ 4) (0 + (k : Int) * 6 + 4)) N))), (3, .int (iI (sm (fun k => b2 (cel (τ 4) (0 + (k : Int) * 6 + 0) = 0)) N))), (2, .int (iI (sm (fun k => cel (τ 4) (0 + (k : Int) * 6 + 3)) N))), (1, .int (iI (N : Int))), (0, .ref (ad 0))]) (by decide +kernel) hl (k := 3) rfl (iI_add _ _) (by decide) rfl (fun ls hl => ?_)
                refine lv_goto hx hb (off := (-141)) (tgt := 337) (by decide +kernel) (by decide) ?_
                exact ih2 (j2 + 1) _ _ ls _ _ _ _ (by omega) (by omega) (nrv_is (by omega) hz2 hsd (by omega)) (by omega) (by omega) (lv_sub hl [0, 1, 4, 5, 6, 7, 8, 9, 10, 11, 12] rfl) hw
              ·
                refine lv_aload_n hx hb (k := 0) (i := 0) (x := ad 0) (by decide +kernel) rfl (lv_at hl 11 rfl) ?_
                refine lv_iload hx hb (i := 7) (x := iI (j : Int)) (by decide +kernel) (lv_at hl 4 rfl) ?_
                refine lv_iconst hx hb (n := 2) (v := iI 2) (by decide +kernel) rfl ?_
                refine lz_irem hx hb (a := (j : Int)) (b := 2) (by decide +kernel) ⟨by omega, by omega, by omega, by omega⟩ ?_
                refine lv_iload hx hb (i := 8) (x := iI (cel (τ 4) (0 + ((j : Int) / 2) * 6 + (1 + ((j : Int) % 2))))) (by decide +kernel) (lv_at hl 3 rfl) ?_
                refine lv_iload hx hb (i := 10) (x := iI z) (by decide +kernel) (lv_at hl 1 rfl) ?_
                refine lz_isub hx hb (a := (cel (τ 4) (0 + ((j : Int) / 2) * 6 + (1 + ((j : Int) % 2))))) (b := z) (by decide +kernel) ?_
                refine lk_callH (x := 237) (rest := []) (as := [.ref (ad 0), .int (iI ((j : Int) % 2)), .int (iI ((cel (τ 4) (0 + ((j : Int) / 2) * 6 + (1 + ((j : Int) % 2)))) - z))]) (n := 3) F hw hl.1 (K_lockAt (X := X) (τ := τ) (r := ((j : Int) % 2)) (p := ((cel (τ 4) (0 + ((j : Int) / 2) * 6 + (1 + ((j : Int) % 2)))) - z)) F.l0 (by omega) (by omega)) (lr69 16 rfl) (lr69 17 rfl) (lr69 18 rfl) (lr69 6 rfl) ⟨by decide, by decide, by decide +kernel⟩ rfl ⟨Nat.le_of_ble_eq_true rfl, Nat.le_of_ble_eq_true rfl, (by show _ ≤ 2400; omega), (by show _ ≤ 14400; omega)⟩ (Nat.le_of_ble_eq_true rfl) (by decide +kernel) rfl (fun v9 V9 hG H locs hw => ?_)
                obtain ⟨rfl, rfl⟩ := hG
                refine W.eq (g2 := F0 m 420 ls [.int (iI (usz (τ 4) ((j : Int) % 2) ((cel (τ 4) (0 + ((j : Int) / 2) * 6 + (1 + ((j : Int) % 2)))) - z)))]) rfl ?_
                refine lz_if_le hx hb (a := (usz (τ 4) ((j : Int) % 2) ((cel (τ 4) (0 + ((j : Int) / 2) * 6 + (1 + ((j : Int) % 2)))) - z))) (off := 33) (tgt := 453) (by decide +kernel) (by decide) ⟨by omega, by omega⟩ (fun h35 => ?_) (fun h35 => ?_)
                ·
                  refine lv_iconst hx hb (n := 0) (v := iI 0) (by decide +kernel) rfl ?_
                  refine lv_istore hx hb (i := 12) (lv' := [(12, .int (iI 0)), (11, .int (iI 1)), (10, .int (iI z)), (9, .int (iI v)), (8, .int (iI (cel (τ 4) (0 + ((j : Int) / 2) * 6 + (1 + ((j : Int) % 2)))))), (7, .int (iI (j : Int))), (6, .int (iI (g24 (lkF (τ 4)) 24))), (5, .int (iI (g24 (tgF (τ 4)) 24))), (4, .int (iI (sm (fun k => cel (τ 4) (0 + (k : Int) * 6 + 4)) N))), (3, .int (iI (sm (fun k => b2 (cel (τ 4) (0 + (k : Int) * 6 + 0) = 0)) N))), (2, .int (iI (sm (fun k => cel (τ 4) (0 + (k : Int) * 6 + 3)) N))), (1, .int (iI (N : Int))), (0, .ref (ad 0))]) (by decide +kernel) hl (by decide) rfl (fun ls hl => ?_)
                  refine lv_iload hx hb (i := 11) (x := iI 1) (by decide +kernel) (lv_at hl 1 rfl) ?_
                  refine lz_if_ne hx hb (a := 1) (off := 8) (tgt := 466) (by decide +kernel) (by decide) ⟨by decide, by decide⟩ (fun _ => ?_) (fun h9 => absurd (by decide) h9)
                  refine lv_iload hx hb (i := 10) (x := iI z) (by decide +kernel) (lv_at hl 2 rfl) ?_
                  refine lv_goto hx hb (off := 5) (tgt := 473) (by decide +kernel) (by decide) ?_
                  refine lv_istore hx hb (i := 9) (lv' := [(9, .int (iI z)), (12, .int (iI 0)), (11, .int (iI 1)), (10, .int (iI z)), (8, .int (iI (cel (τ 4) (0 + ((j : Int) / 2) * 6 + (1 + ((j : Int) % 2)))))), (7, .int (iI (j : Int))), (6, .int (iI (g24 (lkF (τ 4)) 24))), (5, .int (iI (g24 (tgF (τ 4)) 24))), (4, .int (iI (sm (fun k => cel (τ 4) (0 + (k : Int) * 6 + 4)) N))), (3, .int (iI (sm (fun k => b2 (cel (τ 4) (0 + (k : Int) * 6 + 0) = 0)) N))), (2, .int (iI (sm (fun k => cel (τ 4) (0 + (k : Int) * 6 + 3)) N))), (1, .int (iI (N : Int))), (0, .ref (ad 0))]) (by decide +kernel) hl (by decide) rfl (fun ls hl => ?_)
                  refine lv_iinc hx hb (i := 10) (n := (-1)) (v := iI (z + (-1))) (lv' := [(10, .int (iI (z + (-1)))), (9, .int (iI z)), (12, .int (iI 0)), (11, .int (iI 1)), (8, .int (iI (cel (τ 4) (0 + ((j : Int) / 2) * 6 + (1 + ((j : Int) % 2)))))), (7, .int (iI (j : Int))), (6, .int (iI (g24 (lkF (τ 4)) 24))), (5, .int (iI (g24 (tgF (τ 4)) 24))), (4, .int (iI (sm (fun k => cel (τ 4) (0 + (k : Int) * 6 + 4)) N))), (3, .int (iI (sm (fun k => b2 (cel (τ 4) (0 + (k : Int) * 6 + 0) = 0)) N))), (2, .int (iI (sm (fun k => cel (τ 4) (0 + (k : Int) * 6 + 3)) N))), (1, .int (iI (N : Int))), (0, .ref (ad 0))]) (by decide +kernel) hl (k := 3) rfl (iI_add _ _) (by decide) rfl (fun ls hl => ?_)
                  refine lv_goto hx hb (off := (-141)) (tgt := 337) (by decide +kernel) (by decide) ?_
                  exact ih2 (j2 + 1) _ _ ls _ _ _ _ (by omega) (by omega) (nrv_is (by omega) hz2 hsd (by omega)) (by omega) (by omega) (lv_sub hl [0, 1, 4, 5, 6, 7, 8, 9, 10, 11, 12] rfl) hw
                ·
                  refine lv_aload_n hx hb (k := 0) (i := 0) (x := ad 0) (by decide +kernel) rfl (lv_at hl 11 rfl) ?_
                  refine lv_iload hx hb (i := 7) (x := iI (j : Int)) (by decide +kernel) (lv_at hl 4 rfl) ?_
                  refine lv_iconst hx hb (n := 2) (v := iI 2) (by decide +kernel) rfl ?_
                  refine lz_idiv hx hb (a := (j : Int)) (b := 2) (by decide +kernel) ⟨by omega, by omega, by omega, by omega⟩ ?_
                  refine lv_iconst hx hb (n := 0) (v := iI 0) (by decide +kernel) rfl ?_
                  refine lk_callH (x := 163) (rest := []) (as := [.ref (ad 0), .int (iI ((j : Int) / 2)), .int (iI 0)]) (n := 3) F hw hl.1 (K_of (X := X) (τ := τ) (f := ((j : Int) / 2)) (w := 0) (B := B) F.l0 (by omega) (by omega) hS) (lr69 22 rfl) (lr69 23 rfl) (lr69 24 rfl) (lr69 6 rfl) ⟨by decide, by decide, by decide +kernel⟩ rfl ⟨Nat.le_of_ble_eq_true rfl, Nat.le_of_ble_eq_true rfl, (by show _ ≤ 2400; omega), (by show _ ≤ 14400; omega)⟩ (Nat.le_of_ble_eq_true rfl) (by decide +kernel) rfl (fun v9 V9 hG H locs hw => ?_)
                  obtain ⟨rfl, rfl⟩ := hG
                  refine W.eq (g2 := F0 m 432 ls [.int (iI (cel (τ 4) (0 + ((j : Int) / 2) * 6 + 0)))]) rfl ?_
                  refine lv_iconst hx hb (n := 1) (v := iI 1) (by decide +kernel) rfl ?_
                  refine lz_icmp_eq hx hb (a := (cel (τ 4) (0 + ((j : Int) / 2) * 6 + 0))) (b := 1) (off := 16) (tgt := 449) (by decide +kernel) (by decide) ⟨by omega, by omega⟩ ⟨by decide, by decide⟩ (fun h37 => ?_) (fun h37 => ?_)
                  ·
                    refine lv_iconst hx hb (n := 1) (v := iI 1) (by decide +kernel) rfl ?_
                    refine lv_goto hx hb (off := 4) (tgt := 454) (by decide +kernel) (by decide) ?_
                    refine lv_istore hx hb (i := 12) (lv' := [(12, .int (iI 1)), (11, .int (iI 1)), (10, .int (iI z)), (9, .int (iI v)), (8, .int (iI (cel (τ 4) (0 + ((j : Int) / 2) * 6 + (1 + ((j : Int) % 2)))))), (7, .int (iI (j : Int))), (6, .int (iI (g24 (lkF (τ 4)) 24))), (5, .int (iI (g24 (tgF (τ 4)) 24))), (4, .int (iI (sm (fun k => cel (τ 4) (0 + (k : Int) * 6 + 4)) N))), (3, .int (iI (sm (fun k => b2 (cel (τ 4) (0 + (k : Int) * 6 + 0) = 0)) N))), (2, .int (iI (sm (fun k => cel (τ 4) (0 + (k : Int) * 6 + 3)) N))), (1, .int (iI (N : Int))), (0, .ref (ad 0))]) (by decide +kernel) hl (by decide) rfl (fun ls hl => ?_)
                    refine lv_iload hx hb (i := 11) (x := iI 1) (by decide +kernel) (lv_at hl 1 rfl) ?_
                    refine lz_if_ne hx hb (a := 1) (off := 8) (tgt := 466) (by decide +kernel) (by decide) ⟨by decide, by decide⟩ (fun _ => ?_) (fun h9 => absurd (by decide) h9)
                    refine lv_iload hx hb (i := 10) (x := iI z) (by decide +kernel) (lv_at hl 2 rfl) ?_
                    refine lv_goto hx hb (off := 5) (tgt := 473) (by decide +kernel) (by decide) ?_
                    refine lv_istore hx hb (i := 9) (lv' := [(9, .int (iI z)), (12, .int (iI 1)), (11, .int (iI 1)), (10, .int (iI z)), (8, .int (iI (cel (τ 4) (0 + ((j : Int) / 2) * 6 + (1 + ((j : Int) % 2)))))), (7, .int (iI (j : Int))), (6, .int (iI (g24 (lkF (τ 4)) 24))), (5, .int (iI (g24 (tgF (τ 4)) 24))), (4, .int (iI (sm (fun k => cel (τ 4) (0 + (k : Int) * 6 + 4)) N))), (3, .int (iI (sm (fun k => b2 (cel (τ 4) (0 + (k : Int) * 6 + 0) = 0)) N))), (2, .int (iI (sm (fun k => cel (τ 4) (0 + (k : Int) * 6 + 3)) N))), (1, .int (iI (N : Int))), (0, .ref (ad 0))]) (by decide +kernel) hl (by decide) rfl (fun ls hl => ?_)
                    refine lv_iinc hx hb (i := 10) (n := (-1)) (v := iI (z + (-1))) (lv' := [(10, .int (iI (z + (-1)))), (9, .int (iI z)), (12, .int (iI 1)), (11, .int (iI 1)), (8, .int (iI (cel (τ 4) (0 + ((j : Int) / 2) * 6 + (1 + ((j : Int) % 2)))))), (7, .int (iI (j : Int))), (6, .int (iI (g24 (lkF (τ 4)) 24))), (5, .int (iI (g24 (tgF (τ 4)) 24))), (4, .int (iI (sm (fun k => cel (τ 4) (0 + (k : Int) * 6 + 4)) N))), (3, .int (iI (sm (fun k => b2 (cel (τ 4) (0 + (k : Int) * 6 + 0) = 0)) N))), (2, .int (iI (sm (fun k => cel (τ 4) (0 + (k : Int) * 6 + 3)) N))), (1, .int (iI (N : Int))), (0, .ref (ad 0))]) (by decide +kernel) hl (k := 3) rfl (iI_add _ _) (by decide) rfl (fun ls hl => ?_)
                    refine lv_goto hx hb (off := (-141)) (tgt := 337) (by decide +kernel) (by decide) ?_
                    exact ih2 (j2 + 1) _ _ ls _ _ _ _ (by omega) (by omega) (nrv_is (by omega) hz2 hsd (by omega)) (by omega) (by omega) (lv_sub hl [0, 1, 4, 5, 6, 7, 8, 9, 10, 11, 12] rfl) hw
                  ·
                    refine lv_aload_n hx hb (k := 0) (i := 0) (x := ad 0) (by decide +kernel) rfl (lv_at hl 11 rfl) ?_
                    refine lv_iload hx hb (i := 7) (x := iI (j : Int)) (by decide +kernel) (lv_at hl 4 rfl) ?_
                    refine lv_iconst hx hb (n := 2) (v := iI 2) (by decide +kernel) rfl ?_
                    refine lz_idiv hx hb (a := (j : Int)) (b := 2) (by decide +kernel) ⟨by omega, by omega, by omega, by omega⟩ ?_
                    refine lv_iconst hx hb (n := 3) (v := iI 3) (by decide +kernel) rfl ?_
                    refine lk_callH (x := 163) (rest := []) (as := [.ref (ad 0), .int (iI ((j : Int) / 2)), .int (iI 3)]) (n := 3) F hw hl.1 (K_of (X := X) (τ := τ) (f := ((j : Int) / 2)) (w := 3) (B := B) F.l0 (by omega) (by omega) hS) (lr69 22 rfl) (lr69 23 rfl) (lr69 24 rfl) (lr69 6 rfl) ⟨by decide, by decide, by decide +kernel⟩ rfl ⟨Nat.le_of_ble_eq_true rfl, Nat.le_of_ble_eq_true rfl, (by show _ ≤ 2400; omega), (by show _ ≤ 14400; omega)⟩ (Nat.le_of_ble_eq_true rfl) (by decide +kernel) rfl (fun v9 V9 hG H locs hw => ?_)
                    obtain ⟨rfl, rfl⟩ := hG
                    refine W.eq (g2 := F0 m 445 ls [.int (iI (cel (τ 4) (0 + ((j : Int) / 2) * 6 + 3)))]) rfl ?_
                    refine lv_iconst hx hb (n := 1) (v := iI 1) (by decide +kernel) rfl ?_
                    refine lz_icmp_ne hx hb (a := (cel (τ 4) (0 + ((j : Int) / 2) * 6 + 3))) (b := 1) (off := 7) (tgt := 453) (by decide +kernel) (by decide) ⟨by omega, by omega⟩ ⟨by decide, by decide⟩ (fun h39 => ?_) (fun h39 => ?_)
                    ·
                      refine lv_iconst hx hb (n := 0) (v := iI 0) (by decide +kernel) rfl ?_
                      refine lv_istore hx hb (i := 12) (lv' := [(12, .int (iI 0)), (11, .int (iI 1)), (10, .int (iI z)), (9, .int (iI v)), (8, .int (iI (cel (τ 4) (0 + ((j : Int) / 2) * 6 + (1 + ((j : Int) % 2)))))), (7, .int (iI (j : Int))), (6, .int (iI (g24 (lkF (τ 4)) 24))), (5, .int (iI (g24 (tgF (τ 4)) 24))), (4, .int (iI (sm (fun k => cel (τ 4) (0 + (k : Int) * 6 + 4)) N))), (3, .int (iI (sm (fun k => b2 (cel (τ 4) (0 + (k : Int) * 6 + 0) = 0)) N))), (2, .int (iI (sm (fun k => cel (τ 4) (0 + (k : Int) * 6 + 3)) N))), (1, .int (iI (N : Int))), (0, .ref (ad 0))]) (by decide +kernel) hl (by decide) rfl (fun ls hl => ?_)
                      refine lv_iload hx hb (i := 11) (x := iI 1) (by decide +kernel) (lv_at hl 1 rfl) ?_
                      refine lz_if_ne hx hb (a := 1) (off := 8) (tgt := 466) (by decide +kernel) (by decide) ⟨by decide, by decide⟩ (fun _ => ?_) (fun h9 => absurd (by decide) h9)
                      refine lv_iload hx hb (i := 10) (x := iI z) (by decide +kernel) (lv_at hl 2 rfl) ?_
                      refine lv_goto hx hb (off := 5) (tgt := 473) (by decide +kernel) (by decide) ?_
                      refine lv_istore hx hb (i := 9) (lv' := [(9, .int (iI z)), (12, .int (iI 0)), (11, .int (iI 1)), (10, .int (iI z)), (8, .int (iI (cel (τ 4) (0 + ((j : Int) / 2) * 6 + (1 + ((j : Int) % 2)))))), (7, .int (iI (j : Int))), (6, .int (iI (g24 (lkF (τ 4)) 24))), (5, .int (iI (g24 (tgF (τ 4)) 24))), (4, .int (iI (sm (fun k => cel (τ 4) (0 + (k : Int) * 6 + 4)) N))), (3, .int (iI (sm (fun k => b2 (cel (τ 4) (0 + (k : Int) * 6 + 0) = 0)) N))), (2, .int (iI (sm (fun k => cel (τ 4) (0 + (k : Int) * 6 + 3)) N))), (1, .int (iI (N : Int))), (0, .ref (ad 0))]) (by decide +kernel) hl (by decide) rfl (fun ls hl => ?_)
                      refine lv_iinc hx hb (i := 10) (n := (-1)) (v := iI (z + (-1))) (lv' := [(10, .int (iI (z + (-1)))), (9, .int (iI z)), (12, .int (iI 0)), (11, .int (iI 1)), (8, .int (iI (cel (τ 4) (0 + ((j : Int) / 2) * 6 + (1 + ((j : Int) % 2)))))), (7, .int (iI (j : Int))), (6, .int (iI (g24 (lkF (τ 4)) 24))), (5, .int (iI (g24 (tgF (τ 4)) 24))), (4, .int (iI (sm (fun k => cel (τ 4) (0 + (k : Int) * 6 + 4)) N))), (3, .int (iI (sm (fun k => b2 (cel (τ 4) (0 + (k : Int) * 6 + 0) = 0)) N))), (2, .int (iI (sm (fun k => cel (τ 4) (0 + (k : Int) * 6 + 3)) N))), (1, .int (iI (N : Int))), (0, .ref (ad 0))]) (by decide +kernel) hl (k := 3) rfl (iI_add _ _) (by decide) rfl (fun ls hl => ?_)
                      refine lv_goto hx hb (off := (-141)) (tgt := 337) (by decide +kernel) (by decide) ?_
                      exact ih2 (j2 + 1) _ _ ls _ _ _ _ (by omega) (by omega) (nrv_is (by omega) hz2 hsd (by omega)) (by omega) (by omega) (lv_sub hl [0, 1, 4, 5, 6, 7, 8, 9, 10, 11, 12] rfl) hw
                    ·
                      refine lv_iconst hx hb (n := 1) (v := iI 1) (by decide +kernel) rfl ?_
                      refine lv_goto hx hb (off := 4) (tgt := 454) (by decide +kernel) (by decide) ?_
                      refine lv_istore hx hb (i := 12) (lv' := [(12, .int (iI 1)), (11, .int (iI 1)), (10, .int (iI z)), (9, .int (iI v)), (8, .int (iI (cel (τ 4) (0 + ((j : Int) / 2) * 6 + (1 + ((j : Int) % 2)))))), (7, .int (iI (j : Int))), (6, .int (iI (g24 (lkF (τ 4)) 24))), (5, .int (iI (g24 (tgF (τ 4)) 24))), (4, .int (iI (sm (fun k => cel (τ 4) (0 + (k : Int) * 6 + 4)) N))), (3, .int (iI (sm (fun k => b2 (cel (τ 4) (0 + (k : Int) * 6 + 0) = 0)) N))), (2, .int (iI (sm (fun k => cel (τ 4) (0 + (k : Int) * 6 + 3)) N))), (1, .int (iI (N : Int))), (0, .ref (ad 0))]) (by decide +kernel) hl (by decide) rfl (fun ls hl => ?_)
                      refine lv_iload hx hb (i := 11) (x := iI 1) (by decide +kernel) (lv_at hl 1 rfl) ?_
                      refine lz_if_ne hx hb (a := 1) (off := 8) (tgt := 466) (by decide +kernel) (by decide) ⟨by decide, by decide⟩ (fun _ => ?_) (fun h9 => absurd (by decide) h9)
                      refine lv_iload hx hb (i := 10) (x := iI z) (by decide +kernel) (lv_at hl 2 rfl) ?_
                      refine lv_goto hx hb (off := 5) (tgt := 473) (by decide +kernel) (by decide) ?_
                      refine lv_istore hx hb (i := 9) (lv' := [(9, .int (iI z)), (12, .int (iI 1)), (11, .int (iI 1)), (10, .int (iI z)), (8, .int (iI (cel (τ 4) (0 + ((j : Int) / 2) * 6 + (1 + ((j : Int) % 2)))))), (7, .int (iI (j : Int))), (6, .int (iI (g24 (lkF (τ 4)) 24))), (5, .int (iI (g24 (tgF (τ 4)) 24))), (4, .int (iI (sm (fun k => cel (τ 4) (0 + (k : Int) * 6 + 4)) N))), (3, .int (iI (sm (fun k => b2 (cel (τ 4) (0 + (k : Int) * 6 + 0) = 0)) N))), (2, .int (iI (sm (fun k => cel (τ 4) (0 + (k : Int) * 6 + 3)) N))), (1, .int (iI (N : Int))), (0, .ref (ad 0))]) (by decide +kernel) hl (by decide) rfl (fun ls hl => ?_)
                      refine lv_iinc hx hb (i := 10) (n := (-1)) (v := iI (z + (-1))) (lv' := [(10, .int (iI (z + (-1)))), (9, .int (iI z)), (12, .int (iI 1)), (11, .int (iI 1)), (8, .int (iI (cel (τ 4) (0 + ((j : Int) / 2) * 6 + (1 + ((j : Int) % 2)))))), (7, .int (iI (j : Int))), (6, .int (iI (g24 (lkF (τ 4)) 24))), (5, .int (iI (g24 (tgF (τ 4)) 24))), (4, .int (iI (sm (fun k => cel (τ 4) (0 + (k : Int) * 6 + 4)) N))), (3, .int (iI (sm (fun k => b2 (cel (τ 4) (0 + (k : Int) * 6 + 0) = 0)) N))), (2, .int (iI (sm (fun k => cel (τ 4) (0 + (k : Int) * 6 + 3)) N))), (1, .int (iI (N : Int))), (0, .ref (ad 0))]) (by decide +kernel) hl (k := 3) rfl (iI_add _ _) (by decide) rfl (fun ls hl => ?_)
                      refine lv_goto hx hb (off := (-141)) (tgt := 337) (by decide +kernel) (by decide) ?_
                      exact ih2 (j2 + 1) _ _ ls _ _ _ _ (by omega) (by omega) (nrv_is (by omega) hz2 hsd (by omega)) (by omega) (by omega) (lv_sub hl [0, 1, 4, 5, 6, 7, 8, 9, 10, 11, 12] rfl) hw
            ·
              refine lv_aload_n hx hb (k := 0) (i := 0) (x := ad 0) (by decide +kernel) rfl (lv_at hl 10 rfl) ?_
              refine lv_iload hx hb (i := 7) (x := iI (j : Int)) (by decide +kernel) (lv_at hl 3 rfl) ?_
              refine lv_iconst hx hb (n := 2) (v := iI 2) (by decide +kernel) rfl ?_
              refine lz_idiv hx hb (a := (j : Int)) (b := 2) (by decide +kernel) ⟨by omega, by omega, by omega, by omega⟩ ?_
              refine lv_iconst hx hb (n := 3) (v := iI 3) (by decide +kernel) rfl ?_
              refine lk_callH (x := 163) (rest := []) (as := [.ref (ad 0), .int (iI ((j : Int) / 2)), .int (iI 3)]) (n := 3) F hw hl.1 (K_of (X := X) (τ := τ) (f := ((j : Int) / 2)) (w := 3) (B := B) F.l0 (by omega) (by omega) hS) (lr69 22 rfl) (lr69 23 rfl) (lr69 24 rfl) (lr69 6 rfl) ⟨by decide, by decide, by decide +kernel⟩ rfl ⟨Nat.le_of_ble_eq_true rfl, Nat.le_of_ble_eq_true rfl, (by show _ ≤ 2400; omega), (by show _ ≤ 14400; omega)⟩ (Nat.le_of_ble_eq_true rfl) (by decide +kernel) rfl (fun v9 V9 hG H locs hw => ?_)
              obtain ⟨rfl, rfl⟩ := hG
              refine W.eq (g2 := F0 m 389 ls [.int (iI (cel (τ 4) (0 + ((j : Int) / 2) * 6 + 3)))]) rfl ?_
              refine lv_iconst hx hb (n := 1) (v := iI 1) (by decide +kernel) rfl ?_
              refine lz_icmp_ne hx hb (a := (cel (τ 4) (0 + ((j : Int) / 2) * 6 + 3))) (b := 1) (off := 7) (tgt := 397) (by decide +kernel) (by decide) ⟨by omega, by omega⟩ ⟨by decide, by decide⟩ (fun h42 => ?_) (fun h42 => ?_)
              ·
                refine lv_iconst hx hb (n := 0) (v := iI 0) (by decide +kernel) rfl ?_
                refine lv_istore hx hb (i := 11) (lv' := [(11, .int (iI 0)), (10, .int (iI z)), (9, .int (iI v)), (8, .int (iI (cel (τ 4) (0 + ((j : Int) / 2) * 6 + (1 + ((j : Int) % 2)))))), (7, .int (iI (j : Int))), (6, .int (iI (g24 (lkF (τ 4)) 24))), (5, .int (iI (g24 (tgF (τ 4)) 24))), (4, .int (iI (sm (fun k => cel (τ 4) (0 + (k : Int) * 6 + 4)) N))), (3, .int (iI (sm (fun k => b2 (cel (τ 4) (0 + (k : Int) * 6 + 0) = 0)) N))), (2, .int (iI (sm (fun k => cel (τ 4) (0 + (k : Int) * 6 + 3)) N))), (1, .int (iI (N : Int))), (0, .ref (ad 0))]) (by decide +kernel) hl (by decide) rfl (fun ls hl => ?_)
                refine lv_iload hx hb (i := 8) (x := iI (cel (τ 4) (0 + ((j : Int) / 2) * 6 + (1 + ((j : Int) % 2))))) (by decide +kernel) (lv_at hl 3 rfl) ?_
                refine lv_iload hx hb (i := 10) (x := iI z) (by decide +kernel) (lv_at hl 1 rfl) ?_
                refine lz_icmp_lt hx hb (a := (cel (τ 4) (0 + ((j : Int) / 2) * 6 + (1 + ((j : Int) % 2))))) (b := z) (off := 49) (tgt := 453) (by decide +kernel) (by decide) ⟨by omega, by omega⟩ ⟨by omega, by omega⟩ (fun h43 => ?_) (fun h43 => ?_)
                ·
                  refine lv_iconst hx hb (n := 0) (v := iI 0) (by decide +kernel) rfl ?_
                  refine lv_istore hx hb (i := 12) (lv' := [(12, .int (iI 0)), (11, .int (iI 0)), (10, .int (iI z)), (9, .int (iI v)), (8, .int (iI (cel (τ 4) (0 + ((j : Int) / 2) * 6 + (1 + ((j : Int) % 2)))))), (7, .int (iI (j : Int))), (6, .int (iI (g24 (lkF (τ 4)) 24))), (5, .int (iI (g24 (tgF (τ 4)) 24))), (4, .int (iI (sm (fun k => cel (τ 4) (0 + (k : Int) * 6 + 4)) N))), (3, .int (iI (sm (fun k => b2 (cel (τ 4) (0 + (k : Int) * 6 + 0) = 0)) N))), (2, .int (iI (sm (fun k => cel (τ 4) (0 + (k : Int) * 6 + 3)) N))), (1, .int (iI (N : Int))), (0, .ref (ad 0))]) (by decide +kernel) hl (by decide) rfl (fun ls hl => ?_)
                  refine lv_iload hx hb (i := 11) (x := iI 0) (by decide +kernel) (lv_at hl 1 rfl) ?_
                  refine lz_if_ne hx hb (a := 0) (off := 8) (tgt := 466) (by decide +kernel) (by decide) ⟨by decide, by decide⟩ (fun h9 => absurd h9 (by decide)) (fun _ => ?_)
                  refine lv_iload hx hb (i := 12) (x := iI 0) (by decide +kernel) (lv_at hl 0 rfl) ?_
                  refine lz_if_eq hx hb (a := 0) (off := 8) (tgt := 471) (by decide +kernel) (by decide) ⟨by decide, by decide⟩ (fun _ => ?_) (fun h9 => absurd (by decide) h9)
                  refine lv_iload hx hb (i := 9) (x := iI v) (by decide +kernel) (lv_at hl 3 rfl) ?_
                  refine lv_istore hx hb (i := 9) (lv' := [(9, .int (iI v)), (12, .int (iI 0)), (11, .int (iI 0)), (10, .int (iI z)), (8, .int (iI (cel (τ 4) (0 + ((j : Int) / 2) * 6 + (1 + ((j : Int) % 2)))))), (7, .int (iI (j : Int))), (6, .int (iI (g24 (lkF (τ 4)) 24))), (5, .int (iI (g24 (tgF (τ 4)) 24))), (4, .int (iI (sm (fun k => cel (τ 4) (0 + (k : Int) * 6 + 4)) N))), (3, .int (iI (sm (fun k => b2 (cel (τ 4) (0 + (k : Int) * 6 + 0) = 0)) N))), (2, .int (iI (sm (fun k => cel (τ 4) (0 + (k : Int) * 6 + 3)) N))), (1, .int (iI (N : Int))), (0, .ref (ad 0))]) (by decide +kernel) hl (by decide) rfl (fun ls hl => ?_)
                  refine lv_iinc hx hb (i := 10) (n := (-1)) (v := iI (z + (-1))) (lv' := [(10, .int (iI (z + (-1)))), (9, .int (iI v)), (12, .int (iI 0)), (11, .int (iI 0)), (8, .int (iI (cel (τ 4) (0 + ((j : Int) / 2) * 6 + (1 + ((j : Int) % 2)))))), (7, .int (iI (j : Int))), (6, .int (iI (g24 (lkF (τ 4)) 24))), (5, .int (iI (g24 (tgF (τ 4)) 24))), (4, .int (iI (sm (fun k => cel (τ 4) (0 + (k : Int) * 6 + 4)) N))), (3, .int (iI (sm (fun k => b2 (cel (τ 4) (0 + (k : Int) * 6 + 0) = 0)) N))), (2, .int (iI (sm (fun k => cel (τ 4) (0 + (k : Int) * 6 + 3)) N))), (1, .int (iI (N : Int))), (0, .ref (ad 0))]) (by decide +kernel) hl (k := 3) rfl (iI_add _ _) (by decide) rfl (fun ls hl => ?_)
                  refine lv_goto hx hb (off := (-141)) (tgt := 337) (by decide +kernel) (by decide) ?_
                  exact ih2 (j2 + 1) _ _ ls _ _ _ _ (by omega) (by omega) (nrv_is (by omega) hz2 hsd (by omega)) (by omega) (by omega) (lv_sub hl [0, 1, 4, 5, 6, 7, 8, 9, 10, 11, 12] rfl) hw
                ·
                  refine lv_aload_n hx hb (k := 0) (i := 0) (x := ad 0) (by decide +kernel) rfl (lv_at hl 11 rfl) ?_
                  refine lv_iload hx hb (i := 7) (x := iI (j : Int)) (by decide +kernel) (lv_at hl 4 rfl) ?_
                  refine lv_iconst hx hb (n := 2) (v := iI 2) (by decide +kernel) rfl ?_
                  refine lz_irem hx hb (a := (j : Int)) (b := 2) (by decide +kernel) ⟨by omega, by omega, by omega, by omega⟩ ?_
                  refine lv_iload hx hb (i := 8) (x := iI (cel (τ 4) (0 + ((j : Int) / 2) * 6 + (1 + ((j : Int) % 2))))) (by decide +kernel) (lv_at hl 3 rfl) ?_
                  refine lv_iload hx hb (i := 10) (x := iI z) (by decide +kernel) (lv_at hl 1 rfl) ?_
                  refine lz_isub hx hb (a := (cel (τ 4) (0 + ((j : Int) / 2) * 6 + (1 + ((j : Int) % 2))))) (b := z) (by decide +kernel) ?_
                  refine lk_callH (x := 237) (rest := []) (as := [.ref (ad 0), .int (iI ((j : Int) % 2)), .int (iI ((cel (τ 4) (0 + ((j : Int) / 2) * 6 + (1 + ((j : Int) % 2)))) - z))]) (n := 3) F hw hl.1 (K_lockAt (X := X) (τ := τ) (r := ((j : Int) % 2)) (p := ((cel (τ 4) (0 + ((j : Int) / 2) * 6 + (1 + ((j : Int) % 2)))) - z)) F.l0 (by omega) (by omega)) (lr69 16 rfl) (lr69 17 rfl) (lr69 18 rfl) (lr69 6 rfl) ⟨by decide, by decide, by decide +kernel⟩ rfl ⟨Nat.le_of_ble_eq_true rfl, Nat.le_of_ble_eq_true rfl, (by show _ ≤ 2400; omega), (by show _ ≤ 14400; omega)⟩ (Nat.le_of_ble_eq_true rfl) (by decide +kernel) rfl (fun v9 V9 hG H locs hw => ?_)
                  obtain ⟨rfl, rfl⟩ := hG
                  refine W.eq (g2 := F0 m 420 ls [.int (iI (usz (τ 4) ((j : Int) % 2) ((cel (τ 4) (0 + ((j : Int) / 2) * 6 + (1 + ((j : Int) % 2)))) - z)))]) rfl ?_
                  refine lz_if_le hx hb (a := (usz (τ 4) ((j : Int) % 2) ((cel (τ 4) (0 + ((j : Int) / 2) * 6 + (1 + ((j : Int) % 2)))) - z))) (off := 33) (tgt := 453) (by decide +kernel) (by decide) ⟨by omega, by omega⟩ (fun h46 => ?_) (fun h46 => ?_)
                  ·
                    refine lv_iconst hx hb (n := 0) (v := iI 0) (by decide +kernel) rfl ?_
                    refine lv_istore hx hb (i := 12) (lv' := [(12, .int (iI 0)), (11, .int (iI 0)), (10, .int (iI z)), (9, .int (iI v)), (8, .int (iI (cel (τ 4) (0 + ((j : Int) / 2) * 6 + (1 + ((j : Int) % 2)))))), (7, .int (iI (j : Int))), (6, .int (iI (g24 (lkF (τ 4)) 24))), (5, .int (iI (g24 (tgF (τ 4)) 24))), (4, .int (iI (sm (fun k => cel (τ 4) (0 + (k : Int) * 6 + 4)) N))), (3, .int (iI (sm (fun k => b2 (cel (τ 4) (0 + (k : Int) * 6 + 0) = 0)) N))), (2, .int (iI (sm (fun k => cel (τ 4) (0 + (k : Int) * 6 + 3)) N))), (1, .int (iI (N : Int))), (0, .ref (ad 0))]) (by decide +kernel) hl (by decide) rfl (fun ls hl => ?_)
                    refine lv_iload hx hb (i := 11) (x := iI 0) (by decide +kernel) (lv_at hl 1 rfl) ?_
                    refine lz_if_ne hx hb (a := 0) (off := 8) (tgt := 466) (by decide +kernel) (by decide) ⟨by decide, by decide⟩ (fun h9 => absurd h9 (by decide)) (fun _ => ?_)
                    refine lv_iload hx hb (i := 12) (x := iI 0) (by decide +kernel) (lv_at hl 0 rfl) ?_
                    refine lz_if_eq hx hb (a := 0) (off := 8) (tgt := 471) (by decide +kernel) (by decide) ⟨by decide, by decide⟩ (fun _ => ?_) (fun h9 => absurd (by decide) h9)
                    refine lv_iload hx hb (i := 9) (x := iI v) (by decide +kernel) (lv_at hl 3 rfl) ?_
                    refine lv_istore hx hb (i := 9) (lv' := [(9, .int (iI v)), (12, .int (iI 0)), (11, .int (iI 0)), (10, .int (iI z)), (8, .int (iI (cel (τ 4) (0 + ((j : Int) / 2) * 6 + (1 + ((j : Int) % 2)))))), (7, .int (iI (j : Int))), (6, .int (iI (g24 (lkF (τ 4)) 24))), (5, .int (iI (g24 (tgF (τ 4)) 24))), (4, .int (iI (sm (fun k => cel (τ 4) (0 + (k : Int) * 6 + 4)) N))), (3, .int (iI (sm (fun k => b2 (cel (τ 4) (0 + (k : Int) * 6 + 0) = 0)) N))), (2, .int (iI (sm (fun k => cel (τ 4) (0 + (k : Int) * 6 + 3)) N))), (1, .int (iI (N : Int))), (0, .ref (ad 0))]) (by decide +kernel) hl (by decide) rfl (fun ls hl => ?_)
                    refine lv_iinc hx hb (i := 10) (n := (-1)) (v := iI (z + (-1))) (lv' := [(10, .int (iI (z + (-1)))), (9, .int (iI v)), (12, .int (iI 0)), (11, .int (iI 0)), (8, .int (iI (cel (τ 4) (0 + ((j : Int) / 2) * 6 + (1 + ((j : Int) % 2)))))), (7, .int (iI (j : Int))), (6, .int (iI (g24 (lkF (τ 4)) 24))), (5, .int (iI (g24 (tgF (τ 4)) 24))), (4, .int (iI (sm (fun k => cel (τ 4) (0 + (k : Int) * 6 + 4)) N))), (3, .int (iI (sm (fun k => b2 (cel (τ 4) (0 + (k : Int) * 6 + 0) = 0)) N))), (2, .int (iI (sm (fun k => cel (τ 4) (0 + (k : Int) * 6 + 3)) N))), (1, .int (iI (N : Int))), (0, .ref (ad 0))]) (by decide +kernel) hl (k := 3) rfl (iI_add _ _) (by decide) rfl (fun ls hl => ?_)
                    refine lv_goto hx hb (off := (-141)) (tgt := 337) (by decide +kernel) (by decide) ?_
                    exact ih2 (j2 + 1) _ _ ls _ _ _ _ (by omega) (by omega) (nrv_is (by omega) hz2 hsd (by omega)) (by omega) (by omega) (lv_sub hl [0, 1, 4, 5, 6, 7, 8, 9, 10, 11, 12] rfl) hw
                  ·
                    refine lv_aload_n hx hb (k := 0) (i := 0) (x := ad 0) (by decide +kernel) rfl (lv_at hl 11 rfl) ?_
                    refine lv_iload hx hb (i := 7) (x := iI (j : Int)) (by decide +kernel) (lv_at hl 4 rfl) ?_
                    refine lv_iconst hx hb (n := 2) (v := iI 2) (by decide +kernel) rfl ?_
                    refine lz_idiv hx hb (a := (j : Int)) (b := 2) (by decide +kernel) ⟨by omega, by omega, by omega, by omega⟩ ?_
                    refine lv_iconst hx hb (n := 0) (v := iI 0) (by decide +kernel) rfl ?_
                    refine lk_callH (x := 163) (rest := []) (as := [.ref (ad 0), .int (iI ((j : Int) / 2)), .int (iI 0)]) (n := 3) F hw hl.1 (K_of (X := X) (τ := τ) (f := ((j : Int) / 2)) (w := 0) (B := B) F.l0 (by omega) (by omega) hS) (lr69 22 rfl) (lr69 23 rfl) (lr69 24 rfl) (lr69 6 rfl) ⟨by decide, by decide, by decide +kernel⟩ rfl ⟨Nat.le_of_ble_eq_true rfl, Nat.le_of_ble_eq_true rfl, (by show _ ≤ 2400; omega), (by show _ ≤ 14400; omega)⟩ (Nat.le_of_ble_eq_true rfl) (by decide +kernel) rfl (fun v9 V9 hG H locs hw => ?_)
                    obtain ⟨rfl, rfl⟩ := hG
                    refine W.eq (g2 := F0 m 432 ls [.int (iI (cel (τ 4) (0 + ((j : Int) / 2) * 6 + 0)))]) rfl ?_
                    refine lv_iconst hx hb (n := 1) (v := iI 1) (by decide +kernel) rfl ?_
                    refine lz_icmp_eq hx hb (a := (cel (τ 4) (0 + ((j : Int) / 2) * 6 + 0))) (b := 1) (off := 16) (tgt := 449) (by decide +kernel) (by decide) ⟨by omega, by omega⟩ ⟨by decide, by decide⟩ (fun h49 => ?_) (fun h49 => ?_)
                    ·
                      refine lv_iconst hx hb (n := 1) (v := iI 1) (by decide +kernel) rfl ?_
                      refine lv_goto hx hb (off := 4) (tgt := 454) (by decide +kernel) (by decide) ?_
                      refine lv_istore hx hb (i := 12) (lv' := [(12, .int (iI 1)), (11, .int (iI 0)), (10, .int (iI z)), (9, .int (iI v)), (8, .int (iI (cel (τ 4) (0 + ((j : Int) / 2) * 6 + (1 + ((j : Int) % 2)))))), (7, .int (iI (j : Int))), (6, .int (iI (g24 (lkF (τ 4)) 24))), (5, .int (iI (g24 (tgF (τ 4)) 24))), (4, .int (iI (sm (fun k => cel (τ 4) (0 + (k : Int) * 6 + 4)) N))), (3, .int (iI (sm (fun k => b2 (cel (τ 4) (0 + (k : Int) * 6 + 0) = 0)) N))), (2, .int (iI (sm (fun k => cel (τ 4) (0 + (k : Int) * 6 + 3)) N))), (1, .int (iI (N : Int))), (0, .ref (ad 0))]) (by decide +kernel) hl (by decide) rfl (fun ls hl => ?_)
                      refine lv_iload hx hb (i := 11) (x := iI 0) (by decide +kernel) (lv_at hl 1 rfl) ?_
                      refine lz_if_ne hx hb (a := 0) (off := 8) (tgt := 466) (by decide +kernel) (by decide) ⟨by decide, by decide⟩ (fun h9 => absurd h9 (by decide)) (fun _ => ?_)
                      refine lv_iload hx hb (i := 12) (x := iI 1) (by decide +kernel) (lv_at hl 0 rfl) ?_
                      refine lz_if_eq hx hb (a := 1) (off := 8) (tgt := 471) (by decide +kernel) (by decide) ⟨by decide, by decide⟩ (fun h9 => absurd h9 (by decide)) (fun _ => ?_)
                      refine lv_iload hx hb (i := 10) (x := iI z) (by decide +kernel) (lv_at hl 2 rfl) ?_
                      refine lv_goto hx hb (off := 5) (tgt := 473) (by decide +kernel) (by decide) ?_
                      refine lv_istore hx hb (i := 9) (lv' := [(9, .int (iI z)), (12, .int (iI 1)), (11, .int (iI 0)), (10, .int (iI z)), (8, .int (iI (cel (τ 4) (0 + ((j : Int) / 2) * 6 + (1 + ((j : Int) % 2)))))), (7, .int (iI (j : Int))), (6, .int (iI (g24 (lkF (τ 4)) 24))), (5, .int (iI (g24 (tgF (τ 4)) 24))), (4, .int (iI (sm (fun k => cel (τ 4) (0 + (k : Int) * 6 + 4)) N))), (3, .int (iI (sm (fun k => b2 (cel (τ 4) (0 + (k : Int) * 6 + 0) = 0)) N))), (2, .int (iI (sm (fun k => cel (τ 4) (0 + (k : Int) * 6 + 3)) N))), (1, .int (iI (N : Int))), (0, .ref (ad 0))]) (by decide +kernel) hl (by decide) rfl (fun ls hl => ?_)
                      refine lv_iinc hx hb (i := 10) (n := (-1)) (v := iI (z + (-1))) (lv' := [(10, .int (iI (z + (-1)))), (9, .int (iI z)), (12, .int (iI 1)), (11, .int (iI 0)), (8, .int (iI (cel (τ 4) (0 + ((j : Int) / 2) * 6 + (1 + ((j : Int) % 2)))))), (7, .int (iI (j : Int))), (6, .int (iI (g24 (lkF (τ 4)) 24))), (5, .int (iI (g24 (tgF (τ 4)) 24))), (4, .int (iI (sm (fun k => cel (τ 4) (0 + (k : Int) * 6 + 4)) N))), (3, .int (iI (sm (fun k => b2 (cel (τ 4) (0 + (k : Int) * 6 + 0) = 0)) N))), (2, .int (iI (sm (fun k => cel (τ 4) (0 + (k : Int) * 6 + 3)) N))), (1, .int (iI (N : Int))), (0, .ref (ad 0))]) (by decide +kernel) hl (k := 3) rfl (iI_add _ _) (by decide) rfl (fun ls hl => ?_)
                      refine lv_goto hx hb (off := (-141)) (tgt := 337) (by decide +kernel) (by decide) ?_
                      exact ih2 (j2 + 1) _ _ ls _ _ _ _ (by omega) (by omega) (nrv_is (by omega) hz2 hsd (by omega)) (by omega) (by omega) (lv_sub hl [0, 1, 4, 5, 6, 7, 8, 9, 10, 11, 12] rfl) hw
                    ·
                      refine lv_aload_n hx hb (k := 0) (i := 0) (x := ad 0) (by decide +kernel) rfl (lv_at hl 11 rfl) ?_
                      refine lv_iload hx hb (i := 7) (x := iI (j : Int)) (by decide +kernel) (lv_at hl 4 rfl) ?_
                      refine lv_iconst hx hb (n := 2) (v := iI 2) (by decide +kernel) rfl ?_
                      refine lz_idiv hx hb (a := (j : Int)) (b := 2) (by decide +kernel) ⟨by omega, by omega, by omega, by omega⟩ ?_
                      refine lv_iconst hx hb (n := 3) (v := iI 3) (by decide +kernel) rfl ?_
                      refine lk_callH (x := 163) (rest := []) (as := [.ref (ad 0), .int (iI ((j : Int) / 2)), .int (iI 3)]) (n := 3) F hw hl.1 (K_of (X := X) (τ := τ) (f := ((j : Int) / 2)) (w := 3) (B := B) F.l0 (by omega) (by omega) hS) (lr69 22 rfl) (lr69 23 rfl) (lr69 24 rfl) (lr69 6 rfl) ⟨by decide, by decide, by decide +kernel⟩ rfl ⟨Nat.le_of_ble_eq_true rfl, Nat.le_of_ble_eq_true rfl, (by show _ ≤ 2400; omega), (by show _ ≤ 14400; omega)⟩ (Nat.le_of_ble_eq_true rfl) (by decide +kernel) rfl (fun v9 V9 hG H locs hw => ?_)
                      obtain ⟨rfl, rfl⟩ := hG
                      refine W.eq (g2 := F0 m 445 ls [.int (iI (cel (τ 4) (0 + ((j : Int) / 2) * 6 + 3)))]) rfl ?_
                      refine lv_iconst hx hb (n := 1) (v := iI 1) (by decide +kernel) rfl ?_
                      refine lz_icmp_ne hx hb (a := (cel (τ 4) (0 + ((j : Int) / 2) * 6 + 3))) (b := 1) (off := 7) (tgt := 453) (by decide +kernel) (by decide) ⟨by omega, by omega⟩ ⟨by decide, by decide⟩ (fun h52 => ?_) (fun h52 => ?_)
                      ·
                        refine lv_iconst hx hb (n := 0) (v := iI 0) (by decide +kernel) rfl ?_
                        refine lv_istore hx hb (i := 12) (lv' := [(12, .int (iI 0)), (11, .int (iI 0)), (10, .int (iI z)), (9, .int (iI v)), (8, .int (iI (cel (τ 4) (0 + ((j : Int) / 2) * 6 + (1 + ((j : Int) % 2)))))), (7, .int (iI (j : Int))), (6, .int (iI (g24 (lkF (τ 4)) 24))), (5, .int (iI (g24 (tgF (τ 4)) 24))), (4, .int (iI (sm (fun k => cel (τ 4) (0 + (k : Int) * 6 + 4)) N))), (3, .int (iI (sm (fun k => b2 (cel (τ 4) (0 + (k : Int) * 6 + 0) = 0)) N))), (2, .int (iI (sm (fun k => cel (τ 4) (0 + (k : Int) * 6 + 3)) N))), (1, .int (iI (N : Int))), (0, .ref (ad 0))]) (by decide +kernel) hl (by decide) rfl (fun ls hl => ?_)
                        refine lv_iload hx hb (i := 11) (x := iI 0) (by decide +kernel) (lv_at hl 1 rfl) ?_
                        refine lz_if_ne hx hb (a := 0) (off := 8) (tgt := 466) (by decide +kernel) (by decide) ⟨by decide, by decide⟩ (fun h9 => absurd h9 (by decide)) (fun _ => ?_)
                        refine lv_iload hx hb (i := 12) (x := iI 0) (by decide +kernel) (lv_at hl 0 rfl) ?_
                        refine lz_if_eq hx hb (a := 0) (off := 8) (tgt := 471) (by decide +kernel) (by decide) ⟨by decide, by decide⟩ (fun _ => ?_) (fun h9 => absurd (by decide) h9)
                        refine lv_iload hx hb (i := 9) (x := iI v) (by decide +kernel) (lv_at hl 3 rfl) ?_
                        refine lv_istore hx hb (i := 9) (lv' := [(9, .int (iI v)), (12, .int (iI 0)), (11, .int (iI 0)), (10, .int (iI z)), (8, .int (iI (cel (τ 4) (0 + ((j : Int) / 2) * 6 + (1 + ((j : Int) % 2)))))), (7, .int (iI (j : Int))), (6, .int (iI (g24 (lkF (τ 4)) 24))), (5, .int (iI (g24 (tgF (τ 4)) 24))), (4, .int (iI (sm (fun k => cel (τ 4) (0 + (k : Int) * 6 + 4)) N))), (3, .int (iI (sm (fun k => b2 (cel (τ 4) (0 + (k : Int) * 6 + 0) = 0)) N))), (2, .int (iI (sm (fun k => cel (τ 4) (0 + (k : Int) * 6 + 3)) N))), (1, .int (iI (N : Int))), (0, .ref (ad 0))]) (by decide +kernel) hl (by decide) rfl (fun ls hl => ?_)
                        refine lv_iinc hx hb (i := 10) (n := (-1)) (v := iI (z + (-1))) (lv' := [(10, .int (iI (z + (-1)))), (9, .int (iI v)), (12, .int (iI 0)), (11, .int (iI 0)), (8, .int (iI (cel (τ 4) (0 + ((j : Int) / 2) * 6 + (1 + ((j : Int) % 2)))))), (7, .int (iI (j : Int))), (6, .int (iI (g24 (lkF (τ 4)) 24))), (5, .int (iI (g24 (tgF (τ 4)) 24))), (4, .int (iI (sm (fun k => cel (τ 4) (0 + (k : Int) * 6 + 4)) N))), (3, .int (iI (sm (fun k => b2 (cel (τ 4) (0 + (k : Int) * 6 + 0) = 0)) N))), (2, .int (iI (sm (fun k => cel (τ 4) (0 + (k : Int) * 6 + 3)) N))), (1, .int (iI (N : Int))), (0, .ref (ad 0))]) (by decide +kernel) hl (k := 3) rfl (iI_add _ _) (by decide) rfl (fun ls hl => ?_)
                        refine lv_goto hx hb (off := (-141)) (tgt := 337) (by decide +kernel) (by decide) ?_
                        exact ih2 (j2 + 1) _ _ ls _ _ _ _ (by omega) (by omega) (nrv_is (by omega) hz2 hsd (by omega)) (by omega) (by omega) (lv_sub hl [0, 1, 4, 5, 6, 7, 8, 9, 10, 11, 12] rfl) hw
                      ·
                        refine lv_iconst hx hb (n := 1) (v := iI 1) (by decide +kernel) rfl ?_
                        refine lv_goto hx hb (off := 4) (tgt := 454) (by decide +kernel) (by decide) ?_
                        refine lv_istore hx hb (i := 12) (lv' := [(12, .int (iI 1)), (11, .int (iI 0)), (10, .int (iI z)), (9, .int (iI v)), (8, .int (iI (cel (τ 4) (0 + ((j : Int) / 2) * 6 + (1 + ((j : Int) % 2)))))), (7, .int (iI (j : Int))), (6, .int (iI (g24 (lkF (τ 4)) 24))), (5, .int (iI (g24 (tgF (τ 4)) 24))), (4, .int (iI (sm (fun k => cel (τ 4) (0 + (k : Int) * 6 + 4)) N))), (3, .int (iI (sm (fun k => b2 (cel (τ 4) (0 + (k : Int) * 6 + 0) = 0)) N))), (2, .int (iI (sm (fun k => cel (τ 4) (0 + (k : Int) * 6 + 3)) N))), (1, .int (iI (N : Int))), (0, .ref (ad 0))]) (by decide +kernel) hl (by decide) rfl (fun ls hl => ?_)
                        refine lv_iload hx hb (i := 11) (x := iI 0) (by decide +kernel) (lv_at hl 1 rfl) ?_
                        refine lz_if_ne hx hb (a := 0) (off := 8) (tgt := 466) (by decide +kernel) (by decide) ⟨by decide, by decide⟩ (fun h9 => absurd h9 (by decide)) (fun _ => ?_)
                        refine lv_iload hx hb (i := 12) (x := iI 1) (by decide +kernel) (lv_at hl 0 rfl) ?_
                        refine lz_if_eq hx hb (a := 1) (off := 8) (tgt := 471) (by decide +kernel) (by decide) ⟨by decide, by decide⟩ (fun h9 => absurd h9 (by decide)) (fun _ => ?_)
                        refine lv_iload hx hb (i := 10) (x := iI z) (by decide +kernel) (lv_at hl 2 rfl) ?_
                        refine lv_goto hx hb (off := 5) (tgt := 473) (by decide +kernel) (by decide) ?_
                        refine lv_istore hx hb (i := 9) (lv' := [(9, .int (iI z)), (12, .int (iI 1)), (11, .int (iI 0)), (10, .int (iI z)), (8, .int (iI (cel (τ 4) (0 + ((j : Int) / 2) * 6 + (1 + ((j : Int) % 2)))))), (7, .int (iI (j : Int))), (6, .int (iI (g24 (lkF (τ 4)) 24))), (5, .int (iI (g24 (tgF (τ 4)) 24))), (4, .int (iI (sm (fun k => cel (τ 4) (0 + (k : Int) * 6 + 4)) N))), (3, .int (iI (sm (fun k => b2 (cel (τ 4) (0 + (k : Int) * 6 + 0) = 0)) N))), (2, .int (iI (sm (fun k => cel (τ 4) (0 + (k : Int) * 6 + 3)) N))), (1, .int (iI (N : Int))), (0, .ref (ad 0))]) (by decide +kernel) hl (by decide) rfl (fun ls hl => ?_)
                        refine lv_iinc hx hb (i := 10) (n := (-1)) (v := iI (z + (-1))) (lv' := [(10, .int (iI (z + (-1)))), (9, .int (iI z)), (12, .int (iI 1)), (11, .int (iI 0)), (8, .int (iI (cel (τ 4) (0 + ((j : Int) / 2) * 6 + (1 + ((j : Int) % 2)))))), (7, .int (iI (j : Int))), (6, .int (iI (g24 (lkF (τ 4)) 24))), (5, .int (iI (g24 (tgF (τ 4)) 24))), (4, .int (iI (sm (fun k => cel (τ 4) (0 + (k : Int) * 6 + 4)) N))), (3, .int (iI (sm (fun k => b2 (cel (τ 4) (0 + (k : Int) * 6 + 0) = 0)) N))), (2, .int (iI (sm (fun k => cel (τ 4) (0 + (k : Int) * 6 + 3)) N))), (1, .int (iI (N : Int))), (0, .ref (ad 0))]) (by decide +kernel) hl (k := 3) rfl (iI_add _ _) (by decide) rfl (fun ls hl => ?_)
                        refine lv_goto hx hb (off := (-141)) (tgt := 337) (by decide +kernel) (by decide) ?_
                        exact ih2 (j2 + 1) _ _ ls _ _ _ _ (by omega) (by omega) (nrv_is (by omega) hz2 hsd (by omega)) (by omega) (by omega) (lv_sub hl [0, 1, 4, 5, 6, 7, 8, 9, 10, 11, 12] rfl) hw
              ·
                refine lv_iconst hx hb (n := 1) (v := iI 1) (by decide +kernel) rfl ?_
                refine lv_goto hx hb (off := 4) (tgt := 398) (by decide +kernel) (by decide) ?_
                refine lv_istore hx hb (i := 11) (lv' := [(11, .int (iI 1)), (10, .int (iI z)), (9, .int (iI v)), (8, .int (iI (cel (τ 4) (0 + ((j : Int) / 2) * 6 + (1 + ((j : Int) % 2)))))), (7, .int (iI (j : Int))), (6, .int (iI (g24 (lkF (τ 4)) 24))), (5, .int (iI (g24 (tgF (τ 4)) 24))), (4, .int (iI (sm (fun k => cel (τ 4) (0 + (k : Int) * 6 + 4)) N))), (3, .int (iI (sm (fun k => b2 (cel (τ 4) (0 + (k : Int) * 6 + 0) = 0)) N))), (2, .int (iI (sm (fun k => cel (τ 4) (0 + (k : Int) * 6 + 3)) N))), (1, .int (iI (N : Int))), (0, .ref (ad 0))]) (by decide +kernel) hl (by decide) rfl (fun ls hl => ?_)
                refine lv_iload hx hb (i := 8) (x := iI (cel (τ 4) (0 + ((j : Int) / 2) * 6 + (1 + ((j : Int) % 2))))) (by decide +kernel) (lv_at hl 3 rfl) ?_
                refine lv_iload hx hb (i := 10) (x := iI z) (by decide +kernel) (lv_at hl 1 rfl) ?_
                refine lz_icmp_lt hx hb (a := (cel (τ 4) (0 + ((j : Int) / 2) * 6 + (1 + ((j : Int) % 2))))) (b := z) (off := 49) (tgt := 453) (by decide +kernel) (by decide) ⟨by omega, by omega⟩ ⟨by omega, by omega⟩ (fun h57 => ?_) (fun h57 => ?_)
                ·
                  refine lv_iconst hx hb (n := 0) (v := iI 0) (by decide +kernel) rfl ?_
                  refine lv_istore hx hb (i := 12) (lv' := [(12, .int (iI 0)), (11, .int (iI 1)), (10, .int (iI z)), (9, .int (iI v)), (8, .int (iI (cel (τ 4) (0 + ((j : Int) / 2) * 6 + (1 + ((j : Int) % 2)))))), (7, .int (iI (j : Int))), (6, .int (iI (g24 (lkF (τ 4)) 24))), (5, .int (iI (g24 (tgF (τ 4)) 24))), (4, .int (iI (sm (fun k => cel (τ 4) (0 + (k : Int) * 6 + 4)) N))), (3, .int (iI (sm (fun k => b2 (cel (τ 4) (0 + (k : Int) * 6 + 0) = 0)) N))), (2, .int (iI (sm (fun k => cel (τ 4) (0 + (k : Int) * 6 + 3)) N))), (1, .int (iI (N : Int))), (0, .ref (ad 0))]) (by decide +kernel) hl (by decide) rfl (fun ls hl => ?_)
                  refine lv_iload hx hb (i := 11) (x := iI 1) (by decide +kernel) (lv_at hl 1 rfl) ?_
                  refine lz_if_ne hx hb (a := 1) (off := 8) (tgt := 466) (by decide +kernel) (by decide) ⟨by decide, by decide⟩ (fun _ => ?_) (fun h9 => absurd (by decide) h9)
                  refine lv_iload hx hb (i := 10) (x := iI z) (by decide +kernel) (lv_at hl 2 rfl) ?_
                  refine lv_goto hx hb (off := 5) (tgt := 473) (by decide +kernel) (by decide) ?_
                  refine lv_istore hx hb (i := 9) (lv' := [(9, .int (iI z)), (12, .int (iI 0)), (11, .int (iI 1)), (10, .int (iI z)), (8, .int (iI (cel (τ 4) (0 + ((j : Int) / 2) * 6 + (1 + ((j : Int) % 2)))))), (7, .int (iI (j : Int))), (6, .int (iI (g24 (lkF (τ 4)) 24))), (5, .int (iI (g24 (tgF (τ 4)) 24))), (4, .int (iI (sm (fun k => cel (τ 4) (0 + (k : Int) * 6 + 4)) N))), (3, .int (iI (sm (fun k => b2 (cel (τ 4) (0 + (k : Int) * 6 + 0) = 0)) N))), (2, .int (iI (sm (fun k => cel (τ 4) (0 + (k : Int) * 6 + 3)) N))), (1, .int (iI (N : Int))), (0, .ref (ad 0))]) (by decide +kernel) hl (by decide) rfl (fun ls hl => ?_)
                  refine lv_iinc hx hb (i := 10) (n := (-1)) (v := iI (z + (-1))) (lv' := [(10, .int (iI (z + (-1)))), (9, .int (iI z)), (12, .int (iI 0)), (11, .int (iI 1)), (8, .int (iI (cel (τ 4) (0 + ((j : Int) / 2) * 6 + (1 + ((j : Int) % 2)))))), (7, .int (iI (j : Int))), (6, .int (iI (g24 (lkF (τ 4)) 24))), (5, .int (iI (g24 (tgF (τ 4)) 24))), (4, .int (iI (sm (fun k => cel (τ 4) (0 + (k : Int) * 6 + 4)) N))), (3, .int (iI (sm (fun k => b2 (cel (τ 4) (0 + (k : Int) * 6 + 0) = 0)) N))), (2, .int (iI (sm (fun k => cel (τ 4) (0 + (k : Int) * 6 + 3)) N))), (1, .int (iI (N : Int))), (0, .ref (ad 0))]) (by decide +kernel) hl (k := 3) rfl (iI_add _ _) (by decide) rfl (fun ls hl => ?_)
                  refine lv_goto hx hb (off := (-141)) (tgt := 337) (by decide +kernel) (by decide) ?_
                  exact ih2 (j2 + 1) _ _ ls _ _ _ _ (by omega) (by omega) (nrv_is (by omega) hz2 hsd (by omega)) (by omega) (by omega) (lv_sub hl [0, 1, 4, 5, 6, 7, 8, 9, 10, 11, 12] rfl) hw
                ·
                  refine lv_aload_n hx hb (k := 0) (i := 0) (x := ad 0) (by decide +kernel) rfl (lv_at hl 11 rfl) ?_
                  refine lv_iload hx hb (i := 7) (x := iI (j : Int)) (by decide +kernel) (lv_at hl 4 rfl) ?_
                  refine lv_iconst hx hb (n := 2) (v := iI 2) (by decide +kernel) rfl ?_
                  refine lz_irem hx hb (a := (j : Int)) (b := 2) (by decide +kernel) ⟨by omega, by omega, by omega, by omega⟩ ?_
                  refine lv_iload hx hb (i := 8) (x := iI (cel (τ 4) (0 + ((j : Int) / 2) * 6 + (1 + ((j : Int) % 2))))) (by decide +kernel) (lv_at hl 3 rfl) ?_
                  refine lv_iload hx hb (i := 10) (x := iI z) (by decide +kernel) (lv_at hl 1 rfl) ?_
                  refine lz_isub hx hb (a := (cel (τ 4) (0 + ((j : Int) / 2) * 6 + (1 + ((j : Int) % 2))))) (b := z) (by decide +kernel) ?_
                  refine lk_callH (x := 237) (rest := []) (as := [.ref (ad 0), .int (iI ((j : Int) % 2)), .int (iI ((cel (τ 4) (0 + ((j : Int) / 2) * 6 + (1 + ((j : Int) % 2)))) - z))]) (n := 3) F hw hl.1 (K_lockAt (X := X) (τ := τ) (r := ((j : Int) % 2)) (p := ((cel (τ 4) (0 + ((j : Int) / 2) * 6 + (1 + ((j : Int) % 2)))) - z)) F.l0 (by omega) (by omega)) (lr69 16 rfl) (lr69 17 rfl) (lr69 18 rfl) (lr69 6 rfl) ⟨by decide, by decide, by decide +kernel⟩ rfl ⟨Nat.le_of_ble_eq_true rfl, Nat.le_of_ble_eq_true rfl, (by show _ ≤ 2400; omega), (by show _ ≤ 14400; omega)⟩ (Nat.le_of_ble_eq_true rfl) (by decide +kernel) rfl (fun v9 V9 hG H locs hw => ?_)
                  obtain ⟨rfl, rfl⟩ := hG
                  refine W.eq (g2 := F0 m 420 ls [.int (iI (usz (τ 4) ((j : Int) % 2) ((cel (τ 4) (0 + ((j : Int) / 2) * 6 + (1 + ((j : Int) % 2)))) - z)))]) rfl ?_
                  refine lz_if_le hx hb (a := (usz (τ 4) ((j : Int) % 2) ((cel (τ 4) (0 + ((j : Int) / 2) * 6 + (1 + ((j : Int) % 2)))) - z))) (off := 33) (tgt := 453) (by decide +kernel) (by decide) ⟨by omega, by omega⟩ (fun h59 => ?_) (fun h59 => ?_)
                  ·
                    refine lv_iconst hx hb (n := 0) (v := iI 0) (by decide +kernel) rfl ?_
                    refine lv_istore hx hb (i := 12) (lv' := [(12, .int (iI 0)), (11, .int (iI 1)), (10, .int (iI z)), (9, .int (iI v)), (8, .int (iI (cel (τ 4) (0 + ((j : Int) / 2) * 6 + (1 + ((j : Int) % 2)))))), (7, .int (iI (j : Int))), (6, .int (iI (g24 (lkF (τ 4)) 24))), (5, .int (iI (g24 (tgF (τ 4)) 24))), (4, .int (iI (sm (fun k => cel (τ 4) (0 + (k : Int) * 6 + 4)) N))), (3, .int (iI (sm (fun k => b2 (cel (τ 4) (0 + (k : Int) * 6 + 0) = 0)) N))), (2, .int (iI (sm (fun k => cel (τ 4) (0 + (k : Int) * 6 + 3)) N))), (1, .int (iI (N : Int))), (0, .ref (ad 0))]) (by decide +kernel) hl (by decide) rfl (fun ls hl => ?_)
                    refine lv_iload hx hb (i := 11) (x := iI 1) (by decide +kernel) (lv_at hl 1 rfl) ?_
                    refine lz_if_ne hx hb (a := 1) (off := 8) (tgt := 466) (by decide +kernel) (by decide) ⟨by decide, by decide⟩ (fun _ => ?_) (fun h9 => absurd (by decide) h9)
                    refine lv_iload hx hb (i := 10) (x := iI z) (by decide +kernel) (lv_at hl 2 rfl) ?_
                    refine lv_goto hx hb (off := 5) (tgt := 473) (by decide +kernel) (by decide) ?_
                    refine lv_istore hx hb (i := 9) (lv' := [(9, .int (iI z)), (12, .int (iI 0)), (11, .int (iI 1)), (10, .int (iI z)), (8, .int (iI (cel (τ 4) (0 + ((j : Int) / 2) * 6 + (1 + ((j : Int) % 2)))))), (7, .int (iI (j : Int))), (6, .int (iI (g24 (lkF (τ 4)) 24))), (5, .int (iI (g24 (tgF (τ 4)) 24))), (4, .int (iI (sm (fun k => cel (τ 4) (0 + (k : Int) * 6 + 4)) N))), (3, .int (iI (sm (fun k => b2 (cel (τ 4) (0 + (k : Int) * 6 + 0) = 0)) N))), (2, .int (iI (sm (fun k => cel (τ 4) (0 + (k : Int) * 6 + 3)) N))), (1, .int (iI (N : Int))), (0, .ref (ad 0))]) (by decide +kernel) hl (by decide) rfl (fun ls hl => ?_)
                    refine lv_iinc hx hb (i := 10) (n := (-1)) (v := iI (z + (-1))) (lv' := [(10, .int (iI (z + (-1)))), (9, .int (iI z)), (12, .int (iI 0)), (11, .int (iI 1)), (8, .int (iI (cel (τ 4) (0 + ((j : Int) / 2) * 6 + (1 + ((j : Int) % 2)))))), (7, .int (iI (j : Int))), (6, .int (iI (g24 (lkF (τ 4)) 24))), (5, .int (iI (g24 (tgF (τ 4)) 24))), (4, .int (iI (sm (fun k => cel (τ 4) (0 + (k : Int) * 6 + 4)) N))), (3, .int (iI (sm (fun k => b2 (cel (τ 4) (0 + (k : Int) * 6 + 0) = 0)) N))), (2, .int (iI (sm (fun k => cel (τ 4) (0 + (k : Int) * 6 + 3)) N))), (1, .int (iI (N : Int))), (0, .ref (ad 0))]) (by decide +kernel) hl (k := 3) rfl (iI_add _ _) (by decide) rfl (fun ls hl => ?_)
                    refine lv_goto hx hb (off := (-141)) (tgt := 337) (by decide +kernel) (by decide) ?_
                    exact ih2 (j2 + 1) _ _ ls _ _ _ _ (by omega) (by omega) (nrv_is (by omega) hz2 hsd (by omega)) (by omega) (by omega) (lv_sub hl [0, 1, 4, 5, 6, 7, 8, 9, 10, 11, 12] rfl) hw
                  ·
                    refine lv_aload_n hx hb (k := 0) (i := 0) (x := ad 0) (by decide +kernel) rfl (lv_at hl 11 rfl) ?_
                    refine lv_iload hx hb (i := 7) (x := iI (j : Int)) (by decide +kernel) (lv_at hl 4 rfl) ?_
                    refine lv_iconst hx hb (n := 2) (v := iI 2) (by decide +kernel) rfl ?_
                    refine lz_idiv hx hb (a := (j : Int)) (b := 2) (by decide +kernel) ⟨by omega, by omega, by omega, by omega⟩ ?_
                    refine lv_iconst hx hb (n := 0) (v := iI 0) (by decide +kernel) rfl ?_
                    refine lk_callH (x := 163) (rest := []) (as := [.ref (ad 0), .int (iI ((j : Int) / 2)), .int (iI 0)]) (n := 3) F hw hl.1 (K_of (X := X) (τ := τ) (f := ((j : Int) / 2)) (w := 0) (B := B) F.l0 (by omega) (by omega) hS) (lr69 22 rfl) (lr69 23 rfl) (lr69 24 rfl) (lr69 6 rfl) ⟨by decide, by decide, by decide +kernel⟩ rfl ⟨Nat.le_of_ble_eq_true rfl, Nat.le_of_ble_eq_true rfl, (by show _ ≤ 2400; omega), (by show _ ≤ 14400; omega)⟩ (Nat.le_of_ble_eq_true rfl) (by decide +kernel) rfl (fun v9 V9 hG H locs hw => ?_)
                    obtain ⟨rfl, rfl⟩ := hG
                    refine W.eq (g2 := F0 m 432 ls [.int (iI (cel (τ 4) (0 + ((j : Int) / 2) * 6 + 0)))]) rfl ?_
                    refine lv_iconst hx hb (n := 1) (v := iI 1) (by decide +kernel) rfl ?_
                    refine lz_icmp_eq hx hb (a := (cel (τ 4) (0 + ((j : Int) / 2) * 6 + 0))) (b := 1) (off := 16) (tgt := 449) (by decide +kernel) (by decide) ⟨by omega, by omega⟩ ⟨by decide, by decide⟩ (fun h61 => ?_) (fun h61 => ?_)
                    ·
                      refine lv_iconst hx hb (n := 1) (v := iI 1) (by decide +kernel) rfl ?_
                      refine lv_goto hx hb (off := 4) (tgt := 454) (by decide +kernel) (by decide) ?_
                      refine lv_istore hx hb (i := 12) (lv' := [(12, .int (iI 1)), (11, .int (iI 1)), (10, .int (iI z)), (9, .int (iI v)), (8, .int (iI (cel (τ 4) (0 + ((j : Int) / 2) * 6 + (1 + ((j : Int) % 2)))))), (7, .int (iI (j : Int))), (6, .int (iI (g24 (lkF (τ 4)) 24))), (5, .int (iI (g24 (tgF (τ 4)) 24))), (4, .int (iI (sm (fun k => cel (τ 4) (0 + (k : Int) * 6 + 4)) N))), (3, .int (iI (sm (fun k => b2 (cel (τ 4) (0 + (k : Int) * 6 + 0) = 0)) N))), (2, .int (iI (sm (fun k => cel (τ 4) (0 + (k : Int) * 6 + 3)) N))), (1, .int (iI (N : Int))), (0, .ref (ad 0))]) (by decide +kernel) hl (by decide) rfl (fun ls hl => ?_)
                      refine lv_iload hx hb (i := 11) (x := iI 1) (by decide +kernel) (lv_at hl 1 rfl) ?_
                      refine lz_if_ne hx hb (a := 1) (off := 8) (tgt := 466) (by decide +kernel) (by decide) ⟨by decide, by decide⟩ (fun _ => ?_) (fun h9 => absurd (by decide) h9)
                      refine lv_iload hx hb (i := 10) (x := iI z) (by decide +kernel) (lv_at hl 2 rfl) ?_
                      refine lv_goto hx hb (off := 5) (tgt := 473) (by decide +kernel) (by decide) ?_
                      refine lv_istore hx hb (i := 9) (lv' := [(9, .int (iI z)), (12, .int (iI 1)), (11, .int (iI 1)), (10, .int (iI z)), (8, .int (iI (cel (τ 4) (0 + ((j : Int) / 2) * 6 + (1 + ((j : Int) % 2)))))), (7, .int (iI (j : Int))), (6, .int (iI (g24 (lkF (τ 4)) 24))), (5, .int (iI (g24 (tgF (τ 4)) 24))), (4, .int (iI (sm (fun k => cel (τ 4) (0 + (k : Int) * 6 + 4)) N))), (3, .int (iI (sm (fun k => b2 (cel (τ 4) (0 + (k : Int) * 6 + 0) = 0)) N))), (2, .int (iI (sm (fun k => cel (τ 4) (0 + (k : Int) * 6 + 3)) N))), (1, .int (iI (N : Int))), (0, .ref (ad 0))]) (by decide +kernel) hl (by decide) rfl (fun ls hl => ?_)
                      refine lv_iinc hx hb (i := 10) (n := (-1)) (v := iI (z + (-1))) (lv' := [(10, .int (iI (z + (-1)))), (9, .int (iI z)), (12, .int (iI 1)), (11, .int (iI 1)), (8, .int (iI (cel (τ 4) (0 + ((j : Int) / 2) * 6 + (1 + ((j : Int) % 2)))))), (7, .int (iI (j : Int))), (6, .int (iI (g24 (lkF (τ 4)) 24))), (5, .int (iI (g24 (tgF (τ 4)) 24))), (4, .int (iI (sm (fun k => cel (τ 4) (0 + (k : Int) * 6 + 4)) N))), (3, .int (iI (sm (fun k => b2 (cel (τ 4) (0 + (k : Int) * 6 + 0) = 0)) N))), (2, .int (iI (sm (fun k => cel (τ 4) (0 + (k : Int) * 6 + 3)) N))), (1, .int (iI (N : Int))), (0, .ref (ad 0))]) (by decide +kernel) hl (k := 3) rfl (iI_add _ _) (by decide) rfl (fun ls hl => ?_)
                      refine lv_goto hx hb (off := (-141)) (tgt := 337) (by decide +kernel) (by decide) ?_
                      exact ih2 (j2 + 1) _ _ ls _ _ _ _ (by omega) (by omega) (nrv_is (by omega) hz2 hsd (by omega)) (by omega) (by omega) (lv_sub hl [0, 1, 4, 5, 6, 7, 8, 9, 10, 11, 12] rfl) hw
                    ·
                      refine lv_aload_n hx hb (k := 0) (i := 0) (x := ad 0) (by decide +kernel) rfl (lv_at hl 11 rfl) ?_
                      refine lv_iload hx hb (i := 7) (x := iI (j : Int)) (by decide +kernel) (lv_at hl 4 rfl) ?_
                      refine lv_iconst hx hb (n := 2) (v := iI 2) (by decide +kernel) rfl ?_
                      refine lz_idiv hx hb (a := (j : Int)) (b := 2) (by decide +kernel) ⟨by omega, by omega, by omega, by omega⟩ ?_
                      refine lv_iconst hx hb (n := 3) (v := iI 3) (by decide +kernel) rfl ?_
                      refine lk_callH (x := 163) (rest := []) (as := [.ref (ad 0), .int (iI ((j : Int) / 2)), .int (iI 3)]) (n := 3) F hw hl.1 (K_of (X := X) (τ := τ) (f := ((j : Int) / 2)) (w := 3) (B := B) F.l0 (by omega) (by omega) hS) (lr69 22 rfl) (lr69 23 rfl) (lr69 24 rfl) (lr69 6 rfl) ⟨by decide, by decide, by decide +kernel⟩ rfl ⟨Nat.le_of_ble_eq_true rfl, Nat.le_of_ble_eq_true rfl, (by show _ ≤ 2400; omega), (by show _ ≤ 14400; omega)⟩ (Nat.le_of_ble_eq_true rfl) (by decide +kernel) rfl (fun v9 V9 hG H locs hw => ?_)
                      obtain ⟨rfl, rfl⟩ := hG
                      refine W.eq (g2 := F0 m 445 ls [.int (iI (cel (τ 4) (0 + ((j : Int) / 2) * 6 + 3)))]) rfl ?_
                      refine lv_iconst hx hb (n := 1) (v := iI 1) (by decide +kernel) rfl ?_
                      refine lz_icmp_ne hx hb (a := (cel (τ 4) (0 + ((j : Int) / 2) * 6 + 3))) (b := 1) (off := 7) (tgt := 453) (by decide +kernel) (by decide) ⟨by omega, by omega⟩ ⟨by decide, by decide⟩ (fun h63 => ?_) (fun h63 => ?_)
                      ·
                        refine lv_iconst hx hb (n := 0) (v := iI 0) (by decide +kernel) rfl ?_
                        refine lv_istore hx hb (i := 12) (lv' := [(12, .int (iI 0)), (11, .int (iI 1)), (10, .int (iI z)), (9, .int (iI v)), (8, .int (iI (cel (τ 4) (0 + ((j : Int) / 2) * 6 + (1 + ((j : Int) % 2)))))), (7, .int (iI (j : Int))), (6, .int (iI (g24 (lkF (τ 4)) 24))), (5, .int (iI (g24 (tgF (τ 4)) 24))), (4, .int (iI (sm (fun k => cel (τ 4) (0 + (k : Int) * 6 + 4)) N))), (3, .int (iI (sm (fun k => b2 (cel (τ 4) (0 + (k : Int) * 6 + 0) = 0)) N))), (2, .int (iI (sm (fun k => cel (τ 4) (0 + (k : Int) * 6 + 3)) N))), (1, .int (iI (N : Int))), (0, .ref (ad 0))]) (by decide +kernel) hl (by decide) rfl (fun ls hl => ?_)
                        refine lv_iload hx hb (i := 11) (x := iI 1) (by decide +kernel) (lv_at hl 1 rfl) ?_
                        refine lz_if_ne hx hb (a := 1) (off := 8) (tgt := 466) (by decide +kernel) (by decide) ⟨by decide, by decide⟩ (fun _ => ?_) (fun h9 => absurd (by decide) h9)
                        refine lv_iload hx hb (i := 10) (x := iI z) (by decide +kernel) (lv_at hl 2 rfl) ?_
                        refine lv_goto hx hb (off := 5) (tgt := 473) (by decide +kernel) (by decide) ?_
                        refine lv_istore hx hb (i := 9) (lv' := [(9, .int (iI z)), (12, .int (iI 0)), (11, .int (iI 1)), (10, .int (iI z)), (8, .int (iI (cel (τ 4) (0 + ((j : Int) / 2) * 6 + (1 + ((j : Int) % 2)))))), (7, .int (iI (j : Int))), (6, .int (iI (g24 (lkF (τ 4)) 24))), (5, .int (iI (g24 (tgF (τ 4)) 24))), (4, .int (iI (sm (fun k => cel (τ 4) (0 + (k : Int) * 6 + 4)) N))), (3, .int (iI (sm (fun k => b2 (cel (τ 4) (0 + (k : Int) * 6 + 0) = 0)) N))), (2, .int (iI (sm (fun k => cel (τ 4) (0 + (k : Int) * 6 + 3)) N))), (1, .int (iI (N : Int))), (0, .ref (ad 0))]) (by decide +kernel) hl (by decide) rfl (fun ls hl => ?_)
                        refine lv_iinc hx hb (i := 10) (n := (-1)) (v := iI (z + (-1))) (lv' := [(10, .int (iI (z + (-1)))), (9, .int (iI z)), (12, .int (iI 0)), (11, .int (iI 1)), (8, .int (iI (cel (τ 4) (0 + ((j : Int) / 2) * 6 + (1 + ((j : Int) % 2)))))), (7, .int (iI (j : Int))), (6, .int (iI (g24 (lkF (τ 4)) 24))), (5, .int (iI (g24 (tgF (τ 4)) 24))), (4, .int (iI (sm (fun k => cel (τ 4) (0 + (k : Int) * 6 + 4)) N))), (3, .int (iI (sm (fun k => b2 (cel (τ 4) (0 + (k : Int) * 6 + 0) = 0)) N))), (2, .int (iI (sm (fun k => cel (τ 4) (0 + (k : Int) * 6 + 3)) N))), (1, .int (iI (N : Int))), (0, .ref (ad 0))]) (by decide +kernel) hl (k := 3) rfl (iI_add _ _) (by decide) rfl (fun ls hl => ?_)
                        refine lv_goto hx hb (off := (-141)) (tgt := 337) (by decide +kernel) (by decide) ?_
                        exact ih2 (j2 + 1) _ _ ls _ _ _ _ (by omega) (by omega) (nrv_is (by omega) hz2 hsd (by omega)) (by omega) (by omega) (lv_sub hl [0, 1, 4, 5, 6, 7, 8, 9, 10, 11, 12] rfl) hw
                      ·
                        refine lv_iconst hx hb (n := 1) (v := iI 1) (by decide +kernel) rfl ?_
                        refine lv_goto hx hb (off := 4) (tgt := 454) (by decide +kernel) (by decide) ?_
                        refine lv_istore hx hb (i := 12) (lv' := [(12, .int (iI 1)), (11, .int (iI 1)), (10, .int (iI z)), (9, .int (iI v)), (8, .int (iI (cel (τ 4) (0 + ((j : Int) / 2) * 6 + (1 + ((j : Int) % 2)))))), (7, .int (iI (j : Int))), (6, .int (iI (g24 (lkF (τ 4)) 24))), (5, .int (iI (g24 (tgF (τ 4)) 24))), (4, .int (iI (sm (fun k => cel (τ 4) (0 + (k : Int) * 6 + 4)) N))), (3, .int (iI (sm (fun k => b2 (cel (τ 4) (0 + (k : Int) * 6 + 0) = 0)) N))), (2, .int (iI (sm (fun k => cel (τ 4) (0 + (k : Int) * 6 + 3)) N))), (1, .int (iI (N : Int))), (0, .ref (ad 0))]) (by decide +kernel) hl (by decide) rfl (fun ls hl => ?_)
                        refine lv_iload hx hb (i := 11) (x := iI 1) (by decide +kernel) (lv_at hl 1 rfl) ?_
                        refine lz_if_ne hx hb (a := 1) (off := 8) (tgt := 466) (by decide +kernel) (by decide) ⟨by decide, by decide⟩ (fun _ => ?_) (fun h9 => absurd (by decide) h9)
                        refine lv_iload hx hb (i := 10) (x := iI z) (by decide +kernel) (lv_at hl 2 rfl) ?_
                        refine lv_goto hx hb (off := 5) (tgt := 473) (by decide +kernel) (by decide) ?_
                        refine lv_istore hx hb (i := 9) (lv' := [(9, .int (iI z)), (12, .int (iI 1)), (11, .int (iI 1)), (10, .int (iI z)), (8, .int (iI (cel (τ 4) (0 + ((j : Int) / 2) * 6 + (1 + ((j : Int) % 2)))))), (7, .int (iI (j : Int))), (6, .int (iI (g24 (lkF (τ 4)) 24))), (5, .int (iI (g24 (tgF (τ 4)) 24))), (4, .int (iI (sm (fun k => cel (τ 4) (0 + (k : Int) * 6 + 4)) N))), (3, .int (iI (sm (fun k => b2 (cel (τ 4) (0 + (k : Int) * 6 + 0) = 0)) N))), (2, .int (iI (sm (fun k => cel (τ 4) (0 + (k : Int) * 6 + 3)) N))), (1, .int (iI (N : Int))), (0, .ref (ad 0))]) (by decide +kernel) hl (by decide) rfl (fun ls hl => ?_)
                        refine lv_iinc hx hb (i := 10) (n := (-1)) (v := iI (z + (-1))) (lv' := [(10, .int (iI (z + (-1)))), (9, .int (iI z)), (12, .int (iI 1)), (11, .int (iI 1)), (8, .int (iI (cel (τ 4) (0 + ((j : Int) / 2) * 6 + (1 + ((j : Int) % 2)))))), (7, .int (iI (j : Int))), (6, .int (iI (g24 (lkF (τ 4)) 24))), (5, .int (iI (g24 (tgF (τ 4)) 24))), (4, .int (iI (sm (fun k => cel (τ 4) (0 + (k : Int) * 6 + 4)) N))), (3, .int (iI (sm (fun k => b2 (cel (τ 4) (0 + (k : Int) * 6 + 0) = 0)) N))), (2, .int (iI (sm (fun k => cel (τ 4) (0 + (k : Int) * 6 + 3)) N))), (1, .int (iI (N : Int))), (0, .ref (ad 0))]) (by decide +kernel) hl (k := 3) rfl (iI_add _ _) (by decide) rfl (fun ls hl => ?_)
                        refine lv_goto hx hb (off := (-141)) (tgt := 337) (by decide +kernel) (by decide) ?_
                        exact ih2 (j2 + 1) _ _ ls _ _ _ _ (by omega) (by omega) (nrv_is (by omega) hz2 hsd (by omega)) (by omega) (by omega) (lv_sub hl [0, 1, 4, 5, 6, 7, 8, 9, 10, 11, 12] rfl) hw
    exact far 11 0 11 (-13) ls _ _ _ _ rfl rfl rfl (by omega) (by omega) (lv_sub hl [0, 1, 2, 3, 4, 5, 6, 7, 8, 9, 10] rfl) hw
theorem rk_tugs {p : Program} {e : Env} {s : State} {m : MethodId} {args : Array Value} {below : List Frame} {meth : Method} {c : Code} {X : va_W} {τ : SZ} {B : Int} {N : Nat} (F : FL D A ad adV cA p l s m args c method_40_code 13) (hlk : meth.locks = false) (hrt : meth.sig.returnType = some .boolean) (hI : Iv B (τ 4)) (hN : cel (τ 4) 107 = (N : Int)) : ∀ (q j : Nat) (z t k : Int) (ls : Array Slot) (H : Heap) (locs : List Loc) (cl sl : Nat), j + q = 24 → z = (j : Int) → t = g24 (tgF (τ 4)) j → k = g24 (lkF (τ 4)) j → cl ≤ 310 + 4 * j → sl ≤ 1860 + 24 * j → lv_has ls 13 [(7, .int (iI z)), (6, .int (iI k)), (5, .int (iI t)), (4, .int (iI (sm (fun k => cel (τ 4) (0 + (k : Int) * 6 + 4)) N))), (3, .int (iI (sm (fun k => b2 (cel (τ 4) (0 + (k : Int) * 6 + 0) = 0)) N))), (2, .int (iI (sm (fun k => cel (τ 4) (0 + (k : Int) * 6 + 3)) N))), (1, .int (iI (N : Int))), (0, .ref (ad 0))] → WV D A s (wO ad cA (sz τ) ++ X) H locs → W p l e (rmK 26 2400 14400) s m args below meth c H locs cl sl (vx_MQ below (LQ D A (RV ad cA X 1 τ)) (fun _ _ _ => False) args s 2400 14400 A) (F0 m 198 ls []) := by
  have hx := F.1
  have hb := F.2.1
  have hS := hI.1
  have hn := hS.n
  have htu := hS.tu
  have hBB := hS.B
  have hmx : mX m7_account = 1 := rfl
  intro q
  induction q with
  | zero =>
    intro j z t k ls H locs cl sl hk hz ht hlo hcl hsl hl hw
    have e24 : j = 24 := by omega
    subst e24
    subst ht
    subst hlo
    refine lv_iload hx hb (i := 7) (x := iI z) (by decide +kernel) (lv_at hl 0 rfl) ?_
    refine lv_bipush hx hb (n := 24) (v := iI 24) (by decide +kernel) (by decide) ?_
    refine lz_icmp_ge hx hb (a := z) (b := 24) (off := 102) (tgt := 304) (by decide +kernel) (by decide) ⟨by omega, by omega⟩ ⟨by decide, by decide⟩ (fun _ => ?_) (fun h9 => absurd (by omega) h9)
    refine lv_iconst hx hb (n := 0) (v := iI 0) (by decide +kernel) rfl ?_
    refine lv_istore hx hb (i := 7) (lv' := [(7, .int (iI 0)), (6, .int (iI (g24 (lkF (τ 4)) 24))), (5, .int (iI (g24 (tgF (τ 4)) 24))), (4, .int (iI (sm (fun k => cel (τ 4) (0 + (k : Int) * 6 + 4)) N))), (3, .int (iI (sm (fun k => b2 (cel (τ 4) (0 + (k : Int) * 6 + 0) = 0)) N))), (2, .int (iI (sm (fun k => cel (τ 4) (0 + (k : Int) * 6 + 3)) N))), (1, .int (iI (N : Int))), (0, .ref (ad 0))]) (by decide +kernel) hl (by decide) rfl (fun ls hl => ?_)
    exact rk_locks F hlk hrt hI hN (2 * N) 0 0 ls _ _ _ _ (by omega) rfl (by omega) (by omega) (lv_sub hl [0, 1, 2, 3, 4, 5, 6, 7] rfl) hw
  | succ q ih =>
    intro j z t k ls H locs cl sl hk hz ht hlo hcl hsl hl hw
    subst hz
    have hr : 0 ≤ (j : Int) / 12 ∧ (j : Int) / 12 < 2 := by omega
    have hov := hI.2.1.ov (p := (j : Int) % 12) hr
    have hus := hS.us (p := (j : Int) % 12) hr
    have hpw : ¬ whz (τ 4) ((j : Int) / 12) ((j : Int) % 12) = -1 → ¬ whz (τ 4) ((j : Int) / 12) ((j : Int) % 12) = 8 → cel (τ 4) (0 + whz (τ 4) ((j : Int) / 12) ((j : Int) % 12) * 6 + (1 + ((j : Int) / 12))) = (j : Int) % 12 := fun q1 q2 => (Co.pwh hI hr q1 q2).2.2
    have gt : ∀ x, x = b2 (whz (τ 4) ((j : Int) / 12) ((j : Int) % 12) = 8) → t + x = g24 (tgF (τ 4)) (j + 1) := fun x hx9 => by rw [ht, hx9]; rfl
    have gk : ∀ x, x = b2 (0 < usz (τ 4) ((j : Int) / 12) ((j : Int) % 12)) → k + x = g24 (lkF (τ 4)) (j + 1) := fun x hx9 => by rw [hlo, hx9]; rfl
    refine lv_iload hx hb (i := 7) (x := iI (j : Int)) (by decide +kernel) (lv_at hl 0 rfl) ?_
    refine lv_bipush hx hb (n := 24) (v := iI 24) (by decide +kernel) (by decide) ?_
    refine lz_icmp_ge hx hb (a := (j : Int)) (b := 24) (off := 102) (tgt := 304) (by decide +kernel) (by decide) ⟨by omega, by omega⟩ ⟨by decide, by decide⟩ (fun h9 => absurd h9 (by omega)) (fun _ => ?_)
    refine lv_aload_n hx hb (k := 0) (i := 0) (x := ad 0) (by decide +kernel) rfl (lv_at hl 7 rfl) ?_
    refine lv_iload hx hb (i := 7) (x := iI (j : Int)) (by decide +kernel) (lv_at hl 0 rfl) ?_
    refine lv_bipush hx hb (n := 12) (v := iI 12) (by decide +kernel) (by decide) ?_
    refine lz_idiv hx hb (a := (j : Int)) (b := 12) (by decide +kernel) ⟨by omega, by omega, by omega, by omega⟩ ?_
    refine lv_iload hx hb (i := 7) (x := iI (j : Int)) (by decide +kernel) (lv_at hl 0 rfl) ?_
    refine lv_bipush hx hb (n := 12) (v := iI 12) (by decide +kernel) (by decide) ?_
    refine lz_irem hx hb (a := (j : Int)) (b := 12) (by decide +kernel) ⟨by omega, by omega, by omega, by omega⟩ ?_
    refine lk_callH (x := 171) (rest := []) (as := [.ref (ad 0), .int (iI ((j : Int) / 12)), .int (iI ((j : Int) % 12))]) (n := 3) F hw hl.1 (K_at (X := X) (τ := τ) (r := ((j : Int) / 12)) (p := ((j : Int) % 12)) F.l0 (by omega) (by omega)) (lr69 13 rfl) (lr69 14 rfl) (lr69 15 rfl) (lr69 6 rfl) ⟨by decide, by decide, by decide +kernel⟩ rfl ⟨Nat.le_of_ble_eq_true rfl, Nat.le_of_ble_eq_true rfl, (by show _ ≤ 2400; omega), (by show _ ≤ 14400; omega)⟩ (Nat.le_of_ble_eq_true rfl) (by decide +kernel) rfl (fun v9 V9 hG H locs hw => ?_)
    obtain ⟨rfl, rfl⟩ := hG
    refine W.eq (g2 := F0 m 219 ls [.int (iI (whz (τ 4) ((j : Int) / 12) ((j : Int) % 12)))]) rfl ?_
    refine lv_istore hx hb (i := 8) (lv' := [(8, .int (iI (whz (τ 4) ((j : Int) / 12) ((j : Int) % 12)))), (7, .int (iI (j : Int))), (6, .int (iI k)), (5, .int (iI t)), (4, .int (iI (sm (fun k => cel (τ 4) (0 + (k : Int) * 6 + 4)) N))), (3, .int (iI (sm (fun k => b2 (cel (τ 4) (0 + (k : Int) * 6 + 0) = 0)) N))), (2, .int (iI (sm (fun k => cel (τ 4) (0 + (k : Int) * 6 + 3)) N))), (1, .int (iI (N : Int))), (0, .ref (ad 0))]) (by decide +kernel) hl (by decide) rfl (fun ls hl => ?_)
    refine lv_iload hx hb (i := 5) (x := iI t) (by decide +kernel) (lv_at hl 3 rfl) ?_
    refine lv_iload hx hb (i := 8) (x := iI (whz (τ 4) ((j : Int) / 12) ((j : Int) % 12))) (by decide +kernel) (lv_at hl 0 rfl) ?_
    refine lv_bipush hx hb (n := 8) (v := iI 8) (by decide +kernel) (by decide) ?_
    refine lz_icmp_ne hx hb (a := (whz (τ 4) ((j : Int) / 12) ((j : Int) % 12))) (b := 8) (off := 7) (tgt := 234) (by decide +kernel) (by decide) ⟨by omega, by omega⟩ ⟨by decide, by decide⟩ (fun h2 => ?_) (fun h2 => ?_)
    ·
      refine lv_iconst hx hb (n := 0) (v := iI 0) (by decide +kernel) rfl ?_
      refine lz_iadd hx hb (a := t) (b := 0) (by decide +kernel) ?_
      refine lv_istore hx hb (i := 5) (lv' := [(5, .int (iI (t + 0))), (8, .int (iI (whz (τ 4) ((j : Int) / 12) ((j : Int) % 12)))), (7, .int (iI (j : Int))), (6, .int (iI k)), (4, .int (iI (sm (fun k => cel (τ 4) (0 + (k : Int) * 6 + 4)) N))), (3, .int (iI (sm (fun k => b2 (cel (τ 4) (0 + (k : Int) * 6 + 0) = 0)) N))), (2, .int (iI (sm (fun k => cel (τ 4) (0 + (k : Int) * 6 + 3)) N))), (1, .int (iI (N : Int))), (0, .ref (ad 0))]) (by decide +kernel) hl (by decide) rfl (fun ls hl => ?_)
      refine lv_iload hx hb (i := 6) (x := iI k) (by decide +kernel) (lv_at hl 3 rfl) ?_
      refine lv_aload_n hx hb (k := 0) (i := 0) (x := ad 0) (by decide +kernel) rfl (lv_at hl 8 rfl) ?_
      refine lv_iload hx hb (i := 7) (x := iI (j : Int)) (by decide +kernel) (lv_at hl 2 rfl) ?_
      refine lv_bipush hx hb (n := 12) (v := iI 12) (by decide +kernel) (by decide) ?_
      refine lz_idiv hx hb (a := (j : Int)) (b := 12) (by decide +kernel) ⟨by omega, by omega, by omega, by omega⟩ ?_
      refine lv_iload hx hb (i := 7) (x := iI (j : Int)) (by decide +kernel) (lv_at hl 2 rfl) ?_
      refine lv_bipush hx hb (n := 12) (v := iI 12) (by decide +kernel) (by decide) ?_
      refine lz_irem hx hb (a := (j : Int)) (b := 12) (by decide +kernel) ⟨by omega, by omega, by omega, by omega⟩ ?_
      refine lk_callH (x := 237) (rest := [.int (iI k)]) (as := [.ref (ad 0), .int (iI ((j : Int) / 12)), .int (iI ((j : Int) % 12))]) (n := 3) F hw hl.1 (K_lockAt (X := X) (τ := τ) (r := ((j : Int) / 12)) (p := ((j : Int) % 12)) F.l0 (by omega) (by omega)) (lr69 16 rfl) (lr69 17 rfl) (lr69 18 rfl) (lr69 6 rfl) ⟨by decide, by decide, by decide +kernel⟩ rfl ⟨Nat.le_of_ble_eq_true rfl, Nat.le_of_ble_eq_true rfl, (by show _ ≤ 2400; omega), (by show _ ≤ 14400; omega)⟩ (Nat.le_of_ble_eq_true rfl) (by decide +kernel) rfl (fun v9 V9 hG H locs hw => ?_)
      obtain ⟨rfl, rfl⟩ := hG
      refine W.eq (g2 := F0 m 254 ls [.int (iI (usz (τ 4) ((j : Int) / 12) ((j : Int) % 12))), .int (iI k)]) rfl ?_
      refine lz_if_le hx hb (a := (usz (τ 4) ((j : Int) / 12) ((j : Int) % 12))) (off := 7) (tgt := 261) (by decide +kernel) (by decide) ⟨by omega, by omega⟩ (fun h3 => ?_) (fun h3 => ?_)
      ·
        refine lv_iconst hx hb (n := 0) (v := iI 0) (by decide +kernel) rfl ?_
        refine lz_iadd hx hb (a := k) (b := 0) (by decide +kernel) ?_
        refine lv_istore hx hb (i := 6) (lv' := [(6, .int (iI (k + 0))), (5, .int (iI (t + 0))), (8, .int (iI (whz (τ 4) ((j : Int) / 12) ((j : Int) % 12)))), (7, .int (iI (j : Int))), (4, .int (iI (sm (fun k => cel (τ 4) (0 + (k : Int) * 6 + 4)) N))), (3, .int (iI (sm (fun k => b2 (cel (τ 4) (0 + (k : Int) * 6 + 0) = 0)) N))), (2, .int (iI (sm (fun k => cel (τ 4) (0 + (k : Int) * 6 + 3)) N))), (1, .int (iI (N : Int))), (0, .ref (ad 0))]) (by decide +kernel) hl (by decide) rfl (fun ls hl => ?_)
        refine lv_iload hx hb (i := 8) (x := iI (whz (τ 4) ((j : Int) / 12) ((j : Int) % 12))) (by decide +kernel) (lv_at hl 2 rfl) ?_
        refine lz_if_lt hx hb (a := (whz (τ 4) ((j : Int) / 12) ((j : Int) % 12))) (off := 31) (tgt := 298) (by decide +kernel) (by decide) ⟨by omega, by omega⟩ (fun h4 => ?_) (fun h4 => ?_)
        ·
          refine lv_iinc hx hb (i := 7) (n := 1) (v := iI ((j : Int) + 1)) (lv' := [(7, .int (iI ((j : Int) + 1))), (6, .int (iI (k + 0))), (5, .int (iI (t + 0))), (8, .int (iI (whz (τ 4) ((j : Int) / 12) ((j : Int) % 12)))), (4, .int (iI (sm (fun k => cel (τ 4) (0 + (k : Int) * 6 + 4)) N))), (3, .int (iI (sm (fun k => b2 (cel (τ 4) (0 + (k : Int) * 6 + 0) = 0)) N))), (2, .int (iI (sm (fun k => cel (τ 4) (0 + (k : Int) * 6 + 3)) N))), (1, .int (iI (N : Int))), (0, .ref (ad 0))]) (by decide +kernel) hl (k := 3) rfl (iI_add _ _) (by decide) rfl (fun ls hl => ?_)
          refine lv_goto hx hb (off := (-103)) (tgt := 198) (by decide +kernel) (by decide) ?_
          exact ih (j + 1) _ _ _ ls _ _ _ _ (by omega) (by omega) (gt _ (b2_f (by omega)).symm) (gk _ (b2_f (by omega)).symm) (by omega) (by omega) (lv_sub hl [0, 1, 2, 4, 5, 6, 7, 8] rfl) hw
        ·
          refine lv_iload hx hb (i := 8) (x := iI (whz (τ 4) ((j : Int) / 12) ((j : Int) % 12))) (by decide +kernel) (lv_at hl 2 rfl) ?_
          refine lv_bipush hx hb (n := 8) (v := iI 8) (by decide +kernel) (by decide) ?_
          refine lz_icmp_ge hx hb (a := (whz (τ 4) ((j : Int) / 12) ((j : Int) % 12))) (b := 8) (off := 24) (tgt := 298) (by decide +kernel) (by decide) ⟨by omega, by omega⟩ ⟨by decide, by decide⟩ (fun h5 => ?_) (fun h5 => ?_)
          ·
            refine lv_iinc hx hb (i := 7) (n := 1) (v := iI ((j : Int) + 1)) (lv' := [(7, .int (iI ((j : Int) + 1))), (6, .int (iI (k + 0))), (5, .int (iI (t + 0))), (8, .int (iI (whz (τ 4) ((j : Int) / 12) ((j : Int) % 12)))), (4, .int (iI (sm (fun k => cel (τ 4) (0 + (k : Int) * 6 + 4)) N))), (3, .int (iI (sm (fun k => b2 (cel (τ 4) (0 + (k : Int) * 6 + 0) = 0)) N))), (2, .int (iI (sm (fun k => cel (τ 4) (0 + (k : Int) * 6 + 3)) N))), (1, .int (iI (N : Int))), (0, .ref (ad 0))]) (by decide +kernel) hl (k := 3) rfl (iI_add _ _) (by decide) rfl (fun ls hl => ?_)
            refine lv_goto hx hb (off := (-103)) (tgt := 198) (by decide +kernel) (by decide) ?_
            exact ih (j + 1) _ _ _ ls _ _ _ _ (by omega) (by omega) (gt _ (b2_f (by omega)).symm) (gk _ (b2_f (by omega)).symm) (by omega) (by omega) (lv_sub hl [0, 1, 2, 4, 5, 6, 7, 8] rfl) hw
          ·
            refine lv_aload_n hx hb (k := 0) (i := 0) (x := ad 0) (by decide +kernel) rfl (lv_at hl 8 rfl) ?_
            refine lv_iload hx hb (i := 8) (x := iI (whz (τ 4) ((j : Int) / 12) ((j : Int) % 12))) (by decide +kernel) (lv_at hl 2 rfl) ?_
            refine lv_iload hx hb (i := 7) (x := iI (j : Int)) (by decide +kernel) (lv_at hl 3 rfl) ?_
            refine lv_bipush hx hb (n := 12) (v := iI 12) (by decide +kernel) (by decide) ?_
            refine lz_idiv hx hb (a := (j : Int)) (b := 12) (by decide +kernel) ⟨by omega, by omega, by omega, by omega⟩ ?_
            have hq9 := hpw (by omega) (by omega)
            refine lk_call (x := 166) (rest := []) (as := [.ref (ad 0), .int (iI (whz (τ 4) ((j : Int) / 12) ((j : Int) % 12))), .int (iI ((j : Int) / 12))]) (n := 3) F hw hl.1 (K_placeOf (X := X) (τ := τ) (f := whz (τ 4) ((j : Int) / 12) ((j : Int) % 12)) (r := (j : Int) / 12) (B := B) F.l0 (by omega) (by omega) hS) (lr69 33 rfl) (lr69 34 rfl) (lr69 35 rfl) (lr69 6 rfl) ⟨rfl, by decide, by decide, by decide +kernel⟩ rfl ⟨Nat.le_of_ble_eq_true rfl, Nat.le_of_ble_eq_true rfl, (by show _ ≤ 2400; omega), (by show _ ≤ 14400; omega)⟩ (Nat.le_of_ble_eq_true rfl) (by decide +kernel) rfl (fun v9 V9 hG H locs hw => ?_)
            obtain ⟨rfl, rfl⟩ := hG
            refine W.eq (g2 := F0 m 288 ls [.int (iI (cel (τ 4) (0 + whz (τ 4) ((j : Int) / 12) ((j : Int) % 12) * 6 + (1 + ((j : Int) / 12)))))]) rfl ?_
            refine lv_iload hx hb (i := 7) (x := iI (j : Int)) (by decide +kernel) (lv_at hl 3 rfl) ?_
            refine lv_bipush hx hb (n := 12) (v := iI 12) (by decide +kernel) (by decide) ?_
            refine lz_irem hx hb (a := (j : Int)) (b := 12) (by decide +kernel) ⟨by omega, by omega, by omega, by omega⟩ ?_
            refine lz_icmp_eq hx hb (a := (cel (τ 4) (0 + whz (τ 4) ((j : Int) / 12) ((j : Int) % 12) * 6 + (1 + ((j : Int) / 12))))) (b := ((j : Int) % 12)) (off := 5) (tgt := 298) (by decide +kernel) (by decide) ⟨by omega, by omega⟩ ⟨by omega, by omega⟩ (fun _ => ?_) (fun h9 => absurd (by omega) h9)
            refine lv_iinc hx hb (i := 7) (n := 1) (v := iI ((j : Int) + 1)) (lv' := [(7, .int (iI ((j : Int) + 1))), (6, .int (iI (k + 0))), (5, .int (iI (t + 0))), (8, .int (iI (whz (τ 4) ((j : Int) / 12) ((j : Int) % 12)))), (4, .int (iI (sm (fun k => cel (τ 4) (0 + (k : Int) * 6 + 4)) N))), (3, .int (iI (sm (fun k => b2 (cel (τ 4) (0 + (k : Int) * 6 + 0) = 0)) N))), (2, .int (iI (sm (fun k => cel (τ 4) (0 + (k : Int) * 6 + 3)) N))), (1, .int (iI (N : Int))), (0, .ref (ad 0))]) (by decide +kernel) hl (k := 3) rfl (iI_add _ _) (by decide) rfl (fun ls hl => ?_)
            refine lv_goto hx hb (off := (-103)) (tgt := 198) (by decide +kernel) (by decide) ?_
            exact ih (j + 1) _ _ _ ls _ _ _ _ (by omega) (by omega) (gt _ (b2_f (by omega)).symm) (gk _ (b2_f (by omega)).symm) (by omega) (by omega) (lv_sub hl [0, 1, 2, 4, 5, 6, 7, 8] rfl) hw
      ·
        refine lv_iconst hx hb (n := 1) (v := iI 1) (by decide +kernel) rfl ?_
        refine lv_goto hx hb (off := 4) (tgt := 262) (by decide +kernel) (by decide) ?_
        refine lz_iadd hx hb (a := k) (b := 1) (by decide +kernel) ?_
        refine lv_istore hx hb (i := 6) (lv' := [(6, .int (iI (k + 1))), (5, .int (iI (t + 0))), (8, .int (iI (whz (τ 4) ((j : Int) / 12) ((j : Int) % 12)))), (7, .int (iI (j : Int))), (4, .int (iI (sm (fun k => cel (τ 4) (0 + (k : Int) * 6 + 4)) N))), (3, .int (iI (sm (fun k => b2 (cel (τ 4) (0 + (k : Int) * 6 + 0) = 0)) N))), (2, .int (iI (sm (fun k => cel (τ 4) (0 + (k : Int) * 6 + 3)) N))), (1, .int (iI (N : Int))), (0, .ref (ad 0))]) (by decide +kernel) hl (by decide) rfl (fun ls hl => ?_)
        refine lv_iload hx hb (i := 8) (x := iI (whz (τ 4) ((j : Int) / 12) ((j : Int) % 12))) (by decide +kernel) (lv_at hl 2 rfl) ?_
        refine lz_if_lt hx hb (a := (whz (τ 4) ((j : Int) / 12) ((j : Int) % 12))) (off := 31) (tgt := 298) (by decide +kernel) (by decide) ⟨by omega, by omega⟩ (fun h7 => ?_) (fun h7 => ?_)
        ·
          refine lv_iinc hx hb (i := 7) (n := 1) (v := iI ((j : Int) + 1)) (lv' := [(7, .int (iI ((j : Int) + 1))), (6, .int (iI (k + 1))), (5, .int (iI (t + 0))), (8, .int (iI (whz (τ 4) ((j : Int) / 12) ((j : Int) % 12)))), (4, .int (iI (sm (fun k => cel (τ 4) (0 + (k : Int) * 6 + 4)) N))), (3, .int (iI (sm (fun k => b2 (cel (τ 4) (0 + (k : Int) * 6 + 0) = 0)) N))), (2, .int (iI (sm (fun k => cel (τ 4) (0 + (k : Int) * 6 + 3)) N))), (1, .int (iI (N : Int))), (0, .ref (ad 0))]) (by decide +kernel) hl (k := 3) rfl (iI_add _ _) (by decide) rfl (fun ls hl => ?_)
          refine lv_goto hx hb (off := (-103)) (tgt := 198) (by decide +kernel) (by decide) ?_
          exact ih (j + 1) _ _ _ ls _ _ _ _ (by omega) (by omega) (gt _ (b2_f (by omega)).symm) (gk _ (b2_t (by omega)).symm) (by omega) (by omega) (lv_sub hl [0, 1, 2, 4, 5, 6, 7, 8] rfl) hw
        ·
          refine lv_iload hx hb (i := 8) (x := iI (whz (τ 4) ((j : Int) / 12) ((j : Int) % 12))) (by decide +kernel) (lv_at hl 2 rfl) ?_
          refine lv_bipush hx hb (n := 8) (v := iI 8) (by decide +kernel) (by decide) ?_
          refine lz_icmp_ge hx hb (a := (whz (τ 4) ((j : Int) / 12) ((j : Int) % 12))) (b := 8) (off := 24) (tgt := 298) (by decide +kernel) (by decide) ⟨by omega, by omega⟩ ⟨by decide, by decide⟩ (fun h8 => ?_) (fun h8 => ?_)
          ·
            refine lv_iinc hx hb (i := 7) (n := 1) (v := iI ((j : Int) + 1)) (lv' := [(7, .int (iI ((j : Int) + 1))), (6, .int (iI (k + 1))), (5, .int (iI (t + 0))), (8, .int (iI (whz (τ 4) ((j : Int) / 12) ((j : Int) % 12)))), (4, .int (iI (sm (fun k => cel (τ 4) (0 + (k : Int) * 6 + 4)) N))), (3, .int (iI (sm (fun k => b2 (cel (τ 4) (0 + (k : Int) * 6 + 0) = 0)) N))), (2, .int (iI (sm (fun k => cel (τ 4) (0 + (k : Int) * 6 + 3)) N))), (1, .int (iI (N : Int))), (0, .ref (ad 0))]) (by decide +kernel) hl (k := 3) rfl (iI_add _ _) (by decide) rfl (fun ls hl => ?_)
            refine lv_goto hx hb (off := (-103)) (tgt := 198) (by decide +kernel) (by decide) ?_
            exact ih (j + 1) _ _ _ ls _ _ _ _ (by omega) (by omega) (gt _ (b2_f (by omega)).symm) (gk _ (b2_t (by omega)).symm) (by omega) (by omega) (lv_sub hl [0, 1, 2, 4, 5, 6, 7, 8] rfl) hw
          ·
            refine lv_aload_n hx hb (k := 0) (i := 0) (x := ad 0) (by decide +kernel) rfl (lv_at hl 8 rfl) ?_
            refine lv_iload hx hb (i := 8) (x := iI (whz (τ 4) ((j : Int) / 12) ((j : Int) % 12))) (by decide +kernel) (lv_at hl 2 rfl) ?_
            refine lv_iload hx hb (i := 7) (x := iI (j : Int)) (by decide +kernel) (lv_at hl 3 rfl) ?_
            refine lv_bipush hx hb (n := 12) (v := iI 12) (by decide +kernel) (by decide) ?_
            refine lz_idiv hx hb (a := (j : Int)) (b := 12) (by decide +kernel) ⟨by omega, by omega, by omega, by omega⟩ ?_
            have hq9 := hpw (by omega) (by omega)
            refine lk_call (x := 166) (rest := []) (as := [.ref (ad 0), .int (iI (whz (τ 4) ((j : Int) / 12) ((j : Int) % 12))), .int (iI ((j : Int) / 12))]) (n := 3) F hw hl.1 (K_placeOf (X := X) (τ := τ) (f := whz (τ 4) ((j : Int) / 12) ((j : Int) % 12)) (r := (j : Int) / 12) (B := B) F.l0 (by omega) (by omega) hS) (lr69 33 rfl) (lr69 34 rfl) (lr69 35 rfl) (lr69 6 rfl) ⟨rfl, by decide, by decide, by decide +kernel⟩ rfl ⟨Nat.le_of_ble_eq_true rfl, Nat.le_of_ble_eq_true rfl, (by show _ ≤ 2400; omega), (by show _ ≤ 14400; omega)⟩ (Nat.le_of_ble_eq_true rfl) (by decide +kernel) rfl (fun v9 V9 hG H locs hw => ?_)
            obtain ⟨rfl, rfl⟩ := hG
            refine W.eq (g2 := F0 m 288 ls [.int (iI (cel (τ 4) (0 + whz (τ 4) ((j : Int) / 12) ((j : Int) % 12) * 6 + (1 + ((j : Int) / 12)))))]) rfl ?_
            refine lv_iload hx hb (i := 7) (x := iI (j : Int)) (by decide +kernel) (lv_at hl 3 rfl) ?_
            refine lv_bipush hx hb (n := 12) (v := iI 12) (by decide +kernel) (by decide) ?_
            refine lz_irem hx hb (a := (j : Int)) (b := 12) (by decide +kernel) ⟨by omega, by omega, by omega, by omega⟩ ?_
            refine lz_icmp_eq hx hb (a := (cel (τ 4) (0 + whz (τ 4) ((j : Int) / 12) ((j : Int) % 12) * 6 + (1 + ((j : Int) / 12))))) (b := ((j : Int) % 12)) (off := 5) (tgt := 298) (by decide +kernel) (by decide) ⟨by omega, by omega⟩ ⟨by omega, by omega⟩ (fun _ => ?_) (fun h9 => absurd (by omega) h9)
            refine lv_iinc hx hb (i := 7) (n := 1) (v := iI ((j : Int) + 1)) (lv' := [(7, .int (iI ((j : Int) + 1))), (6, .int (iI (k + 1))), (5, .int (iI (t + 0))), (8, .int (iI (whz (τ 4) ((j : Int) / 12) ((j : Int) % 12)))), (4, .int (iI (sm (fun k => cel (τ 4) (0 + (k : Int) * 6 + 4)) N))), (3, .int (iI (sm (fun k => b2 (cel (τ 4) (0 + (k : Int) * 6 + 0) = 0)) N))), (2, .int (iI (sm (fun k => cel (τ 4) (0 + (k : Int) * 6 + 3)) N))), (1, .int (iI (N : Int))), (0, .ref (ad 0))]) (by decide +kernel) hl (k := 3) rfl (iI_add _ _) (by decide) rfl (fun ls hl => ?_)
            refine lv_goto hx hb (off := (-103)) (tgt := 198) (by decide +kernel) (by decide) ?_
            exact ih (j + 1) _ _ _ ls _ _ _ _ (by omega) (by omega) (gt _ (b2_f (by omega)).symm) (gk _ (b2_t (by omega)).symm) (by omega) (by omega) (lv_sub hl [0, 1, 2, 4, 5, 6, 7, 8] rfl) hw
    ·
      refine lv_iconst hx hb (n := 1) (v := iI 1) (by decide +kernel) rfl ?_
      refine lv_goto hx hb (off := 4) (tgt := 235) (by decide +kernel) (by decide) ?_
      refine lz_iadd hx hb (a := t) (b := 1) (by decide +kernel) ?_
      refine lv_istore hx hb (i := 5) (lv' := [(5, .int (iI (t + 1))), (8, .int (iI (whz (τ 4) ((j : Int) / 12) ((j : Int) % 12)))), (7, .int (iI (j : Int))), (6, .int (iI k)), (4, .int (iI (sm (fun k => cel (τ 4) (0 + (k : Int) * 6 + 4)) N))), (3, .int (iI (sm (fun k => b2 (cel (τ 4) (0 + (k : Int) * 6 + 0) = 0)) N))), (2, .int (iI (sm (fun k => cel (τ 4) (0 + (k : Int) * 6 + 3)) N))), (1, .int (iI (N : Int))), (0, .ref (ad 0))]) (by decide +kernel) hl (by decide) rfl (fun ls hl => ?_)
      refine lv_iload hx hb (i := 6) (x := iI k) (by decide +kernel) (lv_at hl 3 rfl) ?_
      refine lv_aload_n hx hb (k := 0) (i := 0) (x := ad 0) (by decide +kernel) rfl (lv_at hl 8 rfl) ?_
      refine lv_iload hx hb (i := 7) (x := iI (j : Int)) (by decide +kernel) (lv_at hl 2 rfl) ?_
      refine lv_bipush hx hb (n := 12) (v := iI 12) (by decide +kernel) (by decide) ?_
      refine lz_idiv hx hb (a := (j : Int)) (b := 12) (by decide +kernel) ⟨by omega, by omega, by omega, by omega⟩ ?_
      refine lv_iload hx hb (i := 7) (x := iI (j : Int)) (by decide +kernel) (lv_at hl 2 rfl) ?_
      refine lv_bipush hx hb (n := 12) (v := iI 12) (by decide +kernel) (by decide) ?_
      refine lz_irem hx hb (a := (j : Int)) (b := 12) (by decide +kernel) ⟨by omega, by omega, by omega, by omega⟩ ?_
      refine lk_callH (x := 237) (rest := [.int (iI k)]) (as := [.ref (ad 0), .int (iI ((j : Int) / 12)), .int (iI ((j : Int) % 12))]) (n := 3) F hw hl.1 (K_lockAt (X := X) (τ := τ) (r := ((j : Int) / 12)) (p := ((j : Int) % 12)) F.l0 (by omega) (by omega)) (lr69 16 rfl) (lr69 17 rfl) (lr69 18 rfl) (lr69 6 rfl) ⟨by decide, by decide, by decide +kernel⟩ rfl ⟨Nat.le_of_ble_eq_true rfl, Nat.le_of_ble_eq_true rfl, (by show _ ≤ 2400; omega), (by show _ ≤ 14400; omega)⟩ (Nat.le_of_ble_eq_true rfl) (by decide +kernel) rfl (fun v9 V9 hG H locs hw => ?_)
      obtain ⟨rfl, rfl⟩ := hG
      refine W.eq (g2 := F0 m 254 ls [.int (iI (usz (τ 4) ((j : Int) / 12) ((j : Int) % 12))), .int (iI k)]) rfl ?_
      refine lz_if_le hx hb (a := (usz (τ 4) ((j : Int) / 12) ((j : Int) % 12))) (off := 7) (tgt := 261) (by decide +kernel) (by decide) ⟨by omega, by omega⟩ (fun h10 => ?_) (fun h10 => ?_)
      ·
        refine lv_iconst hx hb (n := 0) (v := iI 0) (by decide +kernel) rfl ?_
        refine lz_iadd hx hb (a := k) (b := 0) (by decide +kernel) ?_
        refine lv_istore hx hb (i := 6) (lv' := [(6, .int (iI (k + 0))), (5, .int (iI (t + 1))), (8, .int (iI (whz (τ 4) ((j : Int) / 12) ((j : Int) % 12)))), (7, .int (iI (j : Int))), (4, .int (iI (sm (fun k => cel (τ 4) (0 + (k : Int) * 6 + 4)) N))), (3, .int (iI (sm (fun k => b2 (cel (τ 4) (0 + (k : Int) * 6 + 0) = 0)) N))), (2, .int (iI (sm (fun k => cel (τ 4) (0 + (k : Int) * 6 + 3)) N))), (1, .int (iI (N : Int))), (0, .ref (ad 0))]) (by decide +kernel) hl (by decide) rfl (fun ls hl => ?_)
        refine lv_iload hx hb (i := 8) (x := iI (whz (τ 4) ((j : Int) / 12) ((j : Int) % 12))) (by decide +kernel) (lv_at hl 2 rfl) ?_
        refine lz_if_lt hx hb (a := (whz (τ 4) ((j : Int) / 12) ((j : Int) % 12))) (off := 31) (tgt := 298) (by decide +kernel) (by decide) ⟨by omega, by omega⟩ (fun h11 => ?_) (fun h11 => ?_)
        ·
          refine lv_iinc hx hb (i := 7) (n := 1) (v := iI ((j : Int) + 1)) (lv' := [(7, .int (iI ((j : Int) + 1))), (6, .int (iI (k + 0))), (5, .int (iI (t + 1))), (8, .int (iI (whz (τ 4) ((j : Int) / 12) ((j : Int) % 12)))), (4, .int (iI (sm (fun k => cel (τ 4) (0 + (k : Int) * 6 + 4)) N))), (3, .int (iI (sm (fun k => b2 (cel (τ 4) (0 + (k : Int) * 6 + 0) = 0)) N))), (2, .int (iI (sm (fun k => cel (τ 4) (0 + (k : Int) * 6 + 3)) N))), (1, .int (iI (N : Int))), (0, .ref (ad 0))]) (by decide +kernel) hl (k := 3) rfl (iI_add _ _) (by decide) rfl (fun ls hl => ?_)
          refine lv_goto hx hb (off := (-103)) (tgt := 198) (by decide +kernel) (by decide) ?_
          exact ih (j + 1) _ _ _ ls _ _ _ _ (by omega) (by omega) (gt _ (b2_t (by omega)).symm) (gk _ (b2_f (by omega)).symm) (by omega) (by omega) (lv_sub hl [0, 1, 2, 4, 5, 6, 7, 8] rfl) hw
        ·
          refine lv_iload hx hb (i := 8) (x := iI (whz (τ 4) ((j : Int) / 12) ((j : Int) % 12))) (by decide +kernel) (lv_at hl 2 rfl) ?_
          refine lv_bipush hx hb (n := 8) (v := iI 8) (by decide +kernel) (by decide) ?_
          refine lz_icmp_ge hx hb (a := (whz (τ 4) ((j : Int) / 12) ((j : Int) % 12))) (b := 8) (off := 24) (tgt := 298) (by decide +kernel) (by decide) ⟨by omega, by omega⟩ ⟨by decide, by decide⟩ (fun h12 => ?_) (fun h12 => ?_)
          ·
            refine lv_iinc hx hb (i := 7) (n := 1) (v := iI ((j : Int) + 1)) (lv' := [(7, .int (iI ((j : Int) + 1))), (6, .int (iI (k + 0))), (5, .int (iI (t + 1))), (8, .int (iI (whz (τ 4) ((j : Int) / 12) ((j : Int) % 12)))), (4, .int (iI (sm (fun k => cel (τ 4) (0 + (k : Int) * 6 + 4)) N))), (3, .int (iI (sm (fun k => b2 (cel (τ 4) (0 + (k : Int) * 6 + 0) = 0)) N))), (2, .int (iI (sm (fun k => cel (τ 4) (0 + (k : Int) * 6 + 3)) N))), (1, .int (iI (N : Int))), (0, .ref (ad 0))]) (by decide +kernel) hl (k := 3) rfl (iI_add _ _) (by decide) rfl (fun ls hl => ?_)
            refine lv_goto hx hb (off := (-103)) (tgt := 198) (by decide +kernel) (by decide) ?_
            exact ih (j + 1) _ _ _ ls _ _ _ _ (by omega) (by omega) (gt _ (b2_t (by omega)).symm) (gk _ (b2_f (by omega)).symm) (by omega) (by omega) (lv_sub hl [0, 1, 2, 4, 5, 6, 7, 8] rfl) hw
          ·
            refine lv_aload_n hx hb (k := 0) (i := 0) (x := ad 0) (by decide +kernel) rfl (lv_at hl 8 rfl) ?_
            refine lv_iload hx hb (i := 8) (x := iI (whz (τ 4) ((j : Int) / 12) ((j : Int) % 12))) (by decide +kernel) (lv_at hl 2 rfl) ?_
            refine lv_iload hx hb (i := 7) (x := iI (j : Int)) (by decide +kernel) (lv_at hl 3 rfl) ?_
            refine lv_bipush hx hb (n := 12) (v := iI 12) (by decide +kernel) (by decide) ?_
            refine lz_idiv hx hb (a := (j : Int)) (b := 12) (by decide +kernel) ⟨by omega, by omega, by omega, by omega⟩ ?_
            have hq9 := hpw (by omega) (by omega)
            refine lk_call (x := 166) (rest := []) (as := [.ref (ad 0), .int (iI (whz (τ 4) ((j : Int) / 12) ((j : Int) % 12))), .int (iI ((j : Int) / 12))]) (n := 3) F hw hl.1 (K_placeOf (X := X) (τ := τ) (f := whz (τ 4) ((j : Int) / 12) ((j : Int) % 12)) (r := (j : Int) / 12) (B := B) F.l0 (by omega) (by omega) hS) (lr69 33 rfl) (lr69 34 rfl) (lr69 35 rfl) (lr69 6 rfl) ⟨rfl, by decide, by decide, by decide +kernel⟩ rfl ⟨Nat.le_of_ble_eq_true rfl, Nat.le_of_ble_eq_true rfl, (by show _ ≤ 2400; omega), (by show _ ≤ 14400; omega)⟩ (Nat.le_of_ble_eq_true rfl) (by decide +kernel) rfl (fun v9 V9 hG H locs hw => ?_)
            obtain ⟨rfl, rfl⟩ := hG
            refine W.eq (g2 := F0 m 288 ls [.int (iI (cel (τ 4) (0 + whz (τ 4) ((j : Int) / 12) ((j : Int) % 12) * 6 + (1 + ((j : Int) / 12)))))]) rfl ?_
            refine lv_iload hx hb (i := 7) (x := iI (j : Int)) (by decide +kernel) (lv_at hl 3 rfl) ?_
            refine lv_bipush hx hb (n := 12) (v := iI 12) (by decide +kernel) (by decide) ?_
            refine lz_irem hx hb (a := (j : Int)) (b := 12) (by decide +kernel) ⟨by omega, by omega, by omega, by omega⟩ ?_
            refine lz_icmp_eq hx hb (a := (cel (τ 4) (0 + whz (τ 4) ((j : Int) / 12) ((j : Int) % 12) * 6 + (1 + ((j : Int) / 12))))) (b := ((j : Int) % 12)) (off := 5) (tgt := 298) (by decide +kernel) (by decide) ⟨by omega, by omega⟩ ⟨by omega, by omega⟩ (fun _ => ?_) (fun h9 => absurd (by omega) h9)
            refine lv_iinc hx hb (i := 7) (n := 1) (v := iI ((j : Int) + 1)) (lv' := [(7, .int (iI ((j : Int) + 1))), (6, .int (iI (k + 0))), (5, .int (iI (t + 1))), (8, .int (iI (whz (τ 4) ((j : Int) / 12) ((j : Int) % 12)))), (4, .int (iI (sm (fun k => cel (τ 4) (0 + (k : Int) * 6 + 4)) N))), (3, .int (iI (sm (fun k => b2 (cel (τ 4) (0 + (k : Int) * 6 + 0) = 0)) N))), (2, .int (iI (sm (fun k => cel (τ 4) (0 + (k : Int) * 6 + 3)) N))), (1, .int (iI (N : Int))), (0, .ref (ad 0))]) (by decide +kernel) hl (k := 3) rfl (iI_add _ _) (by decide) rfl (fun ls hl => ?_)
            refine lv_goto hx hb (off := (-103)) (tgt := 198) (by decide +kernel) (by decide) ?_
            exact ih (j + 1) _ _ _ ls _ _ _ _ (by omega) (by omega) (gt _ (b2_t (by omega)).symm) (gk _ (b2_f (by omega)).symm) (by omega) (by omega) (lv_sub hl [0, 1, 2, 4, 5, 6, 7, 8] rfl) hw
      ·
        refine lv_iconst hx hb (n := 1) (v := iI 1) (by decide +kernel) rfl ?_
        refine lv_goto hx hb (off := 4) (tgt := 262) (by decide +kernel) (by decide) ?_
        refine lz_iadd hx hb (a := k) (b := 1) (by decide +kernel) ?_
        refine lv_istore hx hb (i := 6) (lv' := [(6, .int (iI (k + 1))), (5, .int (iI (t + 1))), (8, .int (iI (whz (τ 4) ((j : Int) / 12) ((j : Int) % 12)))), (7, .int (iI (j : Int))), (4, .int (iI (sm (fun k => cel (τ 4) (0 + (k : Int) * 6 + 4)) N))), (3, .int (iI (sm (fun k => b2 (cel (τ 4) (0 + (k : Int) * 6 + 0) = 0)) N))), (2, .int (iI (sm (fun k => cel (τ 4) (0 + (k : Int) * 6 + 3)) N))), (1, .int (iI (N : Int))), (0, .ref (ad 0))]) (by decide +kernel) hl (by decide) rfl (fun ls hl => ?_)
        refine lv_iload hx hb (i := 8) (x := iI (whz (τ 4) ((j : Int) / 12) ((j : Int) % 12))) (by decide +kernel) (lv_at hl 2 rfl) ?_
        refine lz_if_lt hx hb (a := (whz (τ 4) ((j : Int) / 12) ((j : Int) % 12))) (off := 31) (tgt := 298) (by decide +kernel) (by decide) ⟨by omega, by omega⟩ (fun h14 => ?_) (fun h14 => ?_)
        ·
          refine lv_iinc hx hb (i := 7) (n := 1) (v := iI ((j : Int) + 1)) (lv' := [(7, .int (iI ((j : Int) + 1))), (6, .int (iI (k + 1))), (5, .int (iI (t + 1))), (8, .int (iI (whz (τ 4) ((j : Int) / 12) ((j : Int) % 12)))), (4, .int (iI (sm (fun k => cel (τ 4) (0 + (k : Int) * 6 + 4)) N))), (3, .int (iI (sm (fun k => b2 (cel (τ 4) (0 + (k : Int) * 6 + 0) = 0)) N))), (2, .int (iI (sm (fun k => cel (τ 4) (0 + (k : Int) * 6 + 3)) N))), (1, .int (iI (N : Int))), (0, .ref (ad 0))]) (by decide +kernel) hl (k := 3) rfl (iI_add _ _) (by decide) rfl (fun ls hl => ?_)
          refine lv_goto hx hb (off := (-103)) (tgt := 198) (by decide +kernel) (by decide) ?_
          exact ih (j + 1) _ _ _ ls _ _ _ _ (by omega) (by omega) (gt _ (b2_t (by omega)).symm) (gk _ (b2_t (by omega)).symm) (by omega) (by omega) (lv_sub hl [0, 1, 2, 4, 5, 6, 7, 8] rfl) hw
        ·
          refine lv_iload hx hb (i := 8) (x := iI (whz (τ 4) ((j : Int) / 12) ((j : Int) % 12))) (by decide +kernel) (lv_at hl 2 rfl) ?_
          refine lv_bipush hx hb (n := 8) (v := iI 8) (by decide +kernel) (by decide) ?_
          refine lz_icmp_ge hx hb (a := (whz (τ 4) ((j : Int) / 12) ((j : Int) % 12))) (b := 8) (off := 24) (tgt := 298) (by decide +kernel) (by decide) ⟨by omega, by omega⟩ ⟨by decide, by decide⟩ (fun h15 => ?_) (fun h15 => ?_)
          ·
            refine lv_iinc hx hb (i := 7) (n := 1) (v := iI ((j : Int) + 1)) (lv' := [(7, .int (iI ((j : Int) + 1))), (6, .int (iI (k + 1))), (5, .int (iI (t + 1))), (8, .int (iI (whz (τ 4) ((j : Int) / 12) ((j : Int) % 12)))), (4, .int (iI (sm (fun k => cel (τ 4) (0 + (k : Int) * 6 + 4)) N))), (3, .int (iI (sm (fun k => b2 (cel (τ 4) (0 + (k : Int) * 6 + 0) = 0)) N))), (2, .int (iI (sm (fun k => cel (τ 4) (0 + (k : Int) * 6 + 3)) N))), (1, .int (iI (N : Int))), (0, .ref (ad 0))]) (by decide +kernel) hl (k := 3) rfl (iI_add _ _) (by decide) rfl (fun ls hl => ?_)
            refine lv_goto hx hb (off := (-103)) (tgt := 198) (by decide +kernel) (by decide) ?_
            exact ih (j + 1) _ _ _ ls _ _ _ _ (by omega) (by omega) (gt _ (b2_t (by omega)).symm) (gk _ (b2_t (by omega)).symm) (by omega) (by omega) (lv_sub hl [0, 1, 2, 4, 5, 6, 7, 8] rfl) hw
          ·
            refine lv_aload_n hx hb (k := 0) (i := 0) (x := ad 0) (by decide +kernel) rfl (lv_at hl 8 rfl) ?_
            refine lv_iload hx hb (i := 8) (x := iI (whz (τ 4) ((j : Int) / 12) ((j : Int) % 12))) (by decide +kernel) (lv_at hl 2 rfl) ?_
            refine lv_iload hx hb (i := 7) (x := iI (j : Int)) (by decide +kernel) (lv_at hl 3 rfl) ?_
            refine lv_bipush hx hb (n := 12) (v := iI 12) (by decide +kernel) (by decide) ?_
            refine lz_idiv hx hb (a := (j : Int)) (b := 12) (by decide +kernel) ⟨by omega, by omega, by omega, by omega⟩ ?_
            have hq9 := hpw (by omega) (by omega)
            refine lk_call (x := 166) (rest := []) (as := [.ref (ad 0), .int (iI (whz (τ 4) ((j : Int) / 12) ((j : Int) % 12))), .int (iI ((j : Int) / 12))]) (n := 3) F hw hl.1 (K_placeOf (X := X) (τ := τ) (f := whz (τ 4) ((j : Int) / 12) ((j : Int) % 12)) (r := (j : Int) / 12) (B := B) F.l0 (by omega) (by omega) hS) (lr69 33 rfl) (lr69 34 rfl) (lr69 35 rfl) (lr69 6 rfl) ⟨rfl, by decide, by decide, by decide +kernel⟩ rfl ⟨Nat.le_of_ble_eq_true rfl, Nat.le_of_ble_eq_true rfl, (by show _ ≤ 2400; omega), (by show _ ≤ 14400; omega)⟩ (Nat.le_of_ble_eq_true rfl) (by decide +kernel) rfl (fun v9 V9 hG H locs hw => ?_)
            obtain ⟨rfl, rfl⟩ := hG
            refine W.eq (g2 := F0 m 288 ls [.int (iI (cel (τ 4) (0 + whz (τ 4) ((j : Int) / 12) ((j : Int) % 12) * 6 + (1 + ((j : Int) / 12)))))]) rfl ?_
            refine lv_iload hx hb (i := 7) (x := iI (j : Int)) (by decide +kernel) (lv_at hl 3 rfl) ?_
            refine lv_bipush hx hb (n := 12) (v := iI 12) (by decide +kernel) (by decide) ?_
            refine lz_irem hx hb (a := (j : Int)) (b := 12) (by decide +kernel) ⟨by omega, by omega, by omega, by omega⟩ ?_
            refine lz_icmp_eq hx hb (a := (cel (τ 4) (0 + whz (τ 4) ((j : Int) / 12) ((j : Int) % 12) * 6 + (1 + ((j : Int) / 12))))) (b := ((j : Int) % 12)) (off := 5) (tgt := 298) (by decide +kernel) (by decide) ⟨by omega, by omega⟩ ⟨by omega, by omega⟩ (fun _ => ?_) (fun h9 => absurd (by omega) h9)
            refine lv_iinc hx hb (i := 7) (n := 1) (v := iI ((j : Int) + 1)) (lv' := [(7, .int (iI ((j : Int) + 1))), (6, .int (iI (k + 1))), (5, .int (iI (t + 1))), (8, .int (iI (whz (τ 4) ((j : Int) / 12) ((j : Int) % 12)))), (4, .int (iI (sm (fun k => cel (τ 4) (0 + (k : Int) * 6 + 4)) N))), (3, .int (iI (sm (fun k => b2 (cel (τ 4) (0 + (k : Int) * 6 + 0) = 0)) N))), (2, .int (iI (sm (fun k => cel (τ 4) (0 + (k : Int) * 6 + 3)) N))), (1, .int (iI (N : Int))), (0, .ref (ad 0))]) (by decide +kernel) hl (k := 3) rfl (iI_add _ _) (by decide) rfl (fun ls hl => ?_)
            refine lv_goto hx hb (off := (-103)) (tgt := 198) (by decide +kernel) (by decide) ?_
            exact ih (j + 1) _ _ _ ls _ _ _ _ (by omega) (by omega) (gt _ (b2_t (by omega)).symm) (gk _ (b2_t (by omega)).symm) (by omega) (by omega) (lv_sub hl [0, 1, 2, 4, 5, 6, 7, 8] rfl) hw
theorem rk_ord {p : Program} {e : Env} {s : State} {m : MethodId} {args : Array Value} {below : List Frame} {meth : Method} {c : Code} {X : va_W} {τ : SZ} {B : Int} {N : Nat} (F : FL D A ad adV cA p l s m args c method_40_code 13) (hlk : meth.locks = false) (hrt : meth.sig.returnType = some .boolean) (hI : Iv B (τ 4)) (hN : cel (τ 4) 107 = (N : Int)) : ∀ (q j : Nat) (z v4 v3 v2 : Int) (ls : Array Slot) (H : Heap) (locs : List Loc) (cl sl : Nat), j + q = N → z = (j : Int) → v4 = sm (fun k => cel (τ 4) (0 + (k : Int) * 6 + 4)) j → v3 = sm (fun k => b2 (cel (τ 4) (0 + (k : Int) * 6 + 0) = 0)) j → v2 = sm (fun k => cel (τ 4) (0 + (k : Int) * 6 + 3)) j → cl ≤ 1 + 36 * j → sl ≤ 6 + 216 * j → lv_has ls 13 [(5, .int (iI z)), (4, .int (iI v4)), (3, .int (iI v3)), (2, .int (iI v2)), (1, .int (iI (N : Int))), (0, .ref (ad 0))] → WV D A s (wO ad cA (sz τ) ++ X) H locs → W p l e (rmK 26 2400 14400) s m args below meth c H locs cl sl (vx_MQ below (LQ D A (RV ad cA X 1 τ)) (fun _ _ _ => False) args s 2400 14400 A) (F0 m 16 ls []) := by
  have hx := F.1
  have hb := F.2.1
  have hS := hI.1
  have hn := hS.n
  have htu := hS.tu
  have hBB := hS.B
  have hmx : mX m7_account = 1 := rfl
  intro q
  induction q with
  | zero =>
    intro j z v4 v3 v2 ls H locs cl sl hk hz i4 i3 i2 hcl hsl hl hw
    have eN : j = N := by omega
    subst eN
    subst i4
    subst i3
    subst i2
    refine lv_iload hx hb (i := 5) (x := iI z) (by decide +kernel) (lv_at hl 0 rfl) ?_
    refine lv_iload_n hx hb (k := 1) (i := 1) (x := iI (j : Int)) (by decide +kernel) rfl (lv_at hl 4 rfl) ?_
    refine lz_icmp_ge hx hb (a := z) (b := (j : Int)) (off := 170) (tgt := 189) (by decide +kernel) (by decide) ⟨by omega, by omega⟩ ⟨by omega, by omega⟩ (fun _ => ?_) (fun h9 => absurd (by omega) h9)
    refine lv_iconst hx hb (n := 0) (v := iI 0) (by decide +kernel) rfl ?_
    refine lv_istore hx hb (i := 5) (lv' := [(5, .int (iI 0)), (4, .int (iI (sm (fun k => cel (τ 4) (0 + (k : Int) * 6 + 4)) j))), (3, .int (iI (sm (fun k => b2 (cel (τ 4) (0 + (k : Int) * 6 + 0) = 0)) j))), (2, .int (iI (sm (fun k => cel (τ 4) (0 + (k : Int) * 6 + 3)) j))), (1, .int (iI (j : Int))), (0, .ref (ad 0))]) (by decide +kernel) hl (by decide) rfl (fun ls hl => ?_)
    refine lv_iconst hx hb (n := 0) (v := iI 0) (by decide +kernel) rfl ?_
    refine lv_istore hx hb (i := 6) (lv' := [(6, .int (iI 0)), (5, .int (iI 0)), (4, .int (iI (sm (fun k => cel (τ 4) (0 + (k : Int) * 6 + 4)) j))), (3, .int (iI (sm (fun k => b2 (cel (τ 4) (0 + (k : Int) * 6 + 0) = 0)) j))), (2, .int (iI (sm (fun k => cel (τ 4) (0 + (k : Int) * 6 + 3)) j))), (1, .int (iI (j : Int))), (0, .ref (ad 0))]) (by decide +kernel) hl (by decide) rfl (fun ls hl => ?_)
    refine lv_iconst hx hb (n := 0) (v := iI 0) (by decide +kernel) rfl ?_
    refine lv_istore hx hb (i := 7) (lv' := [(7, .int (iI 0)), (6, .int (iI 0)), (5, .int (iI 0)), (4, .int (iI (sm (fun k => cel (τ 4) (0 + (k : Int) * 6 + 4)) j))), (3, .int (iI (sm (fun k => b2 (cel (τ 4) (0 + (k : Int) * 6 + 0) = 0)) j))), (2, .int (iI (sm (fun k => cel (τ 4) (0 + (k : Int) * 6 + 3)) j))), (1, .int (iI (j : Int))), (0, .ref (ad 0))]) (by decide +kernel) hl (by decide) rfl (fun ls hl => ?_)
    exact rk_tugs F hlk hrt hI hN 24 0 0 0 0 ls _ _ _ _ rfl rfl rfl rfl (by omega) (by omega) (lv_sub hl [0, 1, 2, 3, 4, 5, 6, 7] rfl) hw
  | succ q ih =>
    intro j z v4 v3 v2 ls H locs cl sl hk hz i4 i3 i2 hcl hsl hl hw
    subst hz
    obtain ⟨b1, eb1⟩ : ∃ x, orw (bdn (τ 4)) N (j : Int) = x := ⟨_, rfl⟩
    obtain ⟨g1, eg1⟩ : ∃ x, orw (wcm (τ 4)) N (j : Int) = x := ⟨_, rfl⟩
    have hb1 := orw_in (K := bdn (τ 4)) (N := N) (p := (j : Int)) ⟨by omega, by omega⟩
    have hg1 := orw_in (K := wcm (τ 4)) (N := N) (p := (j : Int)) ⟨by omega, by omega⟩
    rw [eb1] at hb1
    rw [eg1] at hg1
    have hsd := hS.sd (f := (j : Int)) ⟨by omega, by omega⟩
    by_cases hj0 : (j : Int) ≤ 0
    ·
      refine lv_iload hx hb (i := 5) (x := iI (j : Int)) (by decide +kernel) (lv_at hl 0 rfl) ?_
      refine lv_iload_n hx hb (k := 1) (i := 1) (x := iI (N : Int)) (by decide +kernel) rfl (lv_at hl 4 rfl) ?_
      refine lz_icmp_ge hx hb (a := (j : Int)) (b := (N : Int)) (off := 170) (tgt := 189) (by decide +kernel) (by decide) ⟨by omega, by omega⟩ ⟨by omega, by omega⟩ (fun h9 => absurd h9 (by omega)) (fun _ => ?_)
      refine lv_aload_n hx hb (k := 0) (i := 0) (x := ad 0) (by decide +kernel) rfl (lv_at hl 5 rfl) ?_
      refine lv_iload hx hb (i := 5) (x := iI (j : Int)) (by decide +kernel) (lv_at hl 0 rfl) ?_
      refine lk_callH (x := 230) (rest := []) (as := [.ref (ad 0), .int (iI (j : Int))]) (n := 2) F hw hl.1 ((L_boldest (X := X) (τ := τ) (p := (j : Int)) F.l0 ⟨by omega, by omega⟩ hS hN).to (k' := b1) ((A_bold hN ⟨by omega, by omega⟩).trans eb1)) (lr69 3 rfl) (lr69 4 rfl) (lr69 5 rfl) (lr69 6 rfl) ⟨by decide, by decide, by decide +kernel⟩ rfl ⟨Nat.le_of_ble_eq_true rfl, Nat.le_of_ble_eq_true rfl, (by show _ ≤ 2400; omega), (by show _ ≤ 14400; omega)⟩ (Nat.le_of_ble_eq_true rfl) (by decide +kernel) rfl (fun v9 V9 hG H locs hw => ?_)
      obtain ⟨rfl, rfl⟩ := hG
      refine W.eq (g2 := F0 m 28 ls [.int (iI b1)]) rfl ?_
      refine lv_istore hx hb (i := 6) (lv' := [(6, .int (iI b1)), (5, .int (iI (j : Int))), (4, .int (iI v4)), (3, .int (iI v3)), (2, .int (iI v2)), (1, .int (iI (N : Int))), (0, .ref (ad 0))]) (by decide +kernel) hl (by decide) rfl (fun ls hl => ?_)
      refine lv_aload_n hx hb (k := 0) (i := 0) (x := ad 0) (by decide +kernel) rfl (lv_at hl 6 rfl) ?_
      refine lv_iload hx hb (i := 5) (x := iI (j : Int)) (by decide +kernel) (lv_at hl 1 rfl) ?_
      refine lk_callH (x := 232) (rest := []) (as := [.ref (ad 0), .int (iI (j : Int))]) (n := 2) F hw hl.1 ((L_farthest (X := X) (τ := τ) (p := (j : Int)) F.l0 ⟨by omega, by omega⟩ hS hN).to (k' := g1) ((A_farr hN ⟨by omega, by omega⟩).trans eg1)) (lr69 7 rfl) (lr69 8 rfl) (lr69 9 rfl) (lr69 6 rfl) ⟨by decide, by decide, by decide +kernel⟩ rfl ⟨Nat.le_of_ble_eq_true rfl, Nat.le_of_ble_eq_true rfl, (by show _ ≤ 2400; omega), (by show _ ≤ 14400; omega)⟩ (Nat.le_of_ble_eq_true rfl) (by decide +kernel) rfl (fun v9 V9 hG H locs hw => ?_)
      obtain ⟨rfl, rfl⟩ := hG
      refine W.eq (g2 := F0 m 36 ls [.int (iI g1)]) rfl ?_
      refine lv_istore hx hb (i := 7) (lv' := [(7, .int (iI g1)), (6, .int (iI b1)), (5, .int (iI (j : Int))), (4, .int (iI v4)), (3, .int (iI v3)), (2, .int (iI v2)), (1, .int (iI (N : Int))), (0, .ref (ad 0))]) (by decide +kernel) hl (by decide) rfl (fun ls hl => ?_)
      refine lv_iload_n hx hb (k := 2) (i := 2) (x := iI v2) (by decide +kernel) rfl (lv_at hl 5 rfl) ?_
      refine lv_aload_n hx hb (k := 0) (i := 0) (x := ad 0) (by decide +kernel) rfl (lv_at hl 7 rfl) ?_
      refine lv_iload hx hb (i := 5) (x := iI (j : Int)) (by decide +kernel) (lv_at hl 2 rfl) ?_
      refine lv_iconst hx hb (n := 3) (v := iI 3) (by decide +kernel) rfl ?_
      refine lk_callH (x := 163) (rest := [.int (iI v2)]) (as := [.ref (ad 0), .int (iI (j : Int)), .int (iI 3)]) (n := 3) F hw hl.1 (K_of (X := X) (τ := τ) (f := (j : Int)) (w := 3) (B := B) F.l0 (by omega) (by omega) hS) (lr69 22 rfl) (lr69 23 rfl) (lr69 24 rfl) (lr69 6 rfl) ⟨by decide, by decide, by decide +kernel⟩ rfl ⟨Nat.le_of_ble_eq_true rfl, Nat.le_of_ble_eq_true rfl, (by show _ ≤ 2400; omega), (by show _ ≤ 14400; omega)⟩ (Nat.le_of_ble_eq_true rfl) (by decide +kernel) rfl (fun v9 V9 hG H locs hw => ?_)
      obtain ⟨rfl, rfl⟩ := hG
      refine W.eq (g2 := F0 m 46 ls [.int (iI (cel (τ 4) (0 + (j : Int) * 6 + 3))), .int (iI v2)]) rfl ?_
      refine lz_iadd hx hb (a := v2) (b := (cel (τ 4) (0 + (j : Int) * 6 + 3))) (by decide +kernel) ?_
      refine lv_istore_n hx hb (k := 2) (i := 2) (lv' := [(2, .int (iI (v2 + (cel (τ 4) (0 + (j : Int) * 6 + 3))))), (7, .int (iI g1)), (6, .int (iI b1)), (5, .int (iI (j : Int))), (4, .int (iI v4)), (3, .int (iI v3)), (1, .int (iI (N : Int))), (0, .ref (ad 0))]) (by decide +kernel) rfl hl (by decide) rfl (fun ls hl => ?_)
      refine lv_iload_n hx hb (k := 3) (i := 3) (x := iI v3) (by decide +kernel) rfl (lv_at hl 5 rfl) ?_
      refine lv_iconst hx hb (n := 1) (v := iI 1) (by decide +kernel) rfl ?_
      refine lv_aload_n hx hb (k := 0) (i := 0) (x := ad 0) (by decide +kernel) rfl (lv_at hl 7 rfl) ?_
      refine lv_iload hx hb (i := 5) (x := iI (j : Int)) (by decide +kernel) (lv_at hl 3 rfl) ?_
      refine lv_iconst hx hb (n := 0) (v := iI 0) (by decide +kernel) rfl ?_
      refine lk_callH (x := 163) (rest := [.int (iI 1), .int (iI v3)]) (as := [.ref (ad 0), .int (iI (j : Int)), .int (iI 0)]) (n := 3) F hw hl.1 (K_of (X := X) (τ := τ) (f := (j : Int)) (w := 0) (B := B) F.l0 (by omega) (by omega) hS) (lr69 22 rfl) (lr69 23 rfl) (lr69 24 rfl) (lr69 6 rfl) ⟨by decide, by decide, by decide +kernel⟩ rfl ⟨Nat.le_of_ble_eq_true rfl, Nat.le_of_ble_eq_true rfl, (by show _ ≤ 2400; omega), (by show _ ≤ 14400; omega)⟩ (Nat.le_of_ble_eq_true rfl) (by decide +kernel) rfl (fun v9 V9 hG H locs hw => ?_)
      obtain ⟨rfl, rfl⟩ := hG
      refine W.eq (g2 := F0 m 57 ls [.int (iI (cel (τ 4) (0 + (j : Int) * 6 + 0))), .int (iI 1), .int (iI v3)]) rfl ?_
      refine lz_isub hx hb (a := 1) (b := (cel (τ 4) (0 + (j : Int) * 6 + 0))) (by decide +kernel) ?_
      refine lz_iadd hx hb (a := v3) (b := (1 - (cel (τ 4) (0 + (j : Int) * 6 + 0)))) (by decide +kernel) ?_
      refine lv_istore_n hx hb (k := 3) (i := 3) (lv' := [(3, .int (iI (v3 + (1 - (cel (τ 4) (0 + (j : Int) * 6 + 0)))))), (2, .int (iI (v2 + (cel (τ 4) (0 + (j : Int) * 6 + 3))))), (7, .int (iI g1)), (6, .int (iI b1)), (5, .int (iI (j : Int))), (4, .int (iI v4)), (1, .int (iI (N : Int))), (0, .ref (ad 0))]) (by decide +kernel) rfl hl (by decide) rfl (fun ls hl => ?_)
      refine lv_iload hx hb (i := 4) (x := iI v4) (by decide +kernel) (lv_at hl 5 rfl) ?_
      refine lv_aload_n hx hb (k := 0) (i := 0) (x := ad 0) (by decide +kernel) rfl (lv_at hl 7 rfl) ?_
      refine lv_iload hx hb (i := 5) (x := iI (j : Int)) (by decide +kernel) (lv_at hl 4 rfl) ?_
      refine lv_iconst hx hb (n := 4) (v := iI 4) (by decide +kernel) rfl ?_
      refine lk_callH (x := 163) (rest := [.int (iI v4)]) (as := [.ref (ad 0), .int (iI (j : Int)), .int (iI 4)]) (n := 3) F hw hl.1 (K_of (X := X) (τ := τ) (f := (j : Int)) (w := 4) (B := B) F.l0 (by omega) (by omega) hS) (lr69 22 rfl) (lr69 23 rfl) (lr69 24 rfl) (lr69 6 rfl) ⟨by decide, by decide, by decide +kernel⟩ rfl ⟨Nat.le_of_ble_eq_true rfl, Nat.le_of_ble_eq_true rfl, (by show _ ≤ 2400; omega), (by show _ ≤ 14400; omega)⟩ (Nat.le_of_ble_eq_true rfl) (by decide +kernel) rfl (fun v9 V9 hG H locs hw => ?_)
      obtain ⟨rfl, rfl⟩ := hG
      refine W.eq (g2 := F0 m 69 ls [.int (iI (cel (τ 4) (0 + (j : Int) * 6 + 4))), .int (iI v4)]) rfl ?_
      refine lz_iadd hx hb (a := v4) (b := (cel (τ 4) (0 + (j : Int) * 6 + 4))) (by decide +kernel) ?_
      refine lv_istore hx hb (i := 4) (lv' := [(4, .int (iI (v4 + (cel (τ 4) (0 + (j : Int) * 6 + 4))))), (3, .int (iI (v3 + (1 - (cel (τ 4) (0 + (j : Int) * 6 + 0)))))), (2, .int (iI (v2 + (cel (τ 4) (0 + (j : Int) * 6 + 3))))), (7, .int (iI g1)), (6, .int (iI b1)), (5, .int (iI (j : Int))), (1, .int (iI (N : Int))), (0, .ref (ad 0))]) (by decide +kernel) hl (by decide) rfl (fun ls hl => ?_)
      refine lv_iload hx hb (i := 5) (x := iI (j : Int)) (by decide +kernel) (lv_at hl 5 rfl) ?_
      refine lz_if_le hx hb (a := (j : Int)) (off := 109) (tgt := 183) (by decide +kernel) (by decide) ⟨by omega, by omega⟩ (fun _ => ?_) (fun h9 => absurd (by omega) h9)
      refine lv_iinc hx hb (i := 5) (n := 1) (v := iI ((j : Int) + 1)) (lv' := [(5, .int (iI ((j : Int) + 1))), (4, .int (iI (v4 + (cel (τ 4) (0 + (j : Int) * 6 + 4))))), (3, .int (iI (v3 + (1 - (cel (τ 4) (0 + (j : Int) * 6 + 0)))))), (2, .int (iI (v2 + (cel (τ 4) (0 + (j : Int) * 6 + 3))))), (7, .int (iI g1)), (6, .int (iI b1)), (1, .int (iI (N : Int))), (0, .ref (ad 0))]) (by decide +kernel) hl (k := 5) rfl (iI_add _ _) (by decide) rfl (fun ls hl => ?_)
      refine lv_goto hx hb (off := (-170)) (tgt := 16) (by decide +kernel) (by decide) ?_
      exact ih (j + 1) _ _ _ _ ls _ _ _ _ (by omega) (by omega) (by rw [i4]; rfl) (by rw [i3, b2_s hsd]; rfl) (by rw [i2]; rfl) (by omega) (by omega) (lv_sub hl [0, 1, 2, 3, 6, 7] rfl) hw
    ·
      obtain ⟨b0, eb0⟩ : ∃ x, orw (bdn (τ 4)) N ((j : Int) - 1) = x := ⟨_, rfl⟩
      obtain ⟨g0, eg0⟩ : ∃ x, orw (wcm (τ 4)) N ((j : Int) - 1) = x := ⟨_, rfl⟩
      have hb0 := orw_in (K := bdn (τ 4)) (N := N) (p := (j : Int) - 1) ⟨by omega, by omega⟩
      have hg0 := orw_in (K := wcm (τ 4)) (N := N) (p := (j : Int) - 1) ⟨by omega, by omega⟩
      rw [eb0] at hb0
      rw [eg0] at hg0
      have hob := orw_le (K := bdn (τ 4)) (N := N) (p := (j : Int)) ⟨by omega, by omega⟩
      have hog := orw_le (K := wcm (τ 4)) (N := N) (p := (j : Int)) ⟨by omega, by omega⟩
      rw [eb0, eb1] at hob
      rw [eg0, eg1] at hog
      have hob : 0 ≤ (2 * cel (τ 4) (0 + b0 * 6 + 4) + cel (τ 4) (0 + b0 * 6 + 3)) - (2 * cel (τ 4) (0 + b1 * 6 + 4) + cel (τ 4) (0 + b1 * 6 + 3)) ∧ ((2 * cel (τ 4) (0 + b0 * 6 + 4) + cel (τ 4) (0 + b0 * 6 + 3)) - (2 * cel (τ 4) (0 + b1 * 6 + 4) + cel (τ 4) (0 + b1 * 6 + 3)) = 0 → b0 ≤ b1) := hob
      have hw0 := wcm_in hS (f := g0) ⟨by omega, by omega⟩
      have hw1 := wcm_in hS (f := g1) ⟨by omega, by omega⟩
      have hj40 := hS.ju (f := b0) ⟨by omega, by omega⟩
      have hj41 := hS.ju (f := b1) ⟨by omega, by omega⟩
      have hk0 := hS.kg (f := b0) ⟨by omega, by omega⟩
      have hk1 := hS.kg (f := b1) ⟨by omega, by omega⟩
      refine lv_iload hx hb (i := 5) (x := iI (j : Int)) (by decide +kernel) (lv_at hl 0 rfl) ?_
      refine lv_iload_n hx hb (k := 1) (i := 1) (x := iI (N : Int)) (by decide +kernel) rfl (lv_at hl 4 rfl) ?_
      refine lz_icmp_ge hx hb (a := (j : Int)) (b := (N : Int)) (off := 170) (tgt := 189) (by decide +kernel) (by decide) ⟨by omega, by omega⟩ ⟨by omega, by omega⟩ (fun h9 => absurd h9 (by omega)) (fun _ => ?_)
      refine lv_aload_n hx hb (k := 0) (i := 0) (x := ad 0) (by decide +kernel) rfl (lv_at hl 5 rfl) ?_
      refine lv_iload hx hb (i := 5) (x := iI (j : Int)) (by decide +kernel) (lv_at hl 0 rfl) ?_
      refine lk_callH (x := 230) (rest := []) (as := [.ref (ad 0), .int (iI (j : Int))]) (n := 2) F hw hl.1 ((L_boldest (X := X) (τ := τ) (p := (j : Int)) F.l0 ⟨by omega, by omega⟩ hS hN).to (k' := b1) ((A_bold hN ⟨by omega, by omega⟩).trans eb1)) (lr69 3 rfl) (lr69 4 rfl) (lr69 5 rfl) (lr69 6 rfl) ⟨by decide, by decide, by decide +kernel⟩ rfl ⟨Nat.le_of_ble_eq_true rfl, Nat.le_of_ble_eq_true rfl, (by show _ ≤ 2400; omega), (by show _ ≤ 14400; omega)⟩ (Nat.le_of_ble_eq_true rfl) (by decide +kernel) rfl (fun v9 V9 hG H locs hw => ?_)
      obtain ⟨rfl, rfl⟩ := hG
      refine W.eq (g2 := F0 m 28 ls [.int (iI b1)]) rfl ?_
      refine lv_istore hx hb (i := 6) (lv' := [(6, .int (iI b1)), (5, .int (iI (j : Int))), (4, .int (iI v4)), (3, .int (iI v3)), (2, .int (iI v2)), (1, .int (iI (N : Int))), (0, .ref (ad 0))]) (by decide +kernel) hl (by decide) rfl (fun ls hl => ?_)
      refine lv_aload_n hx hb (k := 0) (i := 0) (x := ad 0) (by decide +kernel) rfl (lv_at hl 6 rfl) ?_
      refine lv_iload hx hb (i := 5) (x := iI (j : Int)) (by decide +kernel) (lv_at hl 1 rfl) ?_
      refine lk_callH (x := 232) (rest := []) (as := [.ref (ad 0), .int (iI (j : Int))]) (n := 2) F hw hl.1 ((L_farthest (X := X) (τ := τ) (p := (j : Int)) F.l0 ⟨by omega, by omega⟩ hS hN).to (k' := g1) ((A_farr hN ⟨by omega, by omega⟩).trans eg1)) (lr69 7 rfl) (lr69 8 rfl) (lr69 9 rfl) (lr69 6 rfl) ⟨by decide, by decide, by decide +kernel⟩ rfl ⟨Nat.le_of_ble_eq_true rfl, Nat.le_of_ble_eq_true rfl, (by show _ ≤ 2400; omega), (by show _ ≤ 14400; omega)⟩ (Nat.le_of_ble_eq_true rfl) (by decide +kernel) rfl (fun v9 V9 hG H locs hw => ?_)
      obtain ⟨rfl, rfl⟩ := hG
      refine W.eq (g2 := F0 m 36 ls [.int (iI g1)]) rfl ?_
      refine lv_istore hx hb (i := 7) (lv' := [(7, .int (iI g1)), (6, .int (iI b1)), (5, .int (iI (j : Int))), (4, .int (iI v4)), (3, .int (iI v3)), (2, .int (iI v2)), (1, .int (iI (N : Int))), (0, .ref (ad 0))]) (by decide +kernel) hl (by decide) rfl (fun ls hl => ?_)
      refine lv_iload_n hx hb (k := 2) (i := 2) (x := iI v2) (by decide +kernel) rfl (lv_at hl 5 rfl) ?_
      refine lv_aload_n hx hb (k := 0) (i := 0) (x := ad 0) (by decide +kernel) rfl (lv_at hl 7 rfl) ?_
      refine lv_iload hx hb (i := 5) (x := iI (j : Int)) (by decide +kernel) (lv_at hl 2 rfl) ?_
      refine lv_iconst hx hb (n := 3) (v := iI 3) (by decide +kernel) rfl ?_
      refine lk_callH (x := 163) (rest := [.int (iI v2)]) (as := [.ref (ad 0), .int (iI (j : Int)), .int (iI 3)]) (n := 3) F hw hl.1 (K_of (X := X) (τ := τ) (f := (j : Int)) (w := 3) (B := B) F.l0 (by omega) (by omega) hS) (lr69 22 rfl) (lr69 23 rfl) (lr69 24 rfl) (lr69 6 rfl) ⟨by decide, by decide, by decide +kernel⟩ rfl ⟨Nat.le_of_ble_eq_true rfl, Nat.le_of_ble_eq_true rfl, (by show _ ≤ 2400; omega), (by show _ ≤ 14400; omega)⟩ (Nat.le_of_ble_eq_true rfl) (by decide +kernel) rfl (fun v9 V9 hG H locs hw => ?_)
      obtain ⟨rfl, rfl⟩ := hG
      refine W.eq (g2 := F0 m 46 ls [.int (iI (cel (τ 4) (0 + (j : Int) * 6 + 3))), .int (iI v2)]) rfl ?_
      refine lz_iadd hx hb (a := v2) (b := (cel (τ 4) (0 + (j : Int) * 6 + 3))) (by decide +kernel) ?_
      refine lv_istore_n hx hb (k := 2) (i := 2) (lv' := [(2, .int (iI (v2 + (cel (τ 4) (0 + (j : Int) * 6 + 3))))), (7, .int (iI g1)), (6, .int (iI b1)), (5, .int (iI (j : Int))), (4, .int (iI v4)), (3, .int (iI v3)), (1, .int (iI (N : Int))), (0, .ref (ad 0))]) (by decide +kernel) rfl hl (by decide) rfl (fun ls hl => ?_)
      refine lv_iload_n hx hb (k := 3) (i := 3) (x := iI v3) (by decide +kernel) rfl (lv_at hl 5 rfl) ?_
      refine lv_iconst hx hb (n := 1) (v := iI 1) (by decide +kernel) rfl ?_
      refine lv_aload_n hx hb (k := 0) (i := 0) (x := ad 0) (by decide +kernel) rfl (lv_at hl 7 rfl) ?_
      refine lv_iload hx hb (i := 5) (x := iI (j : Int)) (by decide +kernel) (lv_at hl 3 rfl) ?_
      refine lv_iconst hx hb (n := 0) (v := iI 0) (by decide +kernel) rfl ?_
      refine lk_callH (x := 163) (rest := [.int (iI 1), .int (iI v3)]) (as := [.ref (ad 0), .int (iI (j : Int)), .int (iI 0)]) (n := 3) F hw hl.1 (K_of (X := X) (τ := τ) (f := (j : Int)) (w := 0) (B := B) F.l0 (by omega) (by omega) hS) (lr69 22 rfl) (lr69 23 rfl) (lr69 24 rfl) (lr69 6 rfl) ⟨by decide, by decide, by decide +kernel⟩ rfl ⟨Nat.le_of_ble_eq_true rfl, Nat.le_of_ble_eq_true rfl, (by show _ ≤ 2400; omega), (by show _ ≤ 14400; omega)⟩ (Nat.le_of_ble_eq_true rfl) (by decide +kernel) rfl (fun v9 V9 hG H locs hw => ?_)
      obtain ⟨rfl, rfl⟩ := hG
      refine W.eq (g2 := F0 m 57 ls [.int (iI (cel (τ 4) (0 + (j : Int) * 6 + 0))), .int (iI 1), .int (iI v3)]) rfl ?_
      refine lz_isub hx hb (a := 1) (b := (cel (τ 4) (0 + (j : Int) * 6 + 0))) (by decide +kernel) ?_
      refine lz_iadd hx hb (a := v3) (b := (1 - (cel (τ 4) (0 + (j : Int) * 6 + 0)))) (by decide +kernel) ?_
      refine lv_istore_n hx hb (k := 3) (i := 3) (lv' := [(3, .int (iI (v3 + (1 - (cel (τ 4) (0 + (j : Int) * 6 + 0)))))), (2, .int (iI (v2 + (cel (τ 4) (0 + (j : Int) * 6 + 3))))), (7, .int (iI g1)), (6, .int (iI b1)), (5, .int (iI (j : Int))), (4, .int (iI v4)), (1, .int (iI (N : Int))), (0, .ref (ad 0))]) (by decide +kernel) rfl hl (by decide) rfl (fun ls hl => ?_)
      refine lv_iload hx hb (i := 4) (x := iI v4) (by decide +kernel) (lv_at hl 5 rfl) ?_
      refine lv_aload_n hx hb (k := 0) (i := 0) (x := ad 0) (by decide +kernel) rfl (lv_at hl 7 rfl) ?_
      refine lv_iload hx hb (i := 5) (x := iI (j : Int)) (by decide +kernel) (lv_at hl 4 rfl) ?_
      refine lv_iconst hx hb (n := 4) (v := iI 4) (by decide +kernel) rfl ?_
      refine lk_callH (x := 163) (rest := [.int (iI v4)]) (as := [.ref (ad 0), .int (iI (j : Int)), .int (iI 4)]) (n := 3) F hw hl.1 (K_of (X := X) (τ := τ) (f := (j : Int)) (w := 4) (B := B) F.l0 (by omega) (by omega) hS) (lr69 22 rfl) (lr69 23 rfl) (lr69 24 rfl) (lr69 6 rfl) ⟨by decide, by decide, by decide +kernel⟩ rfl ⟨Nat.le_of_ble_eq_true rfl, Nat.le_of_ble_eq_true rfl, (by show _ ≤ 2400; omega), (by show _ ≤ 14400; omega)⟩ (Nat.le_of_ble_eq_true rfl) (by decide +kernel) rfl (fun v9 V9 hG H locs hw => ?_)
      obtain ⟨rfl, rfl⟩ := hG
      refine W.eq (g2 := F0 m 69 ls [.int (iI (cel (τ 4) (0 + (j : Int) * 6 + 4))), .int (iI v4)]) rfl ?_
      refine lz_iadd hx hb (a := v4) (b := (cel (τ 4) (0 + (j : Int) * 6 + 4))) (by decide +kernel) ?_
      refine lv_istore hx hb (i := 4) (lv' := [(4, .int (iI (v4 + (cel (τ 4) (0 + (j : Int) * 6 + 4))))), (3, .int (iI (v3 + (1 - (cel (τ 4) (0 + (j : Int) * 6 + 0)))))), (2, .int (iI (v2 + (cel (τ 4) (0 + (j : Int) * 6 + 3))))), (7, .int (iI g1)), (6, .int (iI b1)), (5, .int (iI (j : Int))), (1, .int (iI (N : Int))), (0, .ref (ad 0))]) (by decide +kernel) hl (by decide) rfl (fun ls hl => ?_)
      refine lv_iload hx hb (i := 5) (x := iI (j : Int)) (by decide +kernel) (lv_at hl 5 rfl) ?_
      refine lz_if_le hx hb (a := (j : Int)) (off := 109) (tgt := 183) (by decide +kernel) (by decide) ⟨by omega, by omega⟩ (fun h9 => absurd h9 (by omega)) (fun _ => ?_)
      refine lv_aload_n hx hb (k := 0) (i := 0) (x := ad 0) (by decide +kernel) rfl (lv_at hl 7 rfl) ?_
      refine lv_iload hx hb (i := 5) (x := iI (j : Int)) (by decide +kernel) (lv_at hl 5 rfl) ?_
      refine lv_iconst hx hb (n := 1) (v := iI 1) (by decide +kernel) rfl ?_
      refine lz_isub hx hb (a := (j : Int)) (b := 1) (by decide +kernel) ?_
      refine lk_callH (x := 230) (rest := []) (as := [.ref (ad 0), .int (iI ((j : Int) - 1))]) (n := 2) F hw hl.1 ((L_boldest (X := X) (τ := τ) (p := ((j : Int) - 1)) F.l0 ⟨by omega, by omega⟩ hS hN).to (k' := b0) ((A_bold hN ⟨by omega, by omega⟩).trans eb0)) (lr69 3 rfl) (lr69 4 rfl) (lr69 5 rfl) (lr69 6 rfl) ⟨by decide, by decide, by decide +kernel⟩ rfl ⟨Nat.le_of_ble_eq_true rfl, Nat.le_of_ble_eq_true rfl, (by show _ ≤ 2400; omega), (by show _ ≤ 14400; omega)⟩ (Nat.le_of_ble_eq_true rfl) (by decide +kernel) rfl (fun v9 V9 hG H locs hw => ?_)
      obtain ⟨rfl, rfl⟩ := hG
      refine W.eq (g2 := F0 m 85 ls [.int (iI b0)]) rfl ?_
      refine lv_istore hx hb (i := 8) (lv' := [(8, .int (iI b0)), (4, .int (iI (v4 + (cel (τ 4) (0 + (j : Int) * 6 + 4))))), (3, .int (iI (v3 + (1 - (cel (τ 4) (0 + (j : Int) * 6 + 0)))))), (2, .int (iI (v2 + (cel (τ 4) (0 + (j : Int) * 6 + 3))))), (7, .int (iI g1)), (6, .int (iI b1)), (5, .int (iI (j : Int))), (1, .int (iI (N : Int))), (0, .ref (ad 0))]) (by decide +kernel) hl (by decide) rfl (fun ls hl => ?_)
      refine lv_aload_n hx hb (k := 0) (i := 0) (x := ad 0) (by decide +kernel) rfl (lv_at hl 8 rfl) ?_
      refine lv_iload hx hb (i := 5) (x := iI (j : Int)) (by decide +kernel) (lv_at hl 6 rfl) ?_
      refine lv_iconst hx hb (n := 1) (v := iI 1) (by decide +kernel) rfl ?_
      refine lz_isub hx hb (a := (j : Int)) (b := 1) (by decide +kernel) ?_
      refine lk_callH (x := 232) (rest := []) (as := [.ref (ad 0), .int (iI ((j : Int) - 1))]) (n := 2) F hw hl.1 ((L_farthest (X := X) (τ := τ) (p := ((j : Int) - 1)) F.l0 ⟨by omega, by omega⟩ hS hN).to (k' := g0) ((A_farr hN ⟨by omega, by omega⟩).trans eg0)) (lr69 7 rfl) (lr69 8 rfl) (lr69 9 rfl) (lr69 6 rfl) ⟨by decide, by decide, by decide +kernel⟩ rfl ⟨Nat.le_of_ble_eq_true rfl, Nat.le_of_ble_eq_true rfl, (by show _ ≤ 2400; omega), (by show _ ≤ 14400; omega)⟩ (Nat.le_of_ble_eq_true rfl) (by decide +kernel) rfl (fun v9 V9 hG H locs hw => ?_)
      obtain ⟨rfl, rfl⟩ := hG
      refine W.eq (g2 := F0 m 95 ls [.int (iI g0)]) rfl ?_
      refine lv_istore hx hb (i := 9) (lv' := [(9, .int (iI g0)), (8, .int (iI b0)), (4, .int (iI (v4 + (cel (τ 4) (0 + (j : Int) * 6 + 4))))), (3, .int (iI (v3 + (1 - (cel (τ 4) (0 + (j : Int) * 6 + 0)))))), (2, .int (iI (v2 + (cel (τ 4) (0 + (j : Int) * 6 + 3))))), (7, .int (iI g1)), (6, .int (iI b1)), (5, .int (iI (j : Int))), (1, .int (iI (N : Int))), (0, .ref (ad 0))]) (by decide +kernel) hl (by decide) rfl (fun ls hl => ?_)
      refine lv_iconst hx hb (n := 2) (v := iI 2) (by decide +kernel) rfl ?_
      refine lv_aload_n hx hb (k := 0) (i := 0) (x := ad 0) (by decide +kernel) rfl (lv_at hl 9 rfl) ?_
      refine lv_iload hx hb (i := 8) (x := iI b0) (by decide +kernel) (lv_at hl 1 rfl) ?_
      refine lv_iconst hx hb (n := 4) (v := iI 4) (by decide +kernel) rfl ?_
      refine lk_callH (x := 163) (rest := [.int (iI 2)]) (as := [.ref (ad 0), .int (iI b0), .int (iI 4)]) (n := 3) F hw hl.1 (K_of (X := X) (τ := τ) (f := b0) (w := 4) (B := B) F.l0 (by omega) (by omega) hS) (lr69 22 rfl) (lr69 23 rfl) (lr69 24 rfl) (lr69 6 rfl) ⟨by decide, by decide, by decide +kernel⟩ rfl ⟨Nat.le_of_ble_eq_true rfl, Nat.le_of_ble_eq_true rfl, (by show _ ≤ 2400; omega), (by show _ ≤ 14400; omega)⟩ (Nat.le_of_ble_eq_true rfl) (by decide +kernel) rfl (fun v9 V9 hG H locs hw => ?_)
      obtain ⟨rfl, rfl⟩ := hG
      refine W.eq (g2 := F0 m 105 ls [.int (iI (cel (τ 4) (0 + b0 * 6 + 4))), .int (iI 2)]) rfl ?_
      refine lv_aload_n hx hb (k := 0) (i := 0) (x := ad 0) (by decide +kernel) rfl (lv_at hl 9 rfl) ?_
      refine lv_iload hx hb (i := 6) (x := iI b1) (by decide +kernel) (lv_at hl 6 rfl) ?_
      refine lv_iconst hx hb (n := 4) (v := iI 4) (by decide +kernel) rfl ?_
      refine lk_callH (x := 163) (rest := [.int (iI (cel (τ 4) (0 + b0 * 6 + 4))), .int (iI 2)]) (as := [.ref (ad 0), .int (iI b1), .int (iI 4)]) (n := 3) F hw hl.1 (K_of (X := X) (τ := τ) (f := b1) (w := 4) (B := B) F.l0 (by omega) (by omega) hS) (lr69 22 rfl) (lr69 23 rfl) (lr69 24 rfl) (lr69 6 rfl) ⟨by decide, by decide, by decide +kernel⟩ rfl ⟨Nat.le_of_ble_eq_true rfl, Nat.le_of_ble_eq_true rfl, (by show _ ≤ 2400; omega), (by show _ ≤ 14400; omega)⟩ (Nat.le_of_ble_eq_true rfl) (by decide +kernel) rfl (fun v9 V9 hG H locs hw => ?_)
      obtain ⟨rfl, rfl⟩ := hG
      refine W.eq (g2 := F0 m 112 ls [.int (iI (cel (τ 4) (0 + b1 * 6 + 4))), .int (iI (cel (τ 4) (0 + b0 * 6 + 4))), .int (iI 2)]) rfl ?_
      refine lz_isub hx hb (a := (cel (τ 4) (0 + b0 * 6 + 4))) (b := (cel (τ 4) (0 + b1 * 6 + 4))) (by decide +kernel) ?_
      refine lz_imul hx hb (a := 2) (b := ((cel (τ 4) (0 + b0 * 6 + 4)) - (cel (τ 4) (0 + b1 * 6 + 4)))) (by decide +kernel) ?_
      refine lv_aload_n hx hb (k := 0) (i := 0) (x := ad 0) (by decide +kernel) rfl (lv_at hl 9 rfl) ?_
      refine lv_iload hx hb (i := 8) (x := iI b0) (by decide +kernel) (lv_at hl 1 rfl) ?_
      refine lv_iconst hx hb (n := 3) (v := iI 3) (by decide +kernel) rfl ?_
      refine lk_callH (x := 163) (rest := [.int (iI (2 * ((cel (τ 4) (0 + b0 * 6 + 4)) - (cel (τ 4) (0 + b1 * 6 + 4)))))]) (as := [.ref (ad 0), .int (iI b0), .int (iI 3)]) (n := 3) F hw hl.1 (K_of (X := X) (τ := τ) (f := b0) (w := 3) (B := B) F.l0 (by omega) (by omega) hS) (lr69 22 rfl) (lr69 23 rfl) (lr69 24 rfl) (lr69 6 rfl) ⟨by decide, by decide, by decide +kernel⟩ rfl ⟨Nat.le_of_ble_eq_true rfl, Nat.le_of_ble_eq_true rfl, (by show _ ≤ 2400; omega), (by show _ ≤ 14400; omega)⟩ (Nat.le_of_ble_eq_true rfl) (by decide +kernel) rfl (fun v9 V9 hG H locs hw => ?_)
      obtain ⟨rfl, rfl⟩ := hG
      refine W.eq (g2 := F0 m 121 ls [.int (iI (cel (τ 4) (0 + b0 * 6 + 3))), .int (iI (2 * ((cel (τ 4) (0 + b0 * 6 + 4)) - (cel (τ 4) (0 + b1 * 6 + 4)))))]) rfl ?_
      refine lz_iadd hx hb (a := (2 * ((cel (τ 4) (0 + b0 * 6 + 4)) - (cel (τ 4) (0 + b1 * 6 + 4))))) (b := (cel (τ 4) (0 + b0 * 6 + 3))) (by decide +kernel) ?_
      refine lv_aload_n hx hb (k := 0) (i := 0) (x := ad 0) (by decide +kernel) rfl (lv_at hl 9 rfl) ?_
      refine lv_iload hx hb (i := 6) (x := iI b1) (by decide +kernel) (lv_at hl 6 rfl) ?_
      refine lv_iconst hx hb (n := 3) (v := iI 3) (by decide +kernel) rfl ?_
      refine lk_callH (x := 163) (rest := [.int (iI ((2 * ((cel (τ 4) (0 + b0 * 6 + 4)) - (cel (τ 4) (0 + b1 * 6 + 4)))) + (cel (τ 4) (0 + b0 * 6 + 3))))]) (as := [.ref (ad 0), .int (iI b1), .int (iI 3)]) (n := 3) F hw hl.1 (K_of (X := X) (τ := τ) (f := b1) (w := 3) (B := B) F.l0 (by omega) (by omega) hS) (lr69 22 rfl) (lr69 23 rfl) (lr69 24 rfl) (lr69 6 rfl) ⟨by decide, by decide, by decide +kernel⟩ rfl ⟨Nat.le_of_ble_eq_true rfl, Nat.le_of_ble_eq_true rfl, (by show _ ≤ 2400; omega), (by show _ ≤ 14400; omega)⟩ (Nat.le_of_ble_eq_true rfl) (by decide +kernel) rfl (fun v9 V9 hG H locs hw => ?_)
      obtain ⟨rfl, rfl⟩ := hG
      refine W.eq (g2 := F0 m 129 ls [.int (iI (cel (τ 4) (0 + b1 * 6 + 3))), .int (iI ((2 * ((cel (τ 4) (0 + b0 * 6 + 4)) - (cel (τ 4) (0 + b1 * 6 + 4)))) + (cel (τ 4) (0 + b0 * 6 + 3))))]) rfl ?_
      refine lz_isub hx hb (a := ((2 * ((cel (τ 4) (0 + b0 * 6 + 4)) - (cel (τ 4) (0 + b1 * 6 + 4)))) + (cel (τ 4) (0 + b0 * 6 + 3)))) (b := (cel (τ 4) (0 + b1 * 6 + 3))) (by decide +kernel) ?_
      refine lv_istore hx hb (i := 10) (lv' := [(10, .int (iI (((2 * ((cel (τ 4) (0 + b0 * 6 + 4)) - (cel (τ 4) (0 + b1 * 6 + 4)))) + (cel (τ 4) (0 + b0 * 6 + 3))) - (cel (τ 4) (0 + b1 * 6 + 3))))), (9, .int (iI g0)), (8, .int (iI b0)), (4, .int (iI (v4 + (cel (τ 4) (0 + (j : Int) * 6 + 4))))), (3, .int (iI (v3 + (1 - (cel (τ 4) (0 + (j : Int) * 6 + 0)))))), (2, .int (iI (v2 + (cel (τ 4) (0 + (j : Int) * 6 + 3))))), (7, .int (iI g1)), (6, .int (iI b1)), (5, .int (iI (j : Int))), (1, .int (iI (N : Int))), (0, .ref (ad 0))]) (by decide +kernel) hl (by decide) rfl (fun ls hl => ?_)
      refine lv_aload_n hx hb (k := 0) (i := 0) (x := ad 0) (by decide +kernel) rfl (lv_at hl 10 rfl) ?_
      refine lv_iload hx hb (i := 9) (x := iI g0) (by decide +kernel) (lv_at hl 1 rfl) ?_
      refine lk_call (x := 234) (rest := []) (as := [.ref (ad 0), .int (iI g0)]) (n := 2) F hw hl.1 (K_far (X := X) (τ := τ) (f := g0) (B := B) F.l0 (by omega) hS) (lr69 36 rfl) (lr69 37 rfl) (lr69 38 rfl) (lr69 6 rfl) ⟨rfl, by decide, by decide, by decide +kernel⟩ rfl ⟨Nat.le_of_ble_eq_true rfl, Nat.le_of_ble_eq_true rfl, (by show _ ≤ 2400; omega), (by show _ ≤ 14400; omega)⟩ (Nat.le_of_ble_eq_true rfl) (by decide +kernel) rfl (fun v9 V9 hG H locs hw => ?_)
      obtain ⟨rfl, rfl⟩ := hG
      refine W.eq (g2 := F0 m 138 ls [.int (iI (wcm (τ 4) g0))]) rfl ?_
      refine lv_aload_n hx hb (k := 0) (i := 0) (x := ad 0) (by decide +kernel) rfl (lv_at hl 10 rfl) ?_
      refine lv_iload hx hb (i := 7) (x := iI g1) (by decide +kernel) (lv_at hl 6 rfl) ?_
      refine lk_call (x := 234) (rest := [.int (iI (wcm (τ 4) g0))]) (as := [.ref (ad 0), .int (iI g1)]) (n := 2) F hw hl.1 (K_far (X := X) (τ := τ) (f := g1) (B := B) F.l0 (by omega) hS) (lr69 36 rfl) (lr69 37 rfl) (lr69 38 rfl) (lr69 6 rfl) ⟨rfl, by decide, by decide, by decide +kernel⟩ rfl ⟨Nat.le_of_ble_eq_true rfl, Nat.le_of_ble_eq_true rfl, (by show _ ≤ 2400; omega), (by show _ ≤ 14400; omega)⟩ (Nat.le_of_ble_eq_true rfl) (by decide +kernel) rfl (fun v9 V9 hG H locs hw => ?_)
      obtain ⟨rfl, rfl⟩ := hG
      refine W.eq (g2 := F0 m 144 ls [.int (iI (wcm (τ 4) g1)), .int (iI (wcm (τ 4) g0))]) rfl ?_
      refine lz_isub hx hb (a := (wcm (τ 4) g0)) (b := (wcm (τ 4) g1)) (by decide +kernel) ?_
      refine lv_istore hx hb (i := 11) (lv' := [(11, .int (iI ((wcm (τ 4) g0) - (wcm (τ 4) g1)))), (10, .int (iI (((2 * ((cel (τ 4) (0 + b0 * 6 + 4)) - (cel (τ 4) (0 + b1 * 6 + 4)))) + (cel (τ 4) (0 + b0 * 6 + 3))) - (cel (τ 4) (0 + b1 * 6 + 3))))), (9, .int (iI g0)), (8, .int (iI b0)), (4, .int (iI (v4 + (cel (τ 4) (0 + (j : Int) * 6 + 4))))), (3, .int (iI (v3 + (1 - (cel (τ 4) (0 + (j : Int) * 6 + 0)))))), (2, .int (iI (v2 + (cel (τ 4) (0 + (j : Int) * 6 + 3))))), (7, .int (iI g1)), (6, .int (iI b1)), (5, .int (iI (j : Int))), (1, .int (iI (N : Int))), (0, .ref (ad 0))]) (by decide +kernel) hl (by decide) rfl (fun ls hl => ?_)
      refine lv_iload hx hb (i := 10) (x := iI (((2 * ((cel (τ 4) (0 + b0 * 6 + 4)) - (cel (τ 4) (0 + b1 * 6 + 4)))) + (cel (τ 4) (0 + b0 * 6 + 3))) - (cel (τ 4) (0 + b1 * 6 + 3)))) (by decide +kernel) (lv_at hl 1 rfl) ?_
      refine lz_if_lt hx hb (a := (((2 * ((cel (τ 4) (0 + b0 * 6 + 4)) - (cel (τ 4) (0 + b1 * 6 + 4)))) + (cel (τ 4) (0 + b0 * 6 + 3))) - (cel (τ 4) (0 + b1 * 6 + 3)))) (off := 32) (tgt := 181) (by decide +kernel) (by decide) ⟨by omega, by omega⟩ (fun h9 => absurd h9 (by omega)) (fun _ => ?_)
      refine lv_iload hx hb (i := 10) (x := iI (((2 * ((cel (τ 4) (0 + b0 * 6 + 4)) - (cel (τ 4) (0 + b1 * 6 + 4)))) + (cel (τ 4) (0 + b0 * 6 + 3))) - (cel (τ 4) (0 + b1 * 6 + 3)))) (by decide +kernel) (lv_at hl 1 rfl) ?_
      refine lz_if_ne hx hb (a := (((2 * ((cel (τ 4) (0 + b0 * 6 + 4)) - (cel (τ 4) (0 + b1 * 6 + 4)))) + (cel (τ 4) (0 + b0 * 6 + 3))) - (cel (τ 4) (0 + b1 * 6 + 3)))) (off := 10) (tgt := 164) (by decide +kernel) (by decide) ⟨by omega, by omega⟩ (fun h4 => ?_) (fun h4 => ?_)
      ·
        refine lv_iload hx hb (i := 11) (x := iI ((wcm (τ 4) g0) - (wcm (τ 4) g1))) (by decide +kernel) (lv_at hl 0 rfl) ?_
        refine lz_if_lt hx hb (a := ((wcm (τ 4) g0) - (wcm (τ 4) g1))) (off := 15) (tgt := 181) (by decide +kernel) (by decide) ⟨by omega, by omega⟩ (fun h9 => absurd h9 (by omega)) (fun _ => ?_)
        refine lv_iload hx hb (i := 11) (x := iI ((wcm (τ 4) g0) - (wcm (τ 4) g1))) (by decide +kernel) (lv_at hl 0 rfl) ?_
        refine lz_if_ne hx hb (a := ((wcm (τ 4) g0) - (wcm (τ 4) g1))) (off := 12) (tgt := 183) (by decide +kernel) (by decide) ⟨by omega, by omega⟩ (fun h6 => ?_) (fun h6 => ?_)
        ·
          refine lv_iinc hx hb (i := 5) (n := 1) (v := iI ((j : Int) + 1)) (lv' := [(5, .int (iI ((j : Int) + 1))), (11, .int (iI ((wcm (τ 4) g0) - (wcm (τ 4) g1)))), (10, .int (iI (((2 * ((cel (τ 4) (0 + b0 * 6 + 4)) - (cel (τ 4) (0 + b1 * 6 + 4)))) + (cel (τ 4) (0 + b0 * 6 + 3))) - (cel (τ 4) (0 + b1 * 6 + 3))))), (9, .int (iI g0)), (8, .int (iI b0)), (4, .int (iI (v4 + (cel (τ 4) (0 + (j : Int) * 6 + 4))))), (3, .int (iI (v3 + (1 - (cel (τ 4) (0 + (j : Int) * 6 + 0)))))), (2, .int (iI (v2 + (cel (τ 4) (0 + (j : Int) * 6 + 3))))), (7, .int (iI g1)), (6, .int (iI b1)), (1, .int (iI (N : Int))), (0, .ref (ad 0))]) (by decide +kernel) hl (k := 9) rfl (iI_add _ _) (by decide) rfl (fun ls hl => ?_)
          refine lv_goto hx hb (off := (-170)) (tgt := 16) (by decide +kernel) (by decide) ?_
          exact ih (j + 1) _ _ _ _ ls _ _ _ _ (by omega) (by omega) (by rw [i4]; rfl) (by rw [i3, b2_s hsd]; rfl) (by rw [i2]; rfl) (by omega) (by omega) (lv_sub hl [0, 5, 6, 7, 10, 11] rfl) hw
        ·
          refine lv_iload hx hb (i := 9) (x := iI g0) (by decide +kernel) (lv_at hl 2 rfl) ?_
          refine lv_iload hx hb (i := 7) (x := iI g1) (by decide +kernel) (lv_at hl 7 rfl) ?_
          refine lz_icmp_le hx hb (a := g0) (b := g1) (off := 5) (tgt := 183) (by decide +kernel) (by decide) ⟨by omega, by omega⟩ ⟨by omega, by omega⟩ (fun _ => ?_) (fun h9 => absurd (by omega) h9)
          refine lv_iinc hx hb (i := 5) (n := 1) (v := iI ((j : Int) + 1)) (lv' := [(5, .int (iI ((j : Int) + 1))), (11, .int (iI ((wcm (τ 4) g0) - (wcm (τ 4) g1)))), (10, .int (iI (((2 * ((cel (τ 4) (0 + b0 * 6 + 4)) - (cel (τ 4) (0 + b1 * 6 + 4)))) + (cel (τ 4) (0 + b0 * 6 + 3))) - (cel (τ 4) (0 + b1 * 6 + 3))))), (9, .int (iI g0)), (8, .int (iI b0)), (4, .int (iI (v4 + (cel (τ 4) (0 + (j : Int) * 6 + 4))))), (3, .int (iI (v3 + (1 - (cel (τ 4) (0 + (j : Int) * 6 + 0)))))), (2, .int (iI (v2 + (cel (τ 4) (0 + (j : Int) * 6 + 3))))), (7, .int (iI g1)), (6, .int (iI b1)), (1, .int (iI (N : Int))), (0, .ref (ad 0))]) (by decide +kernel) hl (k := 9) rfl (iI_add _ _) (by decide) rfl (fun ls hl => ?_)
          refine lv_goto hx hb (off := (-170)) (tgt := 16) (by decide +kernel) (by decide) ?_
          exact ih (j + 1) _ _ _ _ ls _ _ _ _ (by omega) (by omega) (by rw [i4]; rfl) (by rw [i3, b2_s hsd]; rfl) (by rw [i2]; rfl) (by omega) (by omega) (lv_sub hl [0, 5, 6, 7, 10, 11] rfl) hw
      ·
        refine lv_iload hx hb (i := 8) (x := iI b0) (by decide +kernel) (lv_at hl 3 rfl) ?_
        refine lv_iload hx hb (i := 6) (x := iI b1) (by decide +kernel) (lv_at hl 8 rfl) ?_
        refine lz_icmp_gt hx hb (a := b0) (b := b1) (off := 20) (tgt := 181) (by decide +kernel) (by decide) ⟨by omega, by omega⟩ ⟨by omega, by omega⟩ (fun h9 => absurd h9 (by omega)) (fun _ => ?_)
        refine lv_iload hx hb (i := 11) (x := iI ((wcm (τ 4) g0) - (wcm (τ 4) g1))) (by decide +kernel) (lv_at hl 0 rfl) ?_
        refine lz_if_lt hx hb (a := ((wcm (τ 4) g0) - (wcm (τ 4) g1))) (off := 15) (tgt := 181) (by decide +kernel) (by decide) ⟨by omega, by omega⟩ (fun h9 => absurd h9 (by omega)) (fun _ => ?_)
        refine lv_iload hx hb (i := 11) (x := iI ((wcm (τ 4) g0) - (wcm (τ 4) g1))) (by decide +kernel) (lv_at hl 0 rfl) ?_
        refine lz_if_ne hx hb (a := ((wcm (τ 4) g0) - (wcm (τ 4) g1))) (off := 12) (tgt := 183) (by decide +kernel) (by decide) ⟨by omega, by omega⟩ (fun h10 => ?_) (fun h10 => ?_)
        ·
          refine lv_iinc hx hb (i := 5) (n := 1) (v := iI ((j : Int) + 1)) (lv' := [(5, .int (iI ((j : Int) + 1))), (11, .int (iI ((wcm (τ 4) g0) - (wcm (τ 4) g1)))), (10, .int (iI (((2 * ((cel (τ 4) (0 + b0 * 6 + 4)) - (cel (τ 4) (0 + b1 * 6 + 4)))) + (cel (τ 4) (0 + b0 * 6 + 3))) - (cel (τ 4) (0 + b1 * 6 + 3))))), (9, .int (iI g0)), (8, .int (iI b0)), (4, .int (iI (v4 + (cel (τ 4) (0 + (j : Int) * 6 + 4))))), (3, .int (iI (v3 + (1 - (cel (τ 4) (0 + (j : Int) * 6 + 0)))))), (2, .int (iI (v2 + (cel (τ 4) (0 + (j : Int) * 6 + 3))))), (7, .int (iI g1)), (6, .int (iI b1)), (1, .int (iI (N : Int))), (0, .ref (ad 0))]) (by decide +kernel) hl (k := 9) rfl (iI_add _ _) (by decide) rfl (fun ls hl => ?_)
          refine lv_goto hx hb (off := (-170)) (tgt := 16) (by decide +kernel) (by decide) ?_
          exact ih (j + 1) _ _ _ _ ls _ _ _ _ (by omega) (by omega) (by rw [i4]; rfl) (by rw [i3, b2_s hsd]; rfl) (by rw [i2]; rfl) (by omega) (by omega) (lv_sub hl [0, 5, 6, 7, 10, 11] rfl) hw
        ·
          refine lv_iload hx hb (i := 9) (x := iI g0) (by decide +kernel) (lv_at hl 2 rfl) ?_
          refine lv_iload hx hb (i := 7) (x := iI g1) (by decide +kernel) (lv_at hl 7 rfl) ?_
          refine lz_icmp_le hx hb (a := g0) (b := g1) (off := 5) (tgt := 183) (by decide +kernel) (by decide) ⟨by omega, by omega⟩ ⟨by omega, by omega⟩ (fun _ => ?_) (fun h9 => absurd (by omega) h9)
          refine lv_iinc hx hb (i := 5) (n := 1) (v := iI ((j : Int) + 1)) (lv' := [(5, .int (iI ((j : Int) + 1))), (11, .int (iI ((wcm (τ 4) g0) - (wcm (τ 4) g1)))), (10, .int (iI (((2 * ((cel (τ 4) (0 + b0 * 6 + 4)) - (cel (τ 4) (0 + b1 * 6 + 4)))) + (cel (τ 4) (0 + b0 * 6 + 3))) - (cel (τ 4) (0 + b1 * 6 + 3))))), (9, .int (iI g0)), (8, .int (iI b0)), (4, .int (iI (v4 + (cel (τ 4) (0 + (j : Int) * 6 + 4))))), (3, .int (iI (v3 + (1 - (cel (τ 4) (0 + (j : Int) * 6 + 0)))))), (2, .int (iI (v2 + (cel (τ 4) (0 + (j : Int) * 6 + 3))))), (7, .int (iI g1)), (6, .int (iI b1)), (1, .int (iI (N : Int))), (0, .ref (ad 0))]) (by decide +kernel) hl (k := 9) rfl (iI_add _ _) (by decide) rfl (fun ls hl => ?_)
          refine lv_goto hx hb (off := (-170)) (tgt := 16) (by decide +kernel) (by decide) ?_
          exact ih (j + 1) _ _ _ _ ls _ _ _ _ (by omega) (by omega) (by rw [i4]; rfl) (by rw [i3, b2_s hsd]; rfl) (by rw [i2]; rfl) (by omega) (by omega) (lv_sub hl [0, 5, 6, 7, 10, 11] rfl) hw
theorem K_ranks {X : va_W} {τ : SZ} {B : Int} {N : Nat} (hl0 : l.stackTraces = false) (hI : Iv B (τ 4)) (hN : cel (τ 4) 107 = (N : Int)) : LK l D A ad adV cA (.code yL_ranks method_40_code 13 (some .boolean)) yL_ranks 26 2400 14400 [.ref (ad 0)] (wO ad cA (sz τ) ++ X) (RV ad cA X 1 τ) := by
  refine lk_of hl0 rfl ?_ (Nat.le_of_ble_eq_true rfl)
  rintro p e s m args below meth c F hlk hrt hw ls hl
  have hl : lv_has ls 13 [(0, .ref (ad 0))] := hl
  have hx := F.1
  have hb := F.2.1
  have hS := hI.1
  have hn := hS.n
  have htu := hS.tu
  have hBB := hS.B
  have hmx : mX m7_account = 1 := rfl
  refine lv_aload_n hx hb (k := 0) (i := 0) (x := ad 0) (by decide +kernel) rfl (lv_at hl 0 rfl) ?_
  refine lv_iconst hx hb (n := 0) (v := iI 0) (by decide +kernel) rfl ?_
  refine fl_call (d := 6) (j := m7_account) (as := [.inr 0]) (X := X) (x := 155) (rest := []) F hw hl.1 (c_acc_N hS hN) (by decide) rfl rfl (lr69 0 rfl) (lr69 1 rfl) (lr69 2 rfl) ⟨Nat.le_of_ble_eq_true rfl, Nat.le_of_ble_eq_true rfl, by decide +kernel, by decide +kernel⟩ (Nat.le_of_ble_eq_true rfl) (by decide +kernel) rfl (fun E9 τ9 e9 => by cases e9) (fun v9 τ9 e9 H locs hw => ?_)
  cases e9
  refine W.eq (g2 := F0 m 5 ls [.int (iI (N : Int))]) rfl ?_
  refine lv_istore_n hx hb (k := 1) (i := 1) (lv' := [(1, .int (iI (N : Int))), (0, .ref (ad 0))]) (by decide +kernel) rfl hl (by decide) rfl (fun ls hl => ?_)
  refine lv_iconst hx hb (n := 0) (v := iI 0) (by decide +kernel) rfl ?_
  refine lv_istore_n hx hb (k := 2) (i := 2) (lv' := [(2, .int (iI 0)), (1, .int (iI (N : Int))), (0, .ref (ad 0))]) (by decide +kernel) rfl hl (by decide) rfl (fun ls hl => ?_)
  refine lv_iconst hx hb (n := 0) (v := iI 0) (by decide +kernel) rfl ?_
  refine lv_istore_n hx hb (k := 3) (i := 3) (lv' := [(3, .int (iI 0)), (2, .int (iI 0)), (1, .int (iI (N : Int))), (0, .ref (ad 0))]) (by decide +kernel) rfl hl (by decide) rfl (fun ls hl => ?_)
  refine lv_iconst hx hb (n := 0) (v := iI 0) (by decide +kernel) rfl ?_
  refine lv_istore hx hb (i := 4) (lv' := [(4, .int (iI 0)), (3, .int (iI 0)), (2, .int (iI 0)), (1, .int (iI (N : Int))), (0, .ref (ad 0))]) (by decide +kernel) hl (by decide) rfl (fun ls hl => ?_)
  refine lv_iconst hx hb (n := 0) (v := iI 0) (by decide +kernel) rfl ?_
  refine lv_istore hx hb (i := 5) (lv' := [(5, .int (iI 0)), (4, .int (iI 0)), (3, .int (iI 0)), (2, .int (iI 0)), (1, .int (iI (N : Int))), (0, .ref (ad 0))]) (by decide +kernel) hl (by decide) rfl (fun ls hl => ?_)
  exact rk_ord F hlk hrt hI hN N 0 0 0 0 0 ls _ _ _ _ (by omega) rfl rfl rfl rfl (Nat.le_of_ble_eq_true rfl) (Nat.le_of_ble_eq_true rfl) (lv_sub hl [0, 1, 2, 3, 4, 5] rfl) hw
end RNK
