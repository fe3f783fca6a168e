/-! what moves gain, and the best of them: printed by wip/p39/db54.py -/
section GND
variable {l : Launch} {D : va_G} {A : Nat → Prop} {ad adV : Nat → Nat} {cA : Nat → ClassId}
/-- true, and the row as it was -/
def EV (ad : Nat → Nat) (cA : Nat → ClassId) (X : va_W) (c : Nat → Int) (B : Int) (v : Option Value) (V' : va_W) : Prop := ∃ (τ' : SZ) (h' : List (Nat → Int)), v = some (.int (iI 1)) ∧ V' = wO ad cA (sz τ') ++ X ∧ τ' 4 = c ∧ CV B τ' h'
theorem c_acc {τ : SZ} {c : Nat → Int} {B t : Int} {N : Nat} (e : τ 4 = c) (hS : Sh B c) (hN : cel c 107 = (N : Int)) (ht : t = 0 ∨ t = 1) : RZ 6 m7_account [.inl 0, .inr (5 + t)] τ (.inl (some (.inr (cel c (100 + t))), τ)) := by
  subst e
  rcases ht with rfl | rfl
  · exact c_account_5 hS hN
  · exact c_account_6 hS hN
theorem c_acc0 {τ : SZ} {c : Nat → Int} {B : Int} {N : Nat} (e : τ 4 = c) (hS : Sh B c) (hN : cel c 107 = (N : Int)) : RZ 6 m7_account [.inl 0, .inr 0] τ (.inl (some (.inr (cel c 107)), τ)) := by
  subst e
  exact c_account_0 hS hN
theorem c_trn {τ : SZ} {c : Nat → Int} (e : τ 4 = c) : RZ 6 m7_turn [.inl 0] τ (.inl (some (.inr (cel c 108)), τ)) := by
  subst e
  exact c_turn
theorem gn_most {B : Int} {c : Nat → Int} (hI : Iv B c) {f r s : Int} (hs : s = 1 ∨ s = -1) (hf : 0 ≤ f ∧ f < cel c 107) (hr : 0 ≤ r ∧ r < 2) (hm : ocn c f r s = 1 ∨ ocn c f r s = 2 ∨ ocn c f r s = 3) (hB : B + 7 ≤ 100000000) : mpv (mkm c f r s) (1 - cel c 108) (cel (mkm c f r s) 107).toNat = mkp c f r s - gnb c f r s := by
  have q := ocn_oco hm
  have hJ := hI.mkm hf hr hs q.2.2 hB
  have hn := hJ.1.n
  have ht := hI.1.tu
  have e := mxp_mpv hJ (x := 1 - cel c 108) (by omega) (N := (cel (mkm c f r s) 107).toNat) (by omega)
  unfold gnb
  rw [q.1, e]
  omega
theorem bsb_s {c : Nat → Int} {j : Nat} {s b m : Int} (hs : stp (j : Int) = s) (hm : ocn c ((j : Int) / 4) ((j : Int) / 2 % 2) s = 1 ∨ ocn c ((j : Int) / 4) ((j : Int) / 2 % 2) s = 2 ∨ ocn c ((j : Int) / 4) ((j : Int) / 2 % 2) s = 3)
    (h : (((bsb c j).1 < 0 ∨ (bsb c j).2 < gnb c ((j : Int) / 4) ((j : Int) / 2 % 2) s) ∧ b = (j : Int) ∧ m = gnb c ((j : Int) / 4) ((j : Int) / 2 % 2) s) ∨ (¬ ((bsb c j).1 < 0 ∨ (bsb c j).2 < gnb c ((j : Int) / 4) ((j : Int) / 2 % 2) s) ∧ b = (bsb c j).1 ∧ m = (bsb c j).2)) : b = (bsb c (j + 1)).1 ∧ m = (bsb c (j + 1)).2 := by
  rcases h with ⟨h1, h2, h3⟩ | ⟨h1, h2, h3⟩
  · rw [bsb_t hs hm h1]; exact ⟨h2, h3⟩
  · rw [bsb_f hs hm h1]; exact ⟨h2, h3⟩
theorem best_ok {B : Int} {c : Nat → Int} (hI : Iv B c) : ∀ k : Nat, (k : Int) ≤ 4 * cel c 107 → 0 ≤ (bsb c k).1 → ∃ f r s, (0 ≤ f ∧ f < cel c 107) ∧ (0 ≤ r ∧ r < 2) ∧ (s = 1 ∨ s = -1) ∧ (ocn c f r s = 1 ∨ ocn c f r s = 2 ∨ ocn c f r s = 3)
  | 0, _, h => absurd h (by show ¬ (0 : Int) ≤ -1; decide)
  | k + 1, hk, h => by
    by_cases hm : omv c (k : Int)
    · exact ⟨(k : Int) / 4, (k : Int) / 2 % 2, stp (k : Int), by omega, by omega, stp_in _, hm⟩
    · rw [bsb_n rfl hm] at h
      exact best_ok hI k (by omega) h
theorem fsm_no {c : Nat → Int} : ∀ (j : Nat) (z : Int), 0 ≤ z → fsm c j z = -1 → ∀ k, z ≤ k → k < z + (j : Int) → ¬ (cel c (0 + k * 6 + 0) = cel c 108 ∧ 0 < mvo c k)
  | 0, z, _, _, k, h1, h2 => by omega
  | j + 1, z, h0, h, k, h1, h2 => by
    unfold fsm at h
    by_cases q : cel c (0 + z * 6 + 0) = cel c 108 ∧ 0 < mvo c z
    · rw [if_pos q] at h
      omega
    · rw [if_neg q] at h
      by_cases e : k = z
      · subst e; exact q
      · exact fsm_no j (z + 1) (by omega) h k (by omega) (by omega)
theorem obP_of {B : Int} {c : Nat → Int} (hI : Iv B c) (h : ∃ f r s, (0 ≤ f ∧ f < cel c 107) ∧ (0 ≤ r ∧ r < 2) ∧ (s = 1 ∨ s = -1) ∧ (ocn c f r s = 1 ∨ ocn c f r s = 2 ∨ ocn c f r s = 3)) : obP c = 3 := by
  obtain ⟨f, r, s, hf, hr, hs, hm⟩ := h
  have q := ocn_oco hm
  have hn := hI.1.n
  unfold obP
  refine if_neg fun z => ?_
  refine fsm_no _ 0 (by omega) z f (by omega) (by omega) ⟨q.1, ?_⟩
  have p1 := b2_or (P := oco c f 0 (-1) = 1 ∨ oco c f 0 (-1) = 2 ∨ oco c f 0 (-1) = 3)
  have p2 := b2_or (P := oco c f 0 1 = 1 ∨ oco c f 0 1 = 2 ∨ oco c f 0 1 = 3)
  have p3 := b2_or (P := oco c f 1 (-1) = 1 ∨ oco c f 1 (-1) = 2 ∨ oco c f 1 (-1) = 3)
  have p4 := b2_or (P := oco c f 1 1 = 1 ∨ oco c f 1 1 = 2 ∨ oco c f 1 1 = 3)
  have ho := q.2.2
  unfold mvo
  have hr2 : r = 0 ∨ r = 1 := by omega
  rcases hr2 with rfl | rfl <;> rcases hs with rfl | rfl <;> rw [b2_t ho] <;> omega
def lr54W : List Jvm.Cond := [.methodLink RL 155 (mY m7_account),
  .instanceMethod (mY m7_account),
  .selects (mY m7_account).cls (mY m7_account) (mY m7_account),
  .methodLink RL 200 (mY m7_turn),
  .instanceMethod (mY m7_turn),
  .selects (mY m7_turn).cls (mY m7_turn) (mY m7_turn),
  .methodLink RL 150 yL_best,
  .static yL_best,
  .codeWith yL_best method_20_code 3 (some .int) [(0, 5, 6, 14), (0, 5, 10, 58)],
  .initialized RL,
  .methodLink RL 153 yL_pass,
  .static yL_pass,
  .codeWith yL_pass method_8_code 2 (some .int) [(0, 4, 5, 16)],
  .methodLink RL 140 yL_refusal,
  .static yL_refusal,
  .codeWith yL_refusal method_29_code 4 (some .int) [(0, 6, 7, 14), (0, 6, 12, 58)],
  .methodLink RL 208 yL_gain,
  .static yL_gain,
  .codeWith yL_gain method_19_code 5 (some .int) [(0, 7, 8, 22), (0, 7, 13, 58)],
  .methodLink RL 161 yL_move,
  .static yL_move,
  .codeWith yL_move method_7_code 5 (some .int) [(0, 7, 8, 22), (0, 7, 13, 16)],
  .methodLink RL 225 yL_most,
  .static yL_most,
  .code yL_most method_38_code 7 (some .int),
  .methodLink RL 228 yL_undo,
  .static yL_undo,
  .codeWith yL_undo method_30_code 2 (some .int) [(0, 4, 5, 104)]]
theorem lr54_in : ∀ w ∈ lr54W, w ∈ lw_tbl := by decide +kernel
theorem lr54 (k : Nat) {w : Jvm.Cond} (h : lr54W[k]? = some w) : w ∈ lw_tbl := lr54_in w (List.mem_of_getElem? h)
theorem K_gained {X : va_W} {τ : SZ} {h : List (Nat → Int)} {c_ : Nat → Int} {B : Int} {N : Nat} (hl0 : l.stackTraces = false) (C : CV B τ h) (e0 : τ 4 = c_) (hN : cel c_ 107 = (N : Int)) (hB : B + 7000 ≤ 100000000) : LK l D A ad adV cA (.code yL_gained method_39_code 9 (some .boolean)) yL_gained 26 30300 181800 [.ref (ad 0)] (wO ad cA (sz τ) ++ X) (EV ad cA X c_ (B + 7000)) := by
  refine lk_of hl0 rfl ?_ (Nat.le_of_ble_eq_true rfl)
  rintro p e s m args below meth c F hlk hrt hw ls hl
  have hl : lv_has ls 9 [(0, .ref (ad 0))] := hl
  have hx := F.1
  have hb := F.2.1
  have C1_ : Iv B c_ := e0 ▸ C.1
  have hS := C1_.1
  have hn := hS.n
  have htu := hS.tu
  have hmx : mX m7_account = 1 := rfl
  have hmt : mX m7_turn = 0 := rfl
  refine lv_iconst hx hb (n := (-1)) (v := iI (-1)) (by decide +kernel) rfl ?_
  refine lv_istore_n hx hb (k := 1) (i := 1) (lv' := [(1, .int (iI (-1))), (0, .ref (ad 0))]) (by decide +kernel) rfl hl (by decide) rfl (fun ls hl => ?_)
  refine lv_iconst hx hb (n := 0) (v := iI 0) (by decide +kernel) rfl ?_
  refine lv_istore_n hx hb (k := 2) (i := 2) (lv' := [(2, .int (iI 0)), (1, .int (iI (-1))), (0, .ref (ad 0))]) (by decide +kernel) rfl hl (by decide) rfl (fun ls hl => ?_)
  refine lv_aload_n hx hb (k := 0) (i := 0) (x := ad 0) (by decide +kernel) rfl (lv_at hl 2 rfl) ?_
  refine lv_iconst hx hb (n := 0) (v := iI 0) (by decide +kernel) rfl ?_
  refine fl_call (d := 6) (j := m7_account) (as := [.inr 0]) (X := X) (x := 155) (rest := []) F hw hl.1 (c_acc0 e0 hS hN) (by decide) rfl rfl (lr54 0 rfl) (lr54 1 rfl) (lr54 2 rfl) ⟨Nat.le_of_ble_eq_true rfl, Nat.le_of_ble_eq_true rfl, by decide +kernel, by decide +kernel⟩ (Nat.le_of_ble_eq_true rfl) (by decide +kernel) rfl (fun E9 τ9 e9 => by cases e9) (fun v9 τ9 e9 H locs hw => ?_)
  cases e9
  refine W.eq (g2 := F0 m 9 ls [.int (iI (cel c_ 107))]) rfl ?_
  refine lv_istore_n hx hb (k := 3) (i := 3) (lv' := [(3, .int (iI (cel c_ 107))), (2, .int (iI 0)), (1, .int (iI (-1))), (0, .ref (ad 0))]) (by decide +kernel) rfl hl (by decide) rfl (fun ls hl => ?_)
  refine lv_aload_n hx hb (k := 0) (i := 0) (x := ad 0) (by decide +kernel) rfl (lv_at hl 3 rfl) ?_
  refine fl_call (d := 6) (j := m7_turn) (as := []) (X := X) (x := 200) (rest := []) F hw hl.1 (c_trn e0) (by decide) rfl rfl (lr54 3 rfl) (lr54 4 rfl) (lr54 5 rfl) ⟨Nat.le_of_ble_eq_true rfl, Nat.le_of_ble_eq_true rfl, by decide +kernel, by decide +kernel⟩ (Nat.le_of_ble_eq_true rfl) (by decide +kernel) rfl (fun E9 τ9 e9 => by cases e9) (fun v9 τ9 e9 H locs hw => ?_)
  cases e9
  refine W.eq (g2 := F0 m 14 ls [.int (iI (cel c_ 108))]) rfl ?_
  refine lv_istore hx hb (i := 4) (lv' := [(4, .int (iI (cel c_ 108))), (3, .int (iI (cel c_ 107))), (2, .int (iI 0)), (1, .int (iI (-1))), (0, .ref (ad 0))]) (by decide +kernel) hl (by decide) rfl (fun ls hl => ?_)
  refine lv_iconst hx hb (n := 0) (v := iI 0) (by decide +kernel) rfl ?_
  refine lv_istore hx hb (i := 5) (lv' := [(5, .int (iI 0)), (4, .int (iI (cel c_ 108))), (3, .int (iI (cel c_ 107))), (2, .int (iI 0)), (1, .int (iI (-1))), (0, .ref (ad 0))]) (by decide +kernel) hl (by decide) rfl (fun ls hl => ?_)
  have loop : ∀ (q j : Nat) (z bb mm : Int) (τ1 : SZ) (h1 : List (Nat → Int)) (ls : Array Slot) (H : Heap) (locs : List Loc) (cl sl : Nat), j + q = 4 * N → z = (j : Int) → (bb = (bsb c_ j).1 ∧ mm = (bsb c_ j).2) → τ1 4 = c_ → CV (B + 200 * (j : Int)) τ1 h1 → cl ≤ 2 + 936 * j → sl ≤ 12 + 5616 * j → lv_has ls 9 [(5, .int (iI z)), (2, .int (iI mm)), (1, .int (iI bb)), (4, .int (iI (cel c_ 108))), (3, .int (iI (cel c_ 107))), (0, .ref (ad 0))] → WV D A s (wO ad cA (sz τ1) ++ X) H locs → W p l e (rmK 26 30300 181800) s m args below meth c H locs cl sl (vx_MQ below (LQ D A (EV ad cA X c_ (B + 7000))) (fun _ _ _ => False) args s 30300 181800 A) (F0 m 19 ls []) := by
    intro q
    induction q with
    | zero =>
      intro j z bb mm τ1 h1 ls H locs cl sl hk hz hbm e1 C1 hcl hsl hl hw
      have hj : j = 4 * N := by omega
      have hbi := bsb_in C1_ (by omega) j (by omega)
      have hj2 : (4 * cel c_ 107).toNat = j := by omega
      by_cases hneg : bb < 0
      ·
        refine lv_iload hx hb (i := 5) (x := iI z) (by decide +kernel) (lv_at hl 0 rfl) ?_
        refine lv_iconst hx hb (n := 4) (v := iI 4) (by decide +kernel) rfl ?_
        refine lv_iload_n hx hb (k := 3) (i := 3) (x := iI (cel c_ 107)) (by decide +kernel) rfl (lv_at hl 4 rfl) ?_
        refine lz_imul hx hb (a := 4) (b := (cel c_ 107)) (by decide +kernel) ?_
        refine lz_icmp_ge hx hb (a := z) (b := (4 * (cel c_ 107))) (off := 158) (tgt := 182) (by decide +kernel) (by decide) ⟨by omega, by omega⟩ ⟨by omega, by omega⟩ (fun _ => ?_) (fun h9 => absurd (by omega) h9)
        refine lv_iload_n hx hb (k := 1) (i := 1) (x := iI bb) (by decide +kernel) rfl (lv_at hl 2 rfl) ?_
        refine lz_if_ge hx hb (a := bb) (off := 39) (tgt := 222) (by decide +kernel) (by decide) ⟨by omega, by omega⟩ (fun h9 => absurd h9 (by omega)) (fun _ => ?_)
        refine lv_aload_n hx hb (k := 0) (i := 0) (x := ad 0) (by decide +kernel) rfl (lv_at hl 5 rfl) ?_
        refine lv_iconst hx hb (n := 0) (v := iI 0) (by decide +kernel) rfl ?_
        refine lk_callH (x := 150) (rest := []) (as := [.ref (ad 0), .int (iI 0)]) (n := 2) F hw hl.1 ((M_best_0 (X := X) (τ := τ1) (c := c_) F.l0 C1 e1 (by omega)).to (k' := (-13)) (by rw [hj2, ← hbm.1, if_pos (by omega)])) (lr54 6 rfl) (lr54 7 rfl) (lr54 8 rfl) (lr54 9 rfl) ⟨by decide, by decide, by decide +kernel⟩ rfl ⟨Nat.le_of_ble_eq_true rfl, Nat.le_of_ble_eq_true rfl, (by show _ ≤ 30300; omega), (by show _ ≤ 181800; omega)⟩ (Nat.le_of_ble_eq_true rfl) (by decide +kernel) rfl (fun v9 V9 hG H locs hw => ?_)
        obtain ⟨rfl, rfl⟩ := hG
        refine W.eq (g2 := F0 m 191 ls [.int (iI (-13))]) rfl ?_
        have C20 := C1.t5 (bsd_tz C1_ (by omega) C1.2.2.2.1 (4 * cel c_ 107).toNat (by omega))
        have e20 : (zr τ1 5 (bsd c_ (τ1 5) (4 * cel c_ 107).toNat)) 4 = c_ := e1
        generalize hg0 : zr τ1 5 (bsd c_ (τ1 5) (4 * cel c_ 107).toNat) = τ20 at hw C20 e20
        refine lv_bipush hx hb (n := (-13)) (v := iI (-13)) (by decide +kernel) (by decide) ?_
        refine lz_icmp_ne hx hb (a := (-13)) (b := (-13)) (off := 27) (tgt := 220) (by decide +kernel) (by decide) ⟨by decide, by decide⟩ ⟨by decide, by decide⟩ (fun h9 => absurd h9 (by decide)) (fun _ => ?_)
        refine lv_aload_n hx hb (k := 0) (i := 0) (x := ad 0) (by decide +kernel) rfl (lv_at hl 5 rfl) ?_
        refine lv_iconst hx hb (n := 2) (v := iI 2) (by decide +kernel) rfl ?_
        refine lk_callH (x := 150) (rest := []) (as := [.ref (ad 0), .int (iI 2)]) (n := 2) F hw hl.1 ((M_best_2 (X := X) (τ := τ20) (c := c_) F.l0 C20 e20 (by omega)).to (k' := (-13)) (by rw [hj2, ← hbm.1, if_pos (by omega)])) (lr54 6 rfl) (lr54 7 rfl) (lr54 8 rfl) (lr54 9 rfl) ⟨by decide, by decide, by decide +kernel⟩ rfl ⟨Nat.le_of_ble_eq_true rfl, Nat.le_of_ble_eq_true rfl, (by show _ ≤ 30300; omega), (by show _ ≤ 181800; omega)⟩ (Nat.le_of_ble_eq_true rfl) (by decide +kernel) rfl (fun v9 V9 hG H locs hw => ?_)
        obtain ⟨rfl, rfl⟩ := hG
        refine W.eq (g2 := F0 m 201 ls [.int (iI (-13))]) rfl ?_
        have C21 := C20.t5 (bsd_tz C1_ (by omega) C20.2.2.2.1 (4 * cel c_ 107).toNat (by omega))
        have e21 : (zr τ20 5 (bsd c_ (τ20 5) (4 * cel c_ 107).toNat)) 4 = c_ := e20
        generalize hg1 : zr τ20 5 (bsd c_ (τ20 5) (4 * cel c_ 107).toNat) = τ21 at hw C21 e21
        refine lv_bipush hx hb (n := (-13)) (v := iI (-13)) (by decide +kernel) (by decide) ?_
        refine lz_icmp_ne hx hb (a := (-13)) (b := (-13)) (off := 17) (tgt := 220) (by decide +kernel) (by decide) ⟨by decide, by decide⟩ ⟨by decide, by decide⟩ (fun h9 => absurd h9 (by decide)) (fun _ => ?_)
        refine lv_aload_n hx hb (k := 0) (i := 0) (x := ad 0) (by decide +kernel) rfl (lv_at hl 5 rfl) ?_
        refine lv_iconst hx hb (n := 3) (v := iI 3) (by decide +kernel) rfl ?_
        refine lk_callH (x := 150) (rest := []) (as := [.ref (ad 0), .int (iI 3)]) (n := 2) F hw hl.1 (M_best_3 (X := X) (τ := τ21) (c := c_) F.l0 C21 e21 (by omega)) (lr54 6 rfl) (lr54 7 rfl) (lr54 8 rfl) (lr54 9 rfl) ⟨by decide, by decide, by decide +kernel⟩ rfl ⟨Nat.le_of_ble_eq_true rfl, Nat.le_of_ble_eq_true rfl, (by show _ ≤ 30300; omega), (by show _ ≤ 181800; omega)⟩ (Nat.le_of_ble_eq_true rfl) (by decide +kernel) rfl (fun v9 V9 hG H locs hw => ?_)
        obtain ⟨rfl, rfl⟩ := hG
        refine W.eq (g2 := F0 m 211 ls [.int (iI (-12))]) rfl ?_
        refine lv_bipush hx hb (n := (-12)) (v := iI (-12)) (by decide +kernel) (by decide) ?_
        refine lz_icmp_ne hx hb (a := (-12)) (b := (-12)) (off := 7) (tgt := 220) (by decide +kernel) (by decide) ⟨by decide, by decide⟩ ⟨by decide, by decide⟩ (fun h9 => absurd h9 (by decide)) (fun _ => ?_)
        refine lv_iconst hx hb (n := 1) (v := iI 1) (by decide +kernel) rfl ?_
        refine lv_goto hx hb (off := 4) (tgt := 221) (by decide +kernel) (by decide) ?_
        exact lk_iret F hlk hrt hw rfl ⟨_, _, rfl, rfl, e21, C21.mono (by omega) (by omega)⟩ (by omega) (by omega) (by decide +kernel)
      ·
        refine lv_iload hx hb (i := 5) (x := iI z) (by decide +kernel) (lv_at hl 0 rfl) ?_
        refine lv_iconst hx hb (n := 4) (v := iI 4) (by decide +kernel) rfl ?_
        refine lv_iload_n hx hb (k := 3) (i := 3) (x := iI (cel c_ 107)) (by decide +kernel) rfl (lv_at hl 4 rfl) ?_
        refine lz_imul hx hb (a := 4) (b := (cel c_ 107)) (by decide +kernel) ?_
        refine lz_icmp_ge hx hb (a := z) (b := (4 * (cel c_ 107))) (off := 158) (tgt := 182) (by decide +kernel) (by decide) ⟨by omega, by omega⟩ ⟨by omega, by omega⟩ (fun _ => ?_) (fun h9 => absurd (by omega) h9)
        refine lv_iload_n hx hb (k := 1) (i := 1) (x := iI bb) (by decide +kernel) rfl (lv_at hl 2 rfl) ?_
        refine lz_if_ge hx hb (a := bb) (off := 39) (tgt := 222) (by decide +kernel) (by decide) ⟨by omega, by omega⟩ (fun _ => ?_) (fun h9 => absurd (by omega) h9)
        refine lv_aload_n hx hb (k := 0) (i := 0) (x := ad 0) (by decide +kernel) rfl (lv_at hl 5 rfl) ?_
        refine lv_iconst hx hb (n := 0) (v := iI 0) (by decide +kernel) rfl ?_
        refine lk_callH (x := 150) (rest := []) (as := [.ref (ad 0), .int (iI 0)]) (n := 2) F hw hl.1 ((M_best_0 (X := X) (τ := τ1) (c := c_) F.l0 C1 e1 (by omega)).to (k' := bb / 4) (by rw [hj2, ← hbm.1, if_neg (by omega)])) (lr54 6 rfl) (lr54 7 rfl) (lr54 8 rfl) (lr54 9 rfl) ⟨by decide, by decide, by decide +kernel⟩ rfl ⟨Nat.le_of_ble_eq_true rfl, Nat.le_of_ble_eq_true rfl, (by show _ ≤ 30300; omega), (by show _ ≤ 181800; omega)⟩ (Nat.le_of_ble_eq_true rfl) (by decide +kernel) rfl (fun v9 V9 hG H locs hw => ?_)
        obtain ⟨rfl, rfl⟩ := hG
        refine W.eq (g2 := F0 m 227 ls [.int (iI (bb / 4))]) rfl ?_
        have C20 := C1.t5 (bsd_tz C1_ (by omega) C1.2.2.2.1 (4 * cel c_ 107).toNat (by omega))
        have e20 : (zr τ1 5 (bsd c_ (τ1 5) (4 * cel c_ 107).toNat)) 4 = c_ := e1
        generalize hg0 : zr τ1 5 (bsd c_ (τ1 5) (4 * cel c_ 107).toNat) = τ20 at hw C20 e20
        refine lv_iload_n hx hb (k := 1) (i := 1) (x := iI bb) (by decide +kernel) rfl (lv_at hl 2 rfl) ?_
        refine lv_iconst hx hb (n := 4) (v := iI 4) (by decide +kernel) rfl ?_
        refine lz_idiv hx hb (a := bb) (b := 4) (by decide +kernel) ⟨by omega, by omega, by omega, by omega⟩ ?_
        refine lz_icmp_ne hx hb (a := (bb / 4)) (b := (bb / 4)) (off := 61) (tgt := 291) (by decide +kernel) (by decide) ⟨by omega, by omega⟩ ⟨by omega, by omega⟩ (fun h9 => absurd h9 (by omega)) (fun _ => ?_)
        refine lv_aload_n hx hb (k := 0) (i := 0) (x := ad 0) (by decide +kernel) rfl (lv_at hl 5 rfl) ?_
        refine lv_iconst hx hb (n := 1) (v := iI 1) (by decide +kernel) rfl ?_
        refine lk_callH (x := 150) (rest := []) (as := [.ref (ad 0), .int (iI 1)]) (n := 2) F hw hl.1 ((M_best_1 (X := X) (τ := τ20) (c := c_) F.l0 C20 e20 (by omega)).to (k' := bb / 2 % 2) (by rw [hj2, ← hbm.1, if_neg (by omega)])) (lr54 6 rfl) (lr54 7 rfl) (lr54 8 rfl) (lr54 9 rfl) ⟨by decide, by decide, by decide +kernel⟩ rfl ⟨Nat.le_of_ble_eq_true rfl, Nat.le_of_ble_eq_true rfl, (by show _ ≤ 30300; omega), (by show _ ≤ 181800; omega)⟩ (Nat.le_of_ble_eq_true rfl) (by decide +kernel) rfl (fun v9 V9 hG H locs hw => ?_)
        obtain ⟨rfl, rfl⟩ := hG
        refine W.eq (g2 := F0 m 238 ls [.int (iI (bb / 2 % 2))]) rfl ?_
        have C21 := C20.t5 (bsd_tz C1_ (by omega) C20.2.2.2.1 (4 * cel c_ 107).toNat (by omega))
        have e21 : (zr τ20 5 (bsd c_ (τ20 5) (4 * cel c_ 107).toNat)) 4 = c_ := e20
        generalize hg1 : zr τ20 5 (bsd c_ (τ20 5) (4 * cel c_ 107).toNat) = τ21 at hw C21 e21
        refine lv_iload_n hx hb (k := 1) (i := 1) (x := iI bb) (by decide +kernel) rfl (lv_at hl 2 rfl) ?_
        refine lv_iconst hx hb (n := 2) (v := iI 2) (by decide +kernel) rfl ?_
        refine lz_idiv hx hb (a := bb) (b := 2) (by decide +kernel) ⟨by omega, by omega, by omega, by omega⟩ ?_
        refine lv_iconst hx hb (n := 2) (v := iI 2) (by decide +kernel) rfl ?_
        refine lz_irem hx hb (a := (bb / 2)) (b := 2) (by decide +kernel) ⟨by omega, by omega, by omega, by omega⟩ ?_
        refine lz_icmp_ne hx hb (a := (bb / 2 % 2)) (b := ((bb / 2) % 2)) (off := 48) (tgt := 291) (by decide +kernel) (by decide) ⟨by omega, by omega⟩ ⟨by omega, by omega⟩ (fun h9 => absurd h9 (by omega)) (fun _ => ?_)
        refine lv_aload_n hx hb (k := 0) (i := 0) (x := ad 0) (by decide +kernel) rfl (lv_at hl 5 rfl) ?_
        refine lv_iconst hx hb (n := 2) (v := iI 2) (by decide +kernel) rfl ?_
        refine lk_callH (x := 150) (rest := []) (as := [.ref (ad 0), .int (iI 2)]) (n := 2) F hw hl.1 ((M_best_2 (X := X) (τ := τ21) (c := c_) F.l0 C21 e21 (by omega)).to (k' := 1 - bb % 2) (by rw [hj2, ← hbm.1, if_neg (by omega)])) (lr54 6 rfl) (lr54 7 rfl) (lr54 8 rfl) (lr54 9 rfl) ⟨by decide, by decide, by decide +kernel⟩ rfl ⟨Nat.le_of_ble_eq_true rfl, Nat.le_of_ble_eq_true rfl, (by show _ ≤ 30300; omega), (by show _ ≤ 181800; omega)⟩ (Nat.le_of_ble_eq_true rfl) (by decide +kernel) rfl (fun v9 V9 hG H locs hw => ?_)
        obtain ⟨rfl, rfl⟩ := hG
        refine W.eq (g2 := F0 m 251 ls [.int (iI (1 - bb % 2))]) rfl ?_
        have C22 := C21.t5 (bsd_tz C1_ (by omega) C21.2.2.2.1 (4 * cel c_ 107).toNat (by omega))
        have e22 : (zr τ21 5 (bsd c_ (τ21 5) (4 * cel c_ 107).toNat)) 4 = c_ := e21
        generalize hg2 : zr τ21 5 (bsd c_ (τ21 5) (4 * cel c_ 107).toNat) = τ22 at hw C22 e22
        refine lv_iconst hx hb (n := 1) (v := iI 1) (by decide +kernel) rfl ?_
        refine lv_iload_n hx hb (k := 1) (i := 1) (x := iI bb) (by decide +kernel) rfl (lv_at hl 2 rfl) ?_
        refine lv_iconst hx hb (n := 2) (v := iI 2) (by decide +kernel) rfl ?_
        refine lz_irem hx hb (a := bb) (b := 2) (by decide +kernel) ⟨by omega, by omega, by omega, by omega⟩ ?_
        refine lz_isub hx hb (a := 1) (b := (bb % 2)) (by decide +kernel) ?_
        refine lz_icmp_ne hx hb (a := (1 - bb % 2)) (b := (1 - (bb % 2))) (off := 35) (tgt := 291) (by decide +kernel) (by decide) ⟨by omega, by omega⟩ ⟨by omega, by omega⟩ (fun h9 => absurd h9 (by omega)) (fun _ => ?_)
        refine lv_aload_n hx hb (k := 0) (i := 0) (x := ad 0) (by decide +kernel) rfl (lv_at hl 5 rfl) ?_
        refine lv_iconst hx hb (n := 3) (v := iI 3) (by decide +kernel) rfl ?_
        refine lk_callH (x := 150) (rest := []) (as := [.ref (ad 0), .int (iI 3)]) (n := 2) F hw hl.1 (M_best_3 (X := X) (τ := τ22) (c := c_) F.l0 C22 e22 (by omega)) (lr54 6 rfl) (lr54 7 rfl) (lr54 8 rfl) (lr54 9 rfl) ⟨by decide, by decide, by decide +kernel⟩ rfl ⟨Nat.le_of_ble_eq_true rfl, Nat.le_of_ble_eq_true rfl, (by show _ ≤ 30300; omega), (by show _ ≤ 181800; omega)⟩ (Nat.le_of_ble_eq_true rfl) (by decide +kernel) rfl (fun v9 V9 hG H locs hw => ?_)
        obtain ⟨rfl, rfl⟩ := hG
        refine W.eq (g2 := F0 m 264 ls [.int (iI (-12))]) rfl ?_
        refine lv_bipush hx hb (n := (-12)) (v := iI (-12)) (by decide +kernel) (by decide) ?_
        refine lz_icmp_ne hx hb (a := (-12)) (b := (-12)) (off := 25) (tgt := 291) (by decide +kernel) (by decide) ⟨by decide, by decide⟩ ⟨by decide, by decide⟩ (fun h9 => absurd h9 (by decide)) (fun _ => ?_)
        refine lv_aload_n hx hb (k := 0) (i := 0) (x := ad 0) (by decide +kernel) rfl (lv_at hl 5 rfl) ?_
        have hpo : obP c_ = 3 := obP_of C1_ (best_ok C1_ j (by omega) (by omega))
        refine lk_callH (x := 153) (rest := []) (as := [.ref (ad 0)]) (n := 1) F hw hl.1 (M_passN (X := X) F.l0 C22 e22 (by omega) hpo) (lr54 10 rfl) (lr54 11 rfl) (lr54 12 rfl) (lr54 9 rfl) ⟨by decide, by decide, by decide +kernel⟩ rfl ⟨Nat.le_of_ble_eq_true rfl, Nat.le_of_ble_eq_true rfl, (by show _ ≤ 30300; omega), (by show _ ≤ 181800; omega)⟩ (Nat.le_of_ble_eq_true rfl) (by decide +kernel) rfl (fun v9 V9 hG H locs hw => ?_)
        obtain ⟨rfl, rfl⟩ := hG
        refine W.eq (g2 := F0 m 273 ls [.int (iI (-1))]) rfl ?_
        have C3 : CV _ (rkp τ22 5 (fsm c_ (cel c_ 107).toNat 0)) _ := C22.rkp
        have e3 : (rkp τ22 5 (fsm c_ (cel c_ 107).toNat 0)) 4 = c_ := e22
        refine lv_iconst hx hb (n := (-1)) (v := iI (-1)) (by decide +kernel) rfl ?_
        refine lz_icmp_ne hx hb (a := (-1)) (b := (-1)) (off := 17) (tgt := 291) (by decide +kernel) (by decide) ⟨by decide, by decide⟩ ⟨by decide, by decide⟩ (fun h9 => absurd h9 (by decide)) (fun _ => ?_)
        refine lv_aload_n hx hb (k := 0) (i := 0) (x := ad 0) (by decide +kernel) rfl (lv_at hl 5 rfl) ?_
        refine lv_iconst hx hb (n := 0) (v := iI 0) (by decide +kernel) rfl ?_
        refine lv_iconst hx hb (n := 0) (v := iI 0) (by decide +kernel) rfl ?_
        refine lk_callH (x := 140) (rest := []) (as := [.ref (ad 0), .int (iI 0), .int (iI 0)]) (n := 3) F hw hl.1 ((M_refusal_0 (X := X) F.l0 C3 (show (0 : Int) < 1 by decide)).to (k' := 5) rfl) (lr54 13 rfl) (lr54 14 rfl) (lr54 15 rfl) (lr54 9 rfl) ⟨by decide, by decide, by decide +kernel⟩ rfl ⟨Nat.le_of_ble_eq_true rfl, Nat.le_of_ble_eq_true rfl, (by show _ ≤ 30300; omega), (by show _ ≤ 181800; omega)⟩ (Nat.le_of_ble_eq_true rfl) (by decide +kernel) rfl (fun v9 V9 hG H locs hw => ?_)
        obtain ⟨rfl, rfl⟩ := hG
        refine W.eq (g2 := F0 m 283 ls [.int (iI 5)]) rfl ?_
        refine lv_iconst hx hb (n := 5) (v := iI 5) (by decide +kernel) rfl ?_
        refine lz_icmp_ne hx hb (a := 5) (b := 5) (off := 7) (tgt := 291) (by decide +kernel) (by decide) ⟨by decide, by decide⟩ ⟨by decide, by decide⟩ (fun h9 => absurd h9 (by decide)) (fun _ => ?_)
        refine lv_iconst hx hb (n := 1) (v := iI 1) (by decide +kernel) rfl ?_
        refine lv_goto hx hb (off := 4) (tgt := 292) (by decide +kernel) (by decide) ?_
        exact lk_iret F hlk hrt hw rfl ⟨_, _, rfl, rfl, e3, C3.mono (by omega) (by omega)⟩ (by omega) (by omega) (by decide +kernel)
    | succ q ih =>
      intro j z bb mm τ1 h1 ls H locs cl sl hk hz hbm e1 C1 hcl hsl hl hw
      subst hz
      obtain ⟨hb1, hb2⟩ := hbm
      have hbi := bsb_in C1_ (by omega) j (by omega)
      have hf : 0 ≤ (j : Int) / 4 ∧ (j : Int) / 4 < cel c_ 107 := by omega
      have hr : 0 ≤ (j : Int) / 2 % 2 ∧ (j : Int) / 2 % 2 < 2 := by omega
      refine lv_iload hx hb (i := 5) (x := iI (j : Int)) (by decide +kernel) (lv_at hl 0 rfl) ?_
      refine lv_iconst hx hb (n := 4) (v := iI 4) (by decide +kernel) rfl ?_
      refine lv_iload_n hx hb (k := 3) (i := 3) (x := iI (cel c_ 107)) (by decide +kernel) rfl (lv_at hl 4 rfl) ?_
      refine lz_imul hx hb (a := 4) (b := (cel c_ 107)) (by decide +kernel) ?_
      refine lz_icmp_ge hx hb (a := (j : Int)) (b := (4 * (cel c_ 107))) (off := 158) (tgt := 182) (by decide +kernel) (by decide) ⟨by omega, by omega⟩ ⟨by omega, by omega⟩ (fun h9 => absurd h9 (by omega)) (fun _ => ?_)
      by_cases hev : (j : Int) % 2 = 0
      · have hst : stp (j : Int) = 1 := by unfold stp; rw [if_pos (by omega)]
        by_cases hm : ocn c_ ((j : Int) / 4) ((j : Int) / 2 % 2) 1 = 1 ∨ ocn c_ ((j : Int) / 4) ((j : Int) / 2 % 2) 1 = 2 ∨ ocn c_ ((j : Int) / 4) ((j : Int) / 2 % 2) 1 = 3
        · have hq := ocn_oco hm
          have hJ := C1_.mkm hf hr (s := 1) (by omega) hq.2.2 (by omega)
          have hjn := hJ.1.n
          have hmp := mkp_in C1_ hf hr hq.2.2 (by omega)
          have hgn := gnb_in C1_ hf hr (s := 1) (by omega) hq.2.2 (by omega)
          have hpt := pts_mkm C1_ hf hr (s := 1) (by omega) hq.2.2 (by omega)
          rw [hq.1] at hpt
          have hta := hS.to (z := 100 + cel c_ 108) (by omega)
          refine lv_aload_n hx hb (k := 0) (i := 0) (x := ad 0) (by decide +kernel) rfl (lv_at hl 5 rfl) ?_
          refine lv_iload hx hb (i := 5) (x := iI (j : Int)) (by decide +kernel) (lv_at hl 0 rfl) ?_
          refine lv_iconst hx hb (n := 4) (v := iI 4) (by decide +kernel) rfl ?_
          refine lz_idiv hx hb (a := (j : Int)) (b := 4) (by decide +kernel) ⟨by omega, by omega, by omega, by omega⟩ ?_
          refine lv_iload hx hb (i := 5) (x := iI (j : Int)) (by decide +kernel) (lv_at hl 0 rfl) ?_
          refine lv_iconst hx hb (n := 2) (v := iI 2) (by decide +kernel) rfl ?_
          refine lz_idiv hx hb (a := (j : Int)) (b := 2) (by decide +kernel) ⟨by omega, by omega, by omega, by omega⟩ ?_
          refine lv_iconst hx hb (n := 2) (v := iI 2) (by decide +kernel) rfl ?_
          refine lz_irem hx hb (a := ((j : Int) / 2)) (b := 2) (by decide +kernel) ⟨by omega, by omega, by omega, by omega⟩ ?_
          refine lv_iload hx hb (i := 5) (x := iI (j : Int)) (by decide +kernel) (lv_at hl 0 rfl) ?_
          refine lv_iconst hx hb (n := 2) (v := iI 2) (by decide +kernel) rfl ?_
          refine lz_irem hx hb (a := (j : Int)) (b := 2) (by decide +kernel) ⟨by omega, by omega, by omega, by omega⟩ ?_
          refine lz_if_ne hx hb (a := ((j : Int) % 2)) (off := 7) (tgt := 49) (by decide +kernel) (by decide) ⟨by omega, by omega⟩ (fun h9 => absurd h9 (by omega)) (fun _ => ?_)
          refine lv_iconst hx hb (n := 1) (v := iI 1) (by decide +kernel) rfl ?_
          refine lv_goto hx hb (off := 4) (tgt := 50) (by decide +kernel) (by decide) ?_
          refine lk_callH (x := 208) (rest := []) (as := [.ref (ad 0), .int (iI ((j : Int) / 4)), .int (iI (((j : Int) / 2) % 2)), .int (iI 1)]) (n := 4) F hw hl.1 (M_gain_1 (X := X) F.l0 C1 e1 (by omega) hf hr hm) (lr54 16 rfl) (lr54 17 rfl) (lr54 18 rfl) (lr54 9 rfl) ⟨by decide, by decide, by decide +kernel⟩ rfl ⟨Nat.le_of_ble_eq_true rfl, Nat.le_of_ble_eq_true rfl, (by show _ ≤ 30300; omega), (by show _ ≤ 181800; omega)⟩ (Nat.le_of_ble_eq_true rfl) (by decide +kernel) rfl (fun v9 V9 hG H locs hw => ?_)
          obtain ⟨rfl, rfl⟩ := hG
          refine W.eq (g2 := F0 m 53 ls [.int (iI (gnb c_ ((j : Int) / 4) ((j : Int) / 2 % 2) 1))]) rfl ?_
          have C2 := C1.t5 (x := mkm c_ ((j : Int) / 4) ((j : Int) / 2 % 2) 1) hJ.1.tz
          have e2 : (zr τ1 5 (mkm c_ ((j : Int) / 4) ((j : Int) / 2 % 2) 1)) 4 = c_ := e1
          generalize hg9 : zr τ1 5 (mkm c_ ((j : Int) / 4) ((j : Int) / 2 % 2) 1) = τ2 at hw C2 e2
          refine lv_istore hx hb (i := 6) (lv' := [(6, .int (iI (gnb c_ ((j : Int) / 4) ((j : Int) / 2 % 2) 1))), (5, .int (iI (j : Int))), (2, .int (iI mm)), (1, .int (iI bb)), (4, .int (iI (cel c_ 108))), (3, .int (iI (cel c_ 107))), (0, .ref (ad 0))]) (by decide +kernel) hl (by decide) rfl (fun ls hl => ?_)
          refine lv_iload hx hb (i := 6) (x := iI (gnb c_ ((j : Int) / 4) ((j : Int) / 2 % 2) 1)) (by decide +kernel) (lv_at hl 0 rfl) ?_
          refine lv_bipush hx hb (n := (-13)) (v := iI (-13)) (by decide +kernel) (by decide) ?_
          refine lz_icmp_eq hx hb (a := (gnb c_ ((j : Int) / 4) ((j : Int) / 2 % 2) 1)) (b := (-13)) (off := 117) (tgt := 176) (by decide +kernel) (by decide) ⟨by omega, by omega⟩ ⟨by decide, by decide⟩ (fun h9 => absurd h9 (by omega)) (fun _ => ?_)
          refine lv_aload_n hx hb (k := 0) (i := 0) (x := ad 0) (by decide +kernel) rfl (lv_at hl 6 rfl) ?_
          refine lv_iconst hx hb (n := 5) (v := iI 5) (by decide +kernel) rfl ?_
          refine lv_iload hx hb (i := 4) (x := iI (cel c_ 108)) (by decide +kernel) (lv_at hl 4 rfl) ?_
          refine lz_iadd hx hb (a := 5) (b := (cel c_ 108)) (by decide +kernel) ?_
          refine fl_call (d := 6) (j := m7_account) (as := [.inr (5 + (cel c_ 108))]) (X := X) (x := 155) (rest := []) F hw hl.1 (c_acc (t := cel c_ 108) e2 hS hN (by omega)) (by decide) rfl rfl (lr54 0 rfl) (lr54 1 rfl) (lr54 2 rfl) ⟨Nat.le_of_ble_eq_true rfl, Nat.le_of_ble_eq_true rfl, (by show _ ≤ 30300; omega), (by show _ ≤ 181800; omega)⟩ (Nat.le_of_ble_eq_true rfl) (by decide +kernel) rfl (fun E9 τ9 e9 => by cases e9) (fun v9 τ9 e9 H locs hw => ?_)
          cases e9
          refine W.eq (g2 := F0 m 70 ls [.int (iI (cel c_ (100 + cel c_ 108)))]) rfl ?_
          refine lv_istore hx hb (i := 7) (lv' := [(7, .int (iI (cel c_ (100 + cel c_ 108)))), (6, .int (iI (gnb c_ ((j : Int) / 4) ((j : Int) / 2 % 2) 1))), (5, .int (iI (j : Int))), (2, .int (iI mm)), (1, .int (iI bb)), (4, .int (iI (cel c_ 108))), (3, .int (iI (cel c_ 107))), (0, .ref (ad 0))]) (by decide +kernel) hl (by decide) rfl (fun ls hl => ?_)
          refine lv_aload_n hx hb (k := 0) (i := 0) (x := ad 0) (by decide +kernel) rfl (lv_at hl 7 rfl) ?_
          refine lv_iload hx hb (i := 5) (x := iI (j : Int)) (by decide +kernel) (lv_at hl 2 rfl) ?_
          refine lv_iconst hx hb (n := 4) (v := iI 4) (by decide +kernel) rfl ?_
          refine lz_idiv hx hb (a := (j : Int)) (b := 4) (by decide +kernel) ⟨by omega, by omega, by omega, by omega⟩ ?_
          refine lv_iload hx hb (i := 5) (x := iI (j : Int)) (by decide +kernel) (lv_at hl 2 rfl) ?_
          refine lv_iconst hx hb (n := 2) (v := iI 2) (by decide +kernel) rfl ?_
          refine lz_idiv hx hb (a := (j : Int)) (b := 2) (by decide +kernel) ⟨by omega, by omega, by omega, by omega⟩ ?_
          refine lv_iconst hx hb (n := 2) (v := iI 2) (by decide +kernel) rfl ?_
          refine lz_irem hx hb (a := ((j : Int) / 2)) (b := 2) (by decide +kernel) ⟨by omega, by omega, by omega, by omega⟩ ?_
          refine lv_iload hx hb (i := 5) (x := iI (j : Int)) (by decide +kernel) (lv_at hl 2 rfl) ?_
          refine lv_iconst hx hb (n := 2) (v := iI 2) (by decide +kernel) rfl ?_
          refine lz_irem hx hb (a := (j : Int)) (b := 2) (by decide +kernel) ⟨by omega, by omega, by omega, by omega⟩ ?_
          refine lz_if_ne hx hb (a := ((j : Int) % 2)) (off := 7) (tgt := 94) (by decide +kernel) (by decide) ⟨by omega, by omega⟩ (fun h9 => absurd h9 (by omega)) (fun _ => ?_)
          refine lv_iconst hx hb (n := 1) (v := iI 1) (by decide +kernel) rfl ?_
          refine lv_goto hx hb (off := 4) (tgt := 95) (by decide +kernel) (by decide) ?_
          refine lk_callH (x := 161) (rest := []) (as := [.ref (ad 0), .int (iI ((j : Int) / 4)), .int (iI (((j : Int) / 2) % 2)), .int (iI 1)]) (n := 4) F hw hl.1 (M_move_1 (X := X) F.l0 C2 e2 (by omega) hf hr hm) (lr54 19 rfl) (lr54 20 rfl) (lr54 21 rfl) (lr54 9 rfl) ⟨by decide, by decide, by decide +kernel⟩ rfl ⟨Nat.le_of_ble_eq_true rfl, Nat.le_of_ble_eq_true rfl, (by show _ ≤ 30300; omega), (by show _ ≤ 181800; omega)⟩ (Nat.le_of_ble_eq_true rfl) (by decide +kernel) rfl (fun v9 V9 hG H locs hw => ?_)
          obtain ⟨rfl, rfl⟩ := hG
          refine W.eq (g2 := F0 m 98 ls [.int (iI (mkp c_ ((j : Int) / 4) ((j : Int) / 2 % 2) 1))]) rfl ?_
          obtain ⟨e3, C3, -⟩ := st_move C2 e2 (by omega) (Or.inl rfl) hf hr hm
          generalize hg8 : zr (hkp τ2) 4 (mkm c_ ((j : Int) / 4) ((j : Int) / 2 % 2) 1) = τ3 at hw C3 e3
          refine lv_istore hx hb (i := 8) (lv' := [(8, .int (iI (mkp c_ ((j : Int) / 4) ((j : Int) / 2 % 2) 1))), (7, .int (iI (cel c_ (100 + cel c_ 108)))), (6, .int (iI (gnb c_ ((j : Int) / 4) ((j : Int) / 2 % 2) 1))), (5, .int (iI (j : Int))), (2, .int (iI mm)), (1, .int (iI bb)), (4, .int (iI (cel c_ 108))), (3, .int (iI (cel c_ 107))), (0, .ref (ad 0))]) (by decide +kernel) hl (by decide) rfl (fun ls hl => ?_)
          refine lv_iload hx hb (i := 8) (x := iI (mkp c_ ((j : Int) / 4) ((j : Int) / 2 % 2) 1)) (by decide +kernel) (lv_at hl 0 rfl) ?_
          refine lz_if_lt hx hb (a := (mkp c_ ((j : Int) / 4) ((j : Int) / 2 % 2) 1)) (off := 42) (tgt := 144) (by decide +kernel) (by decide) ⟨by omega, by omega⟩ (fun h9 => absurd h9 (by omega)) (fun _ => ?_)
          refine lv_aload_n hx hb (k := 0) (i := 0) (x := ad 0) (by decide +kernel) rfl (lv_at hl 8 rfl) ?_
          refine lv_iconst hx hb (n := 5) (v := iI 5) (by decide +kernel) rfl ?_
          refine lv_iload hx hb (i := 4) (x := iI (cel c_ 108)) (by decide +kernel) (lv_at hl 6 rfl) ?_
          refine lz_iadd hx hb (a := 5) (b := (cel c_ 108)) (by decide +kernel) ?_
          refine fl_call (d := 6) (j := m7_account) (as := [.inr (5 + (cel c_ 108))]) (X := X) (x := 155) (rest := []) F hw hl.1 (c_acc (t := cel c_ 108) (N := (cel (mkm c_ ((j : Int) / 4) ((j : Int) / 2 % 2) 1) 107).toNat) e3 hJ.1 (by omega) (by omega)) (by decide) rfl rfl (lr54 0 rfl) (lr54 1 rfl) (lr54 2 rfl) ⟨Nat.le_of_ble_eq_true rfl, Nat.le_of_ble_eq_true rfl, (by show _ ≤ 30300; omega), (by show _ ≤ 181800; omega)⟩ (Nat.le_of_ble_eq_true rfl) (by decide +kernel) rfl (fun E9 τ9 e9 => by cases e9) (fun v9 τ9 e9 H locs hw => ?_)
          cases e9
          refine W.eq (g2 := F0 m 113 ls [.int (iI (cel (mkm c_ ((j : Int) / 4) ((j : Int) / 2 % 2) 1) (100 + cel c_ 108)))]) rfl ?_
          refine lv_iload hx hb (i := 7) (x := iI (cel c_ (100 + cel c_ 108))) (by decide +kernel) (lv_at hl 1 rfl) ?_
          refine lv_iload hx hb (i := 8) (x := iI (mkp c_ ((j : Int) / 4) ((j : Int) / 2 % 2) 1)) (by decide +kernel) (lv_at hl 0 rfl) ?_
          refine lz_iadd hx hb (a := (cel c_ (100 + cel c_ 108))) (b := (mkp c_ ((j : Int) / 4) ((j : Int) / 2 % 2) 1)) (by decide +kernel) ?_
          refine lz_icmp_ne hx hb (a := (cel (mkm c_ ((j : Int) / 4) ((j : Int) / 2 % 2) 1) (100 + cel c_ 108))) (b := ((cel c_ (100 + cel c_ 108)) + (mkp c_ ((j : Int) / 4) ((j : Int) / 2 % 2) 1))) (off := 26) (tgt := 144) (by decide +kernel) (by decide) ⟨by omega, by omega⟩ ⟨by omega, by omega⟩ (fun h9 => absurd h9 (by omega)) (fun _ => ?_)
          refine lv_iload hx hb (i := 6) (x := iI (gnb c_ ((j : Int) / 4) ((j : Int) / 2 % 2) 1)) (by decide +kernel) (lv_at hl 2 rfl) ?_
          refine lv_iload hx hb (i := 8) (x := iI (mkp c_ ((j : Int) / 4) ((j : Int) / 2 % 2) 1)) (by decide +kernel) (lv_at hl 0 rfl) ?_
          refine lv_aload_n hx hb (k := 0) (i := 0) (x := ad 0) (by decide +kernel) rfl (lv_at hl 8 rfl) ?_
          refine lv_iconst hx hb (n := 1) (v := iI 1) (by decide +kernel) rfl ?_
          refine lv_iload hx hb (i := 4) (x := iI (cel c_ 108)) (by decide +kernel) (lv_at hl 6 rfl) ?_
          refine lz_isub hx hb (a := 1) (b := (cel c_ 108)) (by decide +kernel) ?_
          refine lk_call (x := 225) (rest := [.int (iI (mkp c_ ((j : Int) / 4) ((j : Int) / 2 % 2) 1)), .int (iI (gnb c_ ((j : Int) / 4) ((j : Int) / 2 % 2) 1))]) (as := [.ref (ad 0), .int (iI (1 - (cel c_ 108)))]) (n := 2) F hw hl.1 ((K_most (X := X) (τ := τ3) (x := 1 - cel c_ 108) (N := (cel (mkm c_ ((j : Int) / 4) ((j : Int) / 2 % 2) 1) 107).toNat) F.l0 (by omega) C3.1 (by rw [e3]; omega)).to (k' := (mkp c_ ((j : Int) / 4) ((j : Int) / 2 % 2) 1) - (gnb c_ ((j : Int) / 4) ((j : Int) / 2 % 2) 1)) (by rw [e3]; exact gn_most C1_ (by omega) hf hr hm (by omega))) (lr54 22 rfl) (lr54 23 rfl) (lr54 24 rfl) (lr54 9 rfl) ⟨rfl, by decide, by decide, by decide +kernel⟩ rfl ⟨Nat.le_of_ble_eq_true rfl, Nat.le_of_ble_eq_true rfl, (by show _ ≤ 30300; omega), (by show _ ≤ 181800; omega)⟩ (Nat.le_of_ble_eq_true rfl) (by decide +kernel) rfl (fun v9 V9 hG H locs hw => ?_)
          obtain ⟨rfl, rfl⟩ := hG
          refine W.eq (g2 := F0 m 133 ls [.int (iI ((mkp c_ ((j : Int) / 4) ((j : Int) / 2 % 2) 1) - (gnb c_ ((j : Int) / 4) ((j : Int) / 2 % 2) 1))), .int (iI (mkp c_ ((j : Int) / 4) ((j : Int) / 2 % 2) 1)), .int (iI (gnb c_ ((j : Int) / 4) ((j : Int) / 2 % 2) 1))]) rfl ?_
          refine lz_isub hx hb (a := (mkp c_ ((j : Int) / 4) ((j : Int) / 2 % 2) 1)) (b := ((mkp c_ ((j : Int) / 4) ((j : Int) / 2 % 2) 1) - (gnb c_ ((j : Int) / 4) ((j : Int) / 2 % 2) 1))) (by decide +kernel) ?_
          refine lz_icmp_ne hx hb (a := (gnb c_ ((j : Int) / 4) ((j : Int) / 2 % 2) 1)) (b := ((mkp c_ ((j : Int) / 4) ((j : Int) / 2 % 2) 1) - ((mkp c_ ((j : Int) / 4) ((j : Int) / 2 % 2) 1) - (gnb c_ ((j : Int) / 4) ((j : Int) / 2 % 2) 1)))) (off := 10) (tgt := 144) (by decide +kernel) (by decide) ⟨by omega, by omega⟩ ⟨by omega, by omega⟩ (fun h9 => absurd h9 (by omega)) (fun _ => ?_)
          refine lv_aload_n hx hb (k := 0) (i := 0) (x := ad 0) (by decide +kernel) rfl (lv_at hl 8 rfl) ?_
          obtain ⟨hU, hu1, hu2, hu3⟩ := M_undo (X := X) (ad := ad) (adV := adV) (cA := cA) (D := D) (A := A) F.l0 C3 (by omega)
          refine lk_callH (x := 228) (rest := []) (as := [.ref (ad 0)]) (n := 1) F hw hl.1 (hU) (lr54 25 rfl) (lr54 26 rfl) (lr54 27 rfl) (lr54 9 rfl) ⟨by decide, by decide, by decide +kernel⟩ rfl ⟨Nat.le_of_ble_eq_true rfl, Nat.le_of_ble_eq_true rfl, (by show _ ≤ 30300; omega), (by show _ ≤ 181800; omega)⟩ (Nat.le_of_ble_eq_true rfl) (by decide +kernel) rfl (fun v9 V9 hG H locs hw => ?_)
          obtain ⟨rfl, rfl⟩ := hG
          refine W.eq (g2 := F0 m 141 ls [.int (iI ((τ3 14 2) - 1))]) rfl ?_
          refine lz_if_ge hx hb (a := ((τ3 14 2) - 1)) (off := 5) (tgt := 146) (by decide +kernel) (by decide) ⟨by omega, by omega⟩ (fun _ => ?_) (fun h9 => absurd (by omega) h9)
          refine lv_iload_n hx hb (k := 1) (i := 1) (x := iI bb) (by decide +kernel) rfl (lv_at hl 5 rfl) ?_
          refine lz_if_lt hx hb (a := bb) (off := 9) (tgt := 156) (by decide +kernel) (by decide) ⟨by omega, by omega⟩ (fun h8 => ?_) (fun h8 => ?_)
          ·
            refine lv_iload hx hb (i := 5) (x := iI (j : Int)) (by decide +kernel) (lv_at hl 3 rfl) ?_
            refine lv_goto hx hb (off := 4) (tgt := 162) (by decide +kernel) (by decide) ?_
            refine lv_istore_n hx hb (k := 1) (i := 1) (lv' := [(1, .int (iI (j : Int))), (8, .int (iI (mkp c_ ((j : Int) / 4) ((j : Int) / 2 % 2) 1))), (7, .int (iI (cel c_ (100 + cel c_ 108)))), (6, .int (iI (gnb c_ ((j : Int) / 4) ((j : Int) / 2 % 2) 1))), (5, .int (iI (j : Int))), (2, .int (iI mm)), (4, .int (iI (cel c_ 108))), (3, .int (iI (cel c_ 107))), (0, .ref (ad 0))]) (by decide +kernel) rfl hl (by decide) rfl (fun ls hl => ?_)
            refine lv_iload_n hx hb (k := 1) (i := 1) (x := iI (j : Int)) (by decide +kernel) rfl (lv_at hl 0 rfl) ?_
            refine lv_iload hx hb (i := 5) (x := iI (j : Int)) (by decide +kernel) (lv_at hl 4 rfl) ?_
            refine lz_icmp_ne hx hb (a := (j : Int)) (b := (j : Int)) (off := 8) (tgt := 174) (by decide +kernel) (by decide) ⟨by omega, by omega⟩ ⟨by omega, by omega⟩ (fun h9 => absurd h9 (by omega)) (fun _ => ?_)
            refine lv_iload hx hb (i := 6) (x := iI (gnb c_ ((j : Int) / 4) ((j : Int) / 2 % 2) 1)) (by decide +kernel) (lv_at hl 3 rfl) ?_
            refine lv_goto hx hb (off := 4) (tgt := 175) (by decide +kernel) (by decide) ?_
            refine lv_istore_n hx hb (k := 2) (i := 2) (lv' := [(2, .int (iI (gnb c_ ((j : Int) / 4) ((j : Int) / 2 % 2) 1))), (1, .int (iI (j : Int))), (8, .int (iI (mkp c_ ((j : Int) / 4) ((j : Int) / 2 % 2) 1))), (7, .int (iI (cel c_ (100 + cel c_ 108)))), (6, .int (iI (gnb c_ ((j : Int) / 4) ((j : Int) / 2 % 2) 1))), (5, .int (iI (j : Int))), (4, .int (iI (cel c_ 108))), (3, .int (iI (cel c_ 107))), (0, .ref (ad 0))]) (by decide +kernel) rfl hl (by decide) rfl (fun ls hl => ?_)
            refine lv_iinc hx hb (i := 5) (n := 1) (v := iI ((j : Int) + 1)) (lv' := [(5, .int (iI ((j : Int) + 1))), (2, .int (iI (gnb c_ ((j : Int) / 4) ((j : Int) / 2 % 2) 1))), (1, .int (iI (j : Int))), (8, .int (iI (mkp c_ ((j : Int) / 4) ((j : Int) / 2 % 2) 1))), (7, .int (iI (cel c_ (100 + cel c_ 108)))), (6, .int (iI (gnb c_ ((j : Int) / 4) ((j : Int) / 2 % 2) 1))), (4, .int (iI (cel c_ 108))), (3, .int (iI (cel c_ 107))), (0, .ref (ad 0))]) (by decide +kernel) hl (k := 5) rfl (iI_add _ _) (by decide) rfl (fun ls hl => ?_)
            refine lv_goto hx hb (off := (-160)) (tgt := 19) (by decide +kernel) (by decide) ?_
            exact ih (j + 1) _ _ _ (hpb τ3) _ ls _ _ _ _ (by omega) (by omega) (bsb_s hst hm (Or.inl ⟨by omega, rfl, rfl⟩)) hu2 (hu3.mono (by omega) (by omega)) (by omega) (by omega) (lv_sub hl [0, 1, 2, 6, 7, 8] rfl) hw
          ·
            refine lv_iload hx hb (i := 6) (x := iI (gnb c_ ((j : Int) / 4) ((j : Int) / 2 % 2) 1)) (by decide +kernel) (lv_at hl 2 rfl) ?_
            refine lv_iload_n hx hb (k := 2) (i := 2) (x := iI mm) (by decide +kernel) rfl (lv_at hl 4 rfl) ?_
            refine lz_icmp_le hx hb (a := (gnb c_ ((j : Int) / 4) ((j : Int) / 2 % 2) 1)) (b := mm) (off := 8) (tgt := 161) (by decide +kernel) (by decide) ⟨by omega, by omega⟩ ⟨by omega, by omega⟩ (fun h10 => ?_) (fun h10 => ?_)
            ·
              refine lv_iload_n hx hb (k := 1) (i := 1) (x := iI bb) (by decide +kernel) rfl (lv_at hl 5 rfl) ?_
              refine lv_istore_n hx hb (k := 1) (i := 1) (lv' := [(1, .int (iI bb)), (8, .int (iI (mkp c_ ((j : Int) / 4) ((j : Int) / 2 % 2) 1))), (7, .int (iI (cel c_ (100 + cel c_ 108)))), (6, .int (iI (gnb c_ ((j : Int) / 4) ((j : Int) / 2 % 2) 1))), (5, .int (iI (j : Int))), (2, .int (iI mm)), (4, .int (iI (cel c_ 108))), (3, .int (iI (cel c_ 107))), (0, .ref (ad 0))]) (by decide +kernel) rfl hl (by decide) rfl (fun ls hl => ?_)
              refine lv_iload_n hx hb (k := 1) (i := 1) (x := iI bb) (by decide +kernel) rfl (lv_at hl 0 rfl) ?_
              refine lv_iload hx hb (i := 5) (x := iI (j : Int)) (by decide +kernel) (lv_at hl 4 rfl) ?_
              refine lz_icmp_ne hx hb (a := bb) (b := (j : Int)) (off := 8) (tgt := 174) (by decide +kernel) (by decide) ⟨by omega, by omega⟩ ⟨by omega, by omega⟩ (fun _ => ?_) (fun h9 => absurd (by omega) h9)
              refine lv_iload_n hx hb (k := 2) (i := 2) (x := iI mm) (by decide +kernel) rfl (lv_at hl 5 rfl) ?_
              refine lv_istore_n hx hb (k := 2) (i := 2) (lv' := [(2, .int (iI mm)), (1, .int (iI bb)), (8, .int (iI (mkp c_ ((j : Int) / 4) ((j : Int) / 2 % 2) 1))), (7, .int (iI (cel c_ (100 + cel c_ 108)))), (6, .int (iI (gnb c_ ((j : Int) / 4) ((j : Int) / 2 % 2) 1))), (5, .int (iI (j : Int))), (4, .int (iI (cel c_ 108))), (3, .int (iI (cel c_ 107))), (0, .ref (ad 0))]) (by decide +kernel) rfl hl (by decide) rfl (fun ls hl => ?_)
              refine lv_iinc hx hb (i := 5) (n := 1) (v := iI ((j : Int) + 1)) (lv' := [(5, .int (iI ((j : Int) + 1))), (2, .int (iI mm)), (1, .int (iI bb)), (8, .int (iI (mkp c_ ((j : Int) / 4) ((j : Int) / 2 % 2) 1))), (7, .int (iI (cel c_ (100 + cel c_ 108)))), (6, .int (iI (gnb c_ ((j : Int) / 4) ((j : Int) / 2 % 2) 1))), (4, .int (iI (cel c_ 108))), (3, .int (iI (cel c_ 107))), (0, .ref (ad 0))]) (by decide +kernel) hl (k := 5) rfl (iI_add _ _) (by decide) rfl (fun ls hl => ?_)
              refine lv_goto hx hb (off := (-160)) (tgt := 19) (by decide +kernel) (by decide) ?_
              exact ih (j + 1) _ _ _ (hpb τ3) _ ls _ _ _ _ (by omega) (by omega) (bsb_s hst hm (Or.inr ⟨by omega, hb1, hb2⟩)) hu2 (hu3.mono (by omega) (by omega)) (by omega) (by omega) (lv_sub hl [0, 1, 2, 6, 7, 8] rfl) hw
            ·
              refine lv_iload hx hb (i := 5) (x := iI (j : Int)) (by decide +kernel) (lv_at hl 3 rfl) ?_
              refine lv_goto hx hb (off := 4) (tgt := 162) (by decide +kernel) (by decide) ?_
              refine lv_istore_n hx hb (k := 1) (i := 1) (lv' := [(1, .int (iI (j : Int))), (8, .int (iI (mkp c_ ((j : Int) / 4) ((j : Int) / 2 % 2) 1))), (7, .int (iI (cel c_ (100 + cel c_ 108)))), (6, .int (iI (gnb c_ ((j : Int) / 4) ((j : Int) / 2 % 2) 1))), (5, .int (iI (j : Int))), (2, .int (iI mm)), (4, .int (iI (cel c_ 108))), (3, .int (iI (cel c_ 107))), (0, .ref (ad 0))]) (by decide +kernel) rfl hl (by decide) rfl (fun ls hl => ?_)
              refine lv_iload_n hx hb (k := 1) (i := 1) (x := iI (j : Int)) (by decide +kernel) rfl (lv_at hl 0 rfl) ?_
              refine lv_iload hx hb (i := 5) (x := iI (j : Int)) (by decide +kernel) (lv_at hl 4 rfl) ?_
              refine lz_icmp_ne hx hb (a := (j : Int)) (b := (j : Int)) (off := 8) (tgt := 174) (by decide +kernel) (by decide) ⟨by omega, by omega⟩ ⟨by omega, by omega⟩ (fun h9 => absurd h9 (by omega)) (fun _ => ?_)
              refine lv_iload hx hb (i := 6) (x := iI (gnb c_ ((j : Int) / 4) ((j : Int) / 2 % 2) 1)) (by decide +kernel) (lv_at hl 3 rfl) ?_
              refine lv_goto hx hb (off := 4) (tgt := 175) (by decide +kernel) (by decide) ?_
              refine lv_istore_n hx hb (k := 2) (i := 2) (lv' := [(2, .int (iI (gnb c_ ((j : Int) / 4) ((j : Int) / 2 % 2) 1))), (1, .int (iI (j : Int))), (8, .int (iI (mkp c_ ((j : Int) / 4) ((j : Int) / 2 % 2) 1))), (7, .int (iI (cel c_ (100 + cel c_ 108)))), (6, .int (iI (gnb c_ ((j : Int) / 4) ((j : Int) / 2 % 2) 1))), (5, .int (iI (j : Int))), (4, .int (iI (cel c_ 108))), (3, .int (iI (cel c_ 107))), (0, .ref (ad 0))]) (by decide +kernel) rfl hl (by decide) rfl (fun ls hl => ?_)
              refine lv_iinc hx hb (i := 5) (n := 1) (v := iI ((j : Int) + 1)) (lv' := [(5, .int (iI ((j : Int) + 1))), (2, .int (iI (gnb c_ ((j : Int) / 4) ((j : Int) / 2 % 2) 1))), (1, .int (iI (j : Int))), (8, .int (iI (mkp c_ ((j : Int) / 4) ((j : Int) / 2 % 2) 1))), (7, .int (iI (cel c_ (100 + cel c_ 108)))), (6, .int (iI (gnb c_ ((j : Int) / 4) ((j : Int) / 2 % 2) 1))), (4, .int (iI (cel c_ 108))), (3, .int (iI (cel c_ 107))), (0, .ref (ad 0))]) (by decide +kernel) hl (k := 5) rfl (iI_add _ _) (by decide) rfl (fun ls hl => ?_)
              refine lv_goto hx hb (off := (-160)) (tgt := 19) (by decide +kernel) (by decide) ?_
              exact ih (j + 1) _ _ _ (hpb τ3) _ ls _ _ _ _ (by omega) (by omega) (bsb_s hst hm (Or.inl ⟨by omega, rfl, rfl⟩)) hu2 (hu3.mono (by omega) (by omega)) (by omega) (by omega) (lv_sub hl [0, 1, 2, 6, 7, 8] rfl) hw
        ·
          refine lv_aload_n hx hb (k := 0) (i := 0) (x := ad 0) (by decide +kernel) rfl (lv_at hl 5 rfl) ?_
          refine lv_iload hx hb (i := 5) (x := iI (j : Int)) (by decide +kernel) (lv_at hl 0 rfl) ?_
          refine lv_iconst hx hb (n := 4) (v := iI 4) (by decide +kernel) rfl ?_
          refine lz_idiv hx hb (a := (j : Int)) (b := 4) (by decide +kernel) ⟨by omega, by omega, by omega, by omega⟩ ?_
          refine lv_iload hx hb (i := 5) (x := iI (j : Int)) (by decide +kernel) (lv_at hl 0 rfl) ?_
          refine lv_iconst hx hb (n := 2) (v := iI 2) (by decide +kernel) rfl ?_
          refine lz_idiv hx hb (a := (j : Int)) (b := 2) (by decide +kernel) ⟨by omega, by omega, by omega, by omega⟩ ?_
          refine lv_iconst hx hb (n := 2) (v := iI 2) (by decide +kernel) rfl ?_
          refine lz_irem hx hb (a := ((j : Int) / 2)) (b := 2) (by decide +kernel) ⟨by omega, by omega, by omega, by omega⟩ ?_
          refine lv_iload hx hb (i := 5) (x := iI (j : Int)) (by decide +kernel) (lv_at hl 0 rfl) ?_
          refine lv_iconst hx hb (n := 2) (v := iI 2) (by decide +kernel) rfl ?_
          refine lz_irem hx hb (a := (j : Int)) (b := 2) (by decide +kernel) ⟨by omega, by omega, by omega, by omega⟩ ?_
          refine lz_if_ne hx hb (a := ((j : Int) % 2)) (off := 7) (tgt := 49) (by decide +kernel) (by decide) ⟨by omega, by omega⟩ (fun h9 => absurd h9 (by omega)) (fun _ => ?_)
          refine lv_iconst hx hb (n := 1) (v := iI 1) (by decide +kernel) rfl ?_
          refine lv_goto hx hb (off := 4) (tgt := 50) (by decide +kernel) (by decide) ?_
          refine lk_callH (x := 208) (rest := []) (as := [.ref (ad 0), .int (iI ((j : Int) / 4)), .int (iI (((j : Int) / 2) % 2)), .int (iI 1)]) (n := 4) F hw hl.1 (M_gainN_1 (X := X) F.l0 C1 e1 (by omega) hf hr hm) (lr54 16 rfl) (lr54 17 rfl) (lr54 18 rfl) (lr54 9 rfl) ⟨by decide, by decide, by decide +kernel⟩ rfl ⟨Nat.le_of_ble_eq_true rfl, Nat.le_of_ble_eq_true rfl, (by show _ ≤ 30300; omega), (by show _ ≤ 181800; omega)⟩ (Nat.le_of_ble_eq_true rfl) (by decide +kernel) rfl (fun v9 V9 hG H locs hw => ?_)
          obtain ⟨rfl, rfl⟩ := hG
          refine W.eq (g2 := F0 m 53 ls [.int (iI (-13))]) rfl ?_
          refine lv_istore hx hb (i := 6) (lv' := [(6, .int (iI (-13))), (5, .int (iI (j : Int))), (2, .int (iI mm)), (1, .int (iI bb)), (4, .int (iI (cel c_ 108))), (3, .int (iI (cel c_ 107))), (0, .ref (ad 0))]) (by decide +kernel) hl (by decide) rfl (fun ls hl => ?_)
          refine lv_iload hx hb (i := 6) (x := iI (-13)) (by decide +kernel) (lv_at hl 0 rfl) ?_
          refine lv_bipush hx hb (n := (-13)) (v := iI (-13)) (by decide +kernel) (by decide) ?_
          refine lz_icmp_eq hx hb (a := (-13)) (b := (-13)) (off := 117) (tgt := 176) (by decide +kernel) (by decide) ⟨by decide, by decide⟩ ⟨by decide, by decide⟩ (fun _ => ?_) (fun h9 => absurd (by decide) h9)
          refine lv_iinc hx hb (i := 5) (n := 1) (v := iI ((j : Int) + 1)) (lv' := [(5, .int (iI ((j : Int) + 1))), (6, .int (iI (-13))), (2, .int (iI mm)), (1, .int (iI bb)), (4, .int (iI (cel c_ 108))), (3, .int (iI (cel c_ 107))), (0, .ref (ad 0))]) (by decide +kernel) hl (k := 1) rfl (iI_add _ _) (by decide) rfl (fun ls hl => ?_)
          refine lv_goto hx hb (off := (-160)) (tgt := 19) (by decide +kernel) (by decide) ?_
          exact ih (j + 1) _ _ _ τ1 _ ls _ _ _ _ (by omega) (by omega) (by rw [bsb_n hst hm]; exact ⟨hb1, hb2⟩) e1 (C1.mono (by omega) (by omega)) (by omega) (by omega) (lv_sub hl [0, 2, 3, 4, 5, 6] rfl) hw
      · have hst : stp (j : Int) = -1 := by unfold stp; rw [if_neg (by omega)]
        by_cases hm : ocn c_ ((j : Int) / 4) ((j : Int) / 2 % 2) (-1) = 1 ∨ ocn c_ ((j : Int) / 4) ((j : Int) / 2 % 2) (-1) = 2 ∨ ocn c_ ((j : Int) / 4) ((j : Int) / 2 % 2) (-1) = 3
        · have hq := ocn_oco hm
          have hJ := C1_.mkm hf hr (s := (-1)) (by omega) hq.2.2 (by omega)
          have hjn := hJ.1.n
          have hmp := mkp_in C1_ hf hr hq.2.2 (by omega)
          have hgn := gnb_in C1_ hf hr (s := (-1)) (by omega) hq.2.2 (by omega)
          have hpt := pts_mkm C1_ hf hr (s := (-1)) (by omega) hq.2.2 (by omega)
          rw [hq.1] at hpt
          have hta := hS.to (z := 100 + cel c_ 108) (by omega)
          refine lv_aload_n hx hb (k := 0) (i := 0) (x := ad 0) (by decide +kernel) rfl (lv_at hl 5 rfl) ?_
          refine lv_iload hx hb (i := 5) (x := iI (j : Int)) (by decide +kernel) (lv_at hl 0 rfl) ?_
          refine lv_iconst hx hb (n := 4) (v := iI 4) (by decide +kernel) rfl ?_
          refine lz_idiv hx hb (a := (j : Int)) (b := 4) (by decide +kernel) ⟨by omega, by omega, by omega, by omega⟩ ?_
          refine lv_iload hx hb (i := 5) (x := iI (j : Int)) (by decide +kernel) (lv_at hl 0 rfl) ?_
          refine lv_iconst hx hb (n := 2) (v := iI 2) (by decide +kernel) rfl ?_
          refine lz_idiv hx hb (a := (j : Int)) (b := 2) (by decide +kernel) ⟨by omega, by omega, by omega, by omega⟩ ?_
          refine lv_iconst hx hb (n := 2) (v := iI 2) (by decide +kernel) rfl ?_
          refine lz_irem hx hb (a := ((j : Int) / 2)) (b := 2) (by decide +kernel) ⟨by omega, by omega, by omega, by omega⟩ ?_
          refine lv_iload hx hb (i := 5) (x := iI (j : Int)) (by decide +kernel) (lv_at hl 0 rfl) ?_
          refine lv_iconst hx hb (n := 2) (v := iI 2) (by decide +kernel) rfl ?_
          refine lz_irem hx hb (a := (j : Int)) (b := 2) (by decide +kernel) ⟨by omega, by omega, by omega, by omega⟩ ?_
          refine lz_if_ne hx hb (a := ((j : Int) % 2)) (off := 7) (tgt := 49) (by decide +kernel) (by decide) ⟨by omega, by omega⟩ (fun _ => ?_) (fun h9 => absurd (by omega) h9)
          refine lv_iconst hx hb (n := 0) (v := iI 0) (by decide +kernel) rfl ?_
          refine lk_callH (x := 208) (rest := []) (as := [.ref (ad 0), .int (iI ((j : Int) / 4)), .int (iI (((j : Int) / 2) % 2)), .int (iI 0)]) (n := 4) F hw hl.1 (M_gain_0 (X := X) F.l0 C1 e1 (by omega) hf hr hm) (lr54 16 rfl) (lr54 17 rfl) (lr54 18 rfl) (lr54 9 rfl) ⟨by decide, by decide, by decide +kernel⟩ rfl ⟨Nat.le_of_ble_eq_true rfl, Nat.le_of_ble_eq_true rfl, (by show _ ≤ 30300; omega), (by show _ ≤ 181800; omega)⟩ (Nat.le_of_ble_eq_true rfl) (by decide +kernel) rfl (fun v9 V9 hG H locs hw => ?_)
          obtain ⟨rfl, rfl⟩ := hG
          refine W.eq (g2 := F0 m 53 ls [.int (iI (gnb c_ ((j : Int) / 4) ((j : Int) / 2 % 2) (-1)))]) rfl ?_
          have C2 := C1.t5 (x := mkm c_ ((j : Int) / 4) ((j : Int) / 2 % 2) (-1)) hJ.1.tz
          have e2 : (zr τ1 5 (mkm c_ ((j : Int) / 4) ((j : Int) / 2 % 2) (-1))) 4 = c_ := e1
          generalize hg9 : zr τ1 5 (mkm c_ ((j : Int) / 4) ((j : Int) / 2 % 2) (-1)) = τ2 at hw C2 e2
          refine lv_istore hx hb (i := 6) (lv' := [(6, .int (iI (gnb c_ ((j : Int) / 4) ((j : Int) / 2 % 2) (-1)))), (5, .int (iI (j : Int))), (2, .int (iI mm)), (1, .int (iI bb)), (4, .int (iI (cel c_ 108))), (3, .int (iI (cel c_ 107))), (0, .ref (ad 0))]) (by decide +kernel) hl (by decide) rfl (fun ls hl => ?_)
          refine lv_iload hx hb (i := 6) (x := iI (gnb c_ ((j : Int) / 4) ((j : Int) / 2 % 2) (-1))) (by decide +kernel) (lv_at hl 0 rfl) ?_
          refine lv_bipush hx hb (n := (-13)) (v := iI (-13)) (by decide +kernel) (by decide) ?_
          refine lz_icmp_eq hx hb (a := (gnb c_ ((j : Int) / 4) ((j : Int) / 2 % 2) (-1))) (b := (-13)) (off := 117) (tgt := 176) (by decide +kernel) (by decide) ⟨by omega, by omega⟩ ⟨by decide, by decide⟩ (fun h9 => absurd h9 (by omega)) (fun _ => ?_)
          refine lv_aload_n hx hb (k := 0) (i := 0) (x := ad 0) (by decide +kernel) rfl (lv_at hl 6 rfl) ?_
          refine lv_iconst hx hb (n := 5) (v := iI 5) (by decide +kernel) rfl ?_
          refine lv_iload hx hb (i := 4) (x := iI (cel c_ 108)) (by decide +kernel) (lv_at hl 4 rfl) ?_
          refine lz_iadd hx hb (a := 5) (b := (cel c_ 108)) (by decide +kernel) ?_
          refine fl_call (d := 6) (j := m7_account) (as := [.inr (5 + (cel c_ 108))]) (X := X) (x := 155) (rest := []) F hw hl.1 (c_acc (t := cel c_ 108) e2 hS hN (by omega)) (by decide) rfl rfl (lr54 0 rfl) (lr54 1 rfl) (lr54 2 rfl) ⟨Nat.le_of_ble_eq_true rfl, Nat.le_of_ble_eq_true rfl, (by show _ ≤ 30300; omega), (by show _ ≤ 181800; omega)⟩ (Nat.le_of_ble_eq_true rfl) (by decide +kernel) rfl (fun E9 τ9 e9 => by cases e9) (fun v9 τ9 e9 H locs hw => ?_)
          cases e9
          refine W.eq (g2 := F0 m 70 ls [.int (iI (cel c_ (100 + cel c_ 108)))]) rfl ?_
          refine lv_istore hx hb (i := 7) (lv' := [(7, .int (iI (cel c_ (100 + cel c_ 108)))), (6, .int (iI (gnb c_ ((j : Int) / 4) ((j : Int) / 2 % 2) (-1)))), (5, .int (iI (j : Int))), (2, .int (iI mm)), (1, .int (iI bb)), (4, .int (iI (cel c_ 108))), (3, .int (iI (cel c_ 107))), (0, .ref (ad 0))]) (by decide +kernel) hl (by decide) rfl (fun ls hl => ?_)
          refine lv_aload_n hx hb (k := 0) (i := 0) (x := ad 0) (by decide +kernel) rfl (lv_at hl 7 rfl) ?_
          refine lv_iload hx hb (i := 5) (x := iI (j : Int)) (by decide +kernel) (lv_at hl 2 rfl) ?_
          refine lv_iconst hx hb (n := 4) (v := iI 4) (by decide +kernel) rfl ?_
          refine lz_idiv hx hb (a := (j : Int)) (b := 4) (by decide +kernel) ⟨by omega, by omega, by omega, by omega⟩ ?_
          refine lv_iload hx hb (i := 5) (x := iI (j : Int)) (by decide +kernel) (lv_at hl 2 rfl) ?_
          refine lv_iconst hx hb (n := 2) (v := iI 2) (by decide +kernel) rfl ?_
          refine lz_idiv hx hb (a := (j : Int)) (b := 2) (by decide +kernel) ⟨by omega, by omega, by omega, by omega⟩ ?_
          refine lv_iconst hx hb (n := 2) (v := iI 2) (by decide +kernel) rfl ?_
          refine lz_irem hx hb (a := ((j : Int) / 2)) (b := 2) (by decide +kernel) ⟨by omega, by omega, by omega, by omega⟩ ?_
          refine lv_iload hx hb (i := 5) (x := iI (j : Int)) (by decide +kernel) (lv_at hl 2 rfl) ?_
          refine lv_iconst hx hb (n := 2) (v := iI 2) (by decide +kernel) rfl ?_
          refine lz_irem hx hb (a := (j : Int)) (b := 2) (by decide +kernel) ⟨by omega, by omega, by omega, by omega⟩ ?_
          refine lz_if_ne hx hb (a := ((j : Int) % 2)) (off := 7) (tgt := 94) (by decide +kernel) (by decide) ⟨by omega, by omega⟩ (fun _ => ?_) (fun h9 => absurd (by omega) h9)
          refine lv_iconst hx hb (n := 0) (v := iI 0) (by decide +kernel) rfl ?_
          refine lk_callH (x := 161) (rest := []) (as := [.ref (ad 0), .int (iI ((j : Int) / 4)), .int (iI (((j : Int) / 2) % 2)), .int (iI 0)]) (n := 4) F hw hl.1 (M_move_0 (X := X) F.l0 C2 e2 (by omega) hf hr hm) (lr54 19 rfl) (lr54 20 rfl) (lr54 21 rfl) (lr54 9 rfl) ⟨by decide, by decide, by decide +kernel⟩ rfl ⟨Nat.le_of_ble_eq_true rfl, Nat.le_of_ble_eq_true rfl, (by show _ ≤ 30300; omega), (by show _ ≤ 181800; omega)⟩ (Nat.le_of_ble_eq_true rfl) (by decide +kernel) rfl (fun v9 V9 hG H locs hw => ?_)
          obtain ⟨rfl, rfl⟩ := hG
          refine W.eq (g2 := F0 m 98 ls [.int (iI (mkp c_ ((j : Int) / 4) ((j : Int) / 2 % 2) (-1)))]) rfl ?_
          obtain ⟨e3, C3, -⟩ := st_move C2 e2 (by omega) (Or.inr rfl) hf hr hm
          generalize hg8 : zr (hkp τ2) 4 (mkm c_ ((j : Int) / 4) ((j : Int) / 2 % 2) (-1)) = τ3 at hw C3 e3
          refine lv_istore hx hb (i := 8) (lv' := [(8, .int (iI (mkp c_ ((j : Int) / 4) ((j : Int) / 2 % 2) (-1)))), (7, .int (iI (cel c_ (100 + cel c_ 108)))), (6, .int (iI (gnb c_ ((j : Int) / 4) ((j : Int) / 2 % 2) (-1)))), (5, .int (iI (j : Int))), (2, .int (iI mm)), (1, .int (iI bb)), (4, .int (iI (cel c_ 108))), (3, .int (iI (cel c_ 107))), (0, .ref (ad 0))]) (by decide +kernel) hl (by decide) rfl (fun ls hl => ?_)
          refine lv_iload hx hb (i := 8) (x := iI (mkp c_ ((j : Int) / 4) ((j : Int) / 2 % 2) (-1))) (by decide +kernel) (lv_at hl 0 rfl) ?_
          refine lz_if_lt hx hb (a := (mkp c_ ((j : Int) / 4) ((j : Int) / 2 % 2) (-1))) (off := 42) (tgt := 144) (by decide +kernel) (by decide) ⟨by omega, by omega⟩ (fun h9 => absurd h9 (by omega)) (fun _ => ?_)
          refine lv_aload_n hx hb (k := 0) (i := 0) (x := ad 0) (by decide +kernel) rfl (lv_at hl 8 rfl) ?_
          refine lv_iconst hx hb (n := 5) (v := iI 5) (by decide +kernel) rfl ?_
          refine lv_iload hx hb (i := 4) (x := iI (cel c_ 108)) (by decide +kernel) (lv_at hl 6 rfl) ?_
          refine lz_iadd hx hb (a := 5) (b := (cel c_ 108)) (by decide +kernel) ?_
          refine fl_call (d := 6) (j := m7_account) (as := [.inr (5 + (cel c_ 108))]) (X := X) (x := 155) (rest := []) F hw hl.1 (c_acc (t := cel c_ 108) (N := (cel (mkm c_ ((j : Int) / 4) ((j : Int) / 2 % 2) (-1)) 107).toNat) e3 hJ.1 (by omega) (by omega)) (by decide) rfl rfl (lr54 0 rfl) (lr54 1 rfl) (lr54 2 rfl) ⟨Nat.le_of_ble_eq_true rfl, Nat.le_of_ble_eq_true rfl, (by show _ ≤ 30300; omega), (by show _ ≤ 181800; omega)⟩ (Nat.le_of_ble_eq_true rfl) (by decide +kernel) rfl (fun E9 τ9 e9 => by cases e9) (fun v9 τ9 e9 H locs hw => ?_)
          cases e9
          refine W.eq (g2 := F0 m 113 ls [.int (iI (cel (mkm c_ ((j : Int) / 4) ((j : Int) / 2 % 2) (-1)) (100 + cel c_ 108)))]) rfl ?_
          refine lv_iload hx hb (i := 7) (x := iI (cel c_ (100 + cel c_ 108))) (by decide +kernel) (lv_at hl 1 rfl) ?_
          refine lv_iload hx hb (i := 8) (x := iI (mkp c_ ((j : Int) / 4) ((j : Int) / 2 % 2) (-1))) (by decide +kernel) (lv_at hl 0 rfl) ?_
          refine lz_iadd hx hb (a := (cel c_ (100 + cel c_ 108))) (b := (mkp c_ ((j : Int) / 4) ((j : Int) / 2 % 2) (-1))) (by decide +kernel) ?_
          refine lz_icmp_ne hx hb (a := (cel (mkm c_ ((j : Int) / 4) ((j : Int) / 2 % 2) (-1)) (100 + cel c_ 108))) (b := ((cel c_ (100 + cel c_ 108)) + (mkp c_ ((j : Int) / 4) ((j : Int) / 2 % 2) (-1)))) (off := 26) (tgt := 144) (by decide +kernel) (by decide) ⟨by omega, by omega⟩ ⟨by omega, by omega⟩ (fun h9 => absurd h9 (by omega)) (fun _ => ?_)
          refine lv_iload hx hb (i := 6) (x := iI (gnb c_ ((j : Int) / 4) ((j : Int) / 2 % 2) (-1))) (by decide +kernel) (lv_at hl 2 rfl) ?_
          refine lv_iload hx hb (i := 8) (x := iI (mkp c_ ((j : Int) / 4) ((j : Int) / 2 % 2) (-1))) (by decide +kernel) (lv_at hl 0 rfl) ?_
          refine lv_aload_n hx hb (k := 0) (i := 0) (x := ad 0) (by decide +kernel) rfl (lv_at hl 8 rfl) ?_
          refine lv_iconst hx hb (n := 1) (v := iI 1) (by decide +kernel) rfl ?_
          refine lv_iload hx hb (i := 4) (x := iI (cel c_ 108)) (by decide +kernel) (lv_at hl 6 rfl) ?_
          refine lz_isub hx hb (a := 1) (b := (cel c_ 108)) (by decide +kernel) ?_
          refine lk_call (x := 225) (rest := [.int (iI (mkp c_ ((j : Int) / 4) ((j : Int) / 2 % 2) (-1))), .int (iI (gnb c_ ((j : Int) / 4) ((j : Int) / 2 % 2) (-1)))]) (as := [.ref (ad 0), .int (iI (1 - (cel c_ 108)))]) (n := 2) F hw hl.1 ((K_most (X := X) (τ := τ3) (x := 1 - cel c_ 108) (N := (cel (mkm c_ ((j : Int) / 4) ((j : Int) / 2 % 2) (-1)) 107).toNat) F.l0 (by omega) C3.1 (by rw [e3]; omega)).to (k' := (mkp c_ ((j : Int) / 4) ((j : Int) / 2 % 2) (-1)) - (gnb c_ ((j : Int) / 4) ((j : Int) / 2 % 2) (-1))) (by rw [e3]; exact gn_most C1_ (by omega) hf hr hm (by omega))) (lr54 22 rfl) (lr54 23 rfl) (lr54 24 rfl) (lr54 9 rfl) ⟨rfl, by decide, by decide, by decide +kernel⟩ rfl ⟨Nat.le_of_ble_eq_true rfl, Nat.le_of_ble_eq_true rfl, (by show _ ≤ 30300; omega), (by show _ ≤ 181800; omega)⟩ (Nat.le_of_ble_eq_true rfl) (by decide +kernel) rfl (fun v9 V9 hG H locs hw => ?_)
          obtain ⟨rfl, rfl⟩ := hG
          refine W.eq (g2 := F0 m 133 ls [.int (iI ((mkp c_ ((j : Int) / 4) ((j : Int) / 2 % 2) (-1)) - (gnb c_ ((j : Int) / 4) ((j : Int) / 2 % 2) (-1)))), .int (iI (mkp c_ ((j : Int) / 4) ((j : Int) / 2 % 2) (-1))), .int (iI (gnb c_ ((j : Int) / 4) ((j : Int) / 2 % 2) (-1)))]) rfl ?_
          refine lz_isub hx hb (a := (mkp c_ ((j : Int) / 4) ((j : Int) / 2 % 2) (-1))) (b := ((mkp c_ ((j : Int) / 4) ((j : Int) / 2 % 2) (-1)) - (gnb c_ ((j : Int) / 4) ((j : Int) / 2 % 2) (-1)))) (by decide +kernel) ?_
          refine lz_icmp_ne hx hb (a := (gnb c_ ((j : Int) / 4) ((j : Int) / 2 % 2) (-1))) (b := ((mkp c_ ((j : Int) / 4) ((j : Int) / 2 % 2) (-1)) - ((mkp c_ ((j : Int) / 4) ((j : Int) / 2 % 2) (-1)) - (gnb c_ ((j : Int) / 4) ((j : Int) / 2 % 2) (-1))))) (off := 10) (tgt := 144) (by decide +kernel) (by decide) ⟨by omega, by omega⟩ ⟨by omega, by omega⟩ (fun h9 => absurd h9 (by omega)) (fun _ => ?_)
          refine lv_aload_n hx hb (k := 0) (i := 0) (x := ad 0) (by decide +kernel) rfl (lv_at hl 8 rfl) ?_
          obtain ⟨hU, hu1, hu2, hu3⟩ := M_undo (X := X) (ad := ad) (adV := adV) (cA := cA) (D := D) (A := A) F.l0 C3 (by omega)
          refine lk_callH (x := 228) (rest := []) (as := [.ref (ad 0)]) (n := 1) F hw hl.1 (hU) (lr54 25 rfl) (lr54 26 rfl) (lr54 27 rfl) (lr54 9 rfl) ⟨by decide, by decide, by decide +kernel⟩ rfl ⟨Nat.le_of_ble_eq_true rfl, Nat.le_of_ble_eq_true rfl, (by show _ ≤ 30300; omega), (by show _ ≤ 181800; omega)⟩ (Nat.le_of_ble_eq_true rfl) (by decide +kernel) rfl (fun v9 V9 hG H locs hw => ?_)
          obtain ⟨rfl, rfl⟩ := hG
          refine W.eq (g2 := F0 m 141 ls [.int (iI ((τ3 14 2) - 1))]) rfl ?_
          refine lz_if_ge hx hb (a := ((τ3 14 2) - 1)) (off := 5) (tgt := 146) (by decide +kernel) (by decide) ⟨by omega, by omega⟩ (fun _ => ?_) (fun h9 => absurd (by omega) h9)
          refine lv_iload_n hx hb (k := 1) (i := 1) (x := iI bb) (by decide +kernel) rfl (lv_at hl 5 rfl) ?_
          refine lz_if_lt hx hb (a := bb) (off := 9) (tgt := 156) (by decide +kernel) (by decide) ⟨by omega, by omega⟩ (fun h8 => ?_) (fun h8 => ?_)
          ·
            refine lv_iload hx hb (i := 5) (x := iI (j : Int)) (by decide +kernel) (lv_at hl 3 rfl) ?_
            refine lv_goto hx hb (off := 4) (tgt := 162) (by decide +kernel) (by decide) ?_
            refine lv_istore_n hx hb (k := 1) (i := 1) (lv' := [(1, .int (iI (j : Int))), (8, .int (iI (mkp c_ ((j : Int) / 4) ((j : Int) / 2 % 2) (-1)))), (7, .int (iI (cel c_ (100 + cel c_ 108)))), (6, .int (iI (gnb c_ ((j : Int) / 4) ((j : Int) / 2 % 2) (-1)))), (5, .int (iI (j : Int))), (2, .int (iI mm)), (4, .int (iI (cel c_ 108))), (3, .int (iI (cel c_ 107))), (0, .ref (ad 0))]) (by decide +kernel) rfl hl (by decide) rfl (fun ls hl => ?_)
            refine lv_iload_n hx hb (k := 1) (i := 1) (x := iI (j : Int)) (by decide +kernel) rfl (lv_at hl 0 rfl) ?_
            refine lv_iload hx hb (i := 5) (x := iI (j : Int)) (by decide +kernel) (lv_at hl 4 rfl) ?_
            refine lz_icmp_ne hx hb (a := (j : Int)) (b := (j : Int)) (off := 8) (tgt := 174) (by decide +kernel) (by decide) ⟨by omega, by omega⟩ ⟨by omega, by omega⟩ (fun h9 => absurd h9 (by omega)) (fun _ => ?_)
            refine lv_iload hx hb (i := 6) (x := iI (gnb c_ ((j : Int) / 4) ((j : Int) / 2 % 2) (-1))) (by decide +kernel) (lv_at hl 3 rfl) ?_
            refine lv_goto hx hb (off := 4) (tgt := 175) (by decide +kernel) (by decide) ?_
            refine lv_istore_n hx hb (k := 2) (i := 2) (lv' := [(2, .int (iI (gnb c_ ((j : Int) / 4) ((j : Int) / 2 % 2) (-1)))), (1, .int (iI (j : Int))), (8, .int (iI (mkp c_ ((j : Int) / 4) ((j : Int) / 2 % 2) (-1)))), (7, .int (iI (cel c_ (100 + cel c_ 108)))), (6, .int (iI (gnb c_ ((j : Int) / 4) ((j : Int) / 2 % 2) (-1)))), (5, .int (iI (j : Int))), (4, .int (iI (cel c_ 108))), (3, .int (iI (cel c_ 107))), (0, .ref (ad 0))]) (by decide +kernel) rfl hl (by decide) rfl (fun ls hl => ?_)
            refine lv_iinc hx hb (i := 5) (n := 1) (v := iI ((j : Int) + 1)) (lv' := [(5, .int (iI ((j : Int) + 1))), (2, .int (iI (gnb c_ ((j : Int) / 4) ((j : Int) / 2 % 2) (-1)))), (1, .int (iI (j : Int))), (8, .int (iI (mkp c_ ((j : Int) / 4) ((j : Int) / 2 % 2) (-1)))), (7, .int (iI (cel c_ (100 + cel c_ 108)))), (6, .int (iI (gnb c_ ((j : Int) / 4) ((j : Int) / 2 % 2) (-1)))), (4, .int (iI (cel c_ 108))), (3, .int (iI (cel c_ 107))), (0, .ref (ad 0))]) (by decide +kernel) hl (k := 5) rfl (iI_add _ _) (by decide) rfl (fun ls hl => ?_)
            refine lv_goto hx hb (off := (-160)) (tgt := 19) (by decide +kernel) (by decide) ?_
            exact ih (j + 1) _ _ _ (hpb τ3) _ ls _ _ _ _ (by omega) (by omega) (bsb_s hst hm (Or.inl ⟨by omega, rfl, rfl⟩)) hu2 (hu3.mono (by omega) (by omega)) (by omega) (by omega) (lv_sub hl [0, 1, 2, 6, 7, 8] rfl) hw
          ·
            refine lv_iload hx hb (i := 6) (x := iI (gnb c_ ((j : Int) / 4) ((j : Int) / 2 % 2) (-1))) (by decide +kernel) (lv_at hl 2 rfl) ?_
            refine lv_iload_n hx hb (k := 2) (i := 2) (x := iI mm) (by decide +kernel) rfl (lv_at hl 4 rfl) ?_
            refine lz_icmp_le hx hb (a := (gnb c_ ((j : Int) / 4) ((j : Int) / 2 % 2) (-1))) (b := mm) (off := 8) (tgt := 161) (by decide +kernel) (by decide) ⟨by omega, by omega⟩ ⟨by omega, by omega⟩ (fun h10 => ?_) (fun h10 => ?_)
            ·
              refine lv_iload_n hx hb (k := 1) (i := 1) (x := iI bb) (by decide +kernel) rfl (lv_at hl 5 rfl) ?_
              refine lv_istore_n hx hb (k := 1) (i := 1) (lv' := [(1, .int (iI bb)), (8, .int (iI (mkp c_ ((j : Int) / 4) ((j : Int) / 2 % 2) (-1)))), (7, .int (iI (cel c_ (100 + cel c_ 108)))), (6, .int (iI (gnb c_ ((j : Int) / 4) ((j : Int) / 2 % 2) (-1)))), (5, .int (iI (j : Int))), (2, .int (iI mm)), (4, .int (iI (cel c_ 108))), (3, .int (iI (cel c_ 107))), (0, .ref (ad 0))]) (by decide +kernel) rfl hl (by decide) rfl (fun ls hl => ?_)
              refine lv_iload_n hx hb (k := 1) (i := 1) (x := iI bb) (by decide +kernel) rfl (lv_at hl 0 rfl) ?_
              refine lv_iload hx hb (i := 5) (x := iI (j : Int)) (by decide +kernel) (lv_at hl 4 rfl) ?_
              refine lz_icmp_ne hx hb (a := bb) (b := (j : Int)) (off := 8) (tgt := 174) (by decide +kernel) (by decide) ⟨by omega, by omega⟩ ⟨by omega, by omega⟩ (fun _ => ?_) (fun h9 => absurd (by omega) h9)
              refine lv_iload_n hx hb (k := 2) (i := 2) (x := iI mm) (by decide +kernel) rfl (lv_at hl 5 rfl) ?_
              refine lv_istore_n hx hb (k := 2) (i := 2) (lv' := [(2, .int (iI mm)), (1, .int (iI bb)), (8, .int (iI (mkp c_ ((j : Int) / 4) ((j : Int) / 2 % 2) (-1)))), (7, .int (iI (cel c_ (100 + cel c_ 108)))), (6, .int (iI (gnb c_ ((j : Int) / 4) ((j : Int) / 2 % 2) (-1)))), (5, .int (iI (j : Int))), (4, .int (iI (cel c_ 108))), (3, .int (iI (cel c_ 107))), (0, .ref (ad 0))]) (by decide +kernel) rfl hl (by decide) rfl (fun ls hl => ?_)
              refine lv_iinc hx hb (i := 5) (n := 1) (v := iI ((j : Int) + 1)) (lv' := [(5, .int (iI ((j : Int) + 1))), (2, .int (iI mm)), (1, .int (iI bb)), (8, .int (iI (mkp c_ ((j : Int) / 4) ((j : Int) / 2 % 2) (-1)))), (7, .int (iI (cel c_ (100 + cel c_ 108)))), (6, .int (iI (gnb c_ ((j : Int) / 4) ((j : Int) / 2 % 2) (-1)))), (4, .int (iI (cel c_ 108))), (3, .int (iI (cel c_ 107))), (0, .ref (ad 0))]) (by decide +kernel) hl (k := 5) rfl (iI_add _ _) (by decide) rfl (fun ls hl => ?_)
              refine lv_goto hx hb (off := (-160)) (tgt := 19) (by decide +kernel) (by decide) ?_
              exact ih (j + 1) _ _ _ (hpb τ3) _ ls _ _ _ _ (by omega) (by omega) (bsb_s hst hm (Or.inr ⟨by omega, hb1, hb2⟩)) hu2 (hu3.mono (by omega) (by omega)) (by omega) (by omega) (lv_sub hl [0, 1, 2, 6, 7, 8] rfl) hw
            ·
              refine lv_iload hx hb (i := 5) (x := iI (j : Int)) (by decide +kernel) (lv_at hl 3 rfl) ?_
              refine lv_goto hx hb (off := 4) (tgt := 162) (by decide +kernel) (by decide) ?_
              refine lv_istore_n hx hb (k := 1) (i := 1) (lv' := [(1, .int (iI (j : Int))), (8, .int (iI (mkp c_ ((j : Int) / 4) ((j : Int) / 2 % 2) (-1)))), (7, .int (iI (cel c_ (100 + cel c_ 108)))), (6, .int (iI (gnb c_ ((j : Int) / 4) ((j : Int) / 2 % 2) (-1)))), (5, .int (iI (j : Int))), (2, .int (iI mm)), (4, .int (iI (cel c_ 108))), (3, .int (iI (cel c_ 107))), (0, .ref (ad 0))]) (by decide +kernel) rfl hl (by decide) rfl (fun ls hl => ?_)
              refine lv_iload_n hx hb (k := 1) (i := 1) (x := iI (j : Int)) (by decide +kernel) rfl (lv_at hl 0 rfl) ?_
              refine lv_iload hx hb (i := 5) (x := iI (j : Int)) (by decide +kernel) (lv_at hl 4 rfl) ?_
              refine lz_icmp_ne hx hb (a := (j : Int)) (b := (j : Int)) (off := 8) (tgt := 174) (by decide +kernel) (by decide) ⟨by omega, by omega⟩ ⟨by omega, by omega⟩ (fun h9 => absurd h9 (by omega)) (fun _ => ?_)
              refine lv_iload hx hb (i := 6) (x := iI (gnb c_ ((j : Int) / 4) ((j : Int) / 2 % 2) (-1))) (by decide +kernel) (lv_at hl 3 rfl) ?_
              refine lv_goto hx hb (off := 4) (tgt := 175) (by decide +kernel) (by decide) ?_
              refine lv_istore_n hx hb (k := 2) (i := 2) (lv' := [(2, .int (iI (gnb c_ ((j : Int) / 4) ((j : Int) / 2 % 2) (-1)))), (1, .int (iI (j : Int))), (8, .int (iI (mkp c_ ((j : Int) / 4) ((j : Int) / 2 % 2) (-1)))), (7, .int (iI (cel c_ (100 + cel c_ 108)))), (6, .int (iI (gnb c_ ((j : Int) / 4) ((j : Int) / 2 % 2) (-1)))), (5, .int (iI (j : Int))), (4, .int (iI (cel c_ 108))), (3, .int (iI (cel c_ 107))), (0, .ref (ad 0))]) (by decide +kernel) rfl hl (by decide) rfl (fun ls hl => ?_)
              refine lv_iinc hx hb (i := 5) (n := 1) (v := iI ((j : Int) + 1)) (lv' := [(5, .int (iI ((j : Int) + 1))), (2, .int (iI (gnb c_ ((j : Int) / 4) ((j : Int) / 2 % 2) (-1)))), (1, .int (iI (j : Int))), (8, .int (iI (mkp c_ ((j : Int) / 4) ((j : Int) / 2 % 2) (-1)))), (7, .int (iI (cel c_ (100 + cel c_ 108)))), (6, .int (iI (gnb c_ ((j : Int) / 4) ((j : Int) / 2 % 2) (-1)))), (4, .int (iI (cel c_ 108))), (3, .int (iI (cel c_ 107))), (0, .ref (ad 0))]) (by decide +kernel) hl (k := 5) rfl (iI_add _ _) (by decide) rfl (fun ls hl => ?_)
              refine lv_goto hx hb (off := (-160)) (tgt := 19) (by decide +kernel) (by decide) ?_
              exact ih (j + 1) _ _ _ (hpb τ3) _ ls _ _ _ _ (by omega) (by omega) (bsb_s hst hm (Or.inl ⟨by omega, rfl, rfl⟩)) hu2 (hu3.mono (by omega) (by omega)) (by omega) (by omega) (lv_sub hl [0, 1, 2, 6, 7, 8] rfl) hw
        ·
          refine lv_aload_n hx hb (k := 0) (i := 0) (x := ad 0) (by decide +kernel) rfl (lv_at hl 5 rfl) ?_
          refine lv_iload hx hb (i := 5) (x := iI (j : Int)) (by decide +kernel) (lv_at hl 0 rfl) ?_
          refine lv_iconst hx hb (n := 4) (v := iI 4) (by decide +kernel) rfl ?_
          refine lz_idiv hx hb (a := (j : Int)) (b := 4) (by decide +kernel) ⟨by omega, by omega, by omega, by omega⟩ ?_
          refine lv_iload hx hb (i := 5) (x := iI (j : Int)) (by decide +kernel) (lv_at hl 0 rfl) ?_
          refine lv_iconst hx hb (n := 2) (v := iI 2) (by decide +kernel) rfl ?_
          refine lz_idiv hx hb (a := (j : Int)) (b := 2) (by decide +kernel) ⟨by omega, by omega, by omega, by omega⟩ ?_
          refine lv_iconst hx hb (n := 2) (v := iI 2) (by decide +kernel) rfl ?_
          refine lz_irem hx hb (a := ((j : Int) / 2)) (b := 2) (by decide +kernel) ⟨by omega, by omega, by omega, by omega⟩ ?_
          refine lv_iload hx hb (i := 5) (x := iI (j : Int)) (by decide +kernel) (lv_at hl 0 rfl) ?_
          refine lv_iconst hx hb (n := 2) (v := iI 2) (by decide +kernel) rfl ?_
          refine lz_irem hx hb (a := (j : Int)) (b := 2) (by decide +kernel) ⟨by omega, by omega, by omega, by omega⟩ ?_
          refine lz_if_ne hx hb (a := ((j : Int) % 2)) (off := 7) (tgt := 49) (by decide +kernel) (by decide) ⟨by omega, by omega⟩ (fun _ => ?_) (fun h9 => absurd (by omega) h9)
          refine lv_iconst hx hb (n := 0) (v := iI 0) (by decide +kernel) rfl ?_
          refine lk_callH (x := 208) (rest := []) (as := [.ref (ad 0), .int (iI ((j : Int) / 4)), .int (iI (((j : Int) / 2) % 2)), .int (iI 0)]) (n := 4) F hw hl.1 (M_gainN_0 (X := X) F.l0 C1 e1 (by omega) hf hr hm) (lr54 16 rfl) (lr54 17 rfl) (lr54 18 rfl) (lr54 9 rfl) ⟨by decide, by decide, by decide +kernel⟩ rfl ⟨Nat.le_of_ble_eq_true rfl, Nat.le_of_ble_eq_true rfl, (by show _ ≤ 30300; omega), (by show _ ≤ 181800; omega)⟩ (Nat.le_of_ble_eq_true rfl) (by decide +kernel) rfl (fun v9 V9 hG H locs hw => ?_)
          obtain ⟨rfl, rfl⟩ := hG
          refine W.eq (g2 := F0 m 53 ls [.int (iI (-13))]) rfl ?_
          refine lv_istore hx hb (i := 6) (lv' := [(6, .int (iI (-13))), (5, .int (iI (j : Int))), (2, .int (iI mm)), (1, .int (iI bb)), (4, .int (iI (cel c_ 108))), (3, .int (iI (cel c_ 107))), (0, .ref (ad 0))]) (by decide +kernel) hl (by decide) rfl (fun ls hl => ?_)
          refine lv_iload hx hb (i := 6) (x := iI (-13)) (by decide +kernel) (lv_at hl 0 rfl) ?_
          refine lv_bipush hx hb (n := (-13)) (v := iI (-13)) (by decide +kernel) (by decide) ?_
          refine lz_icmp_eq hx hb (a := (-13)) (b := (-13)) (off := 117) (tgt := 176) (by decide +kernel) (by decide) ⟨by decide, by decide⟩ ⟨by decide, by decide⟩ (fun _ => ?_) (fun h9 => absurd (by decide) h9)
          refine lv_iinc hx hb (i := 5) (n := 1) (v := iI ((j : Int) + 1)) (lv' := [(5, .int (iI ((j : Int) + 1))), (6, .int (iI (-13))), (2, .int (iI mm)), (1, .int (iI bb)), (4, .int (iI (cel c_ 108))), (3, .int (iI (cel c_ 107))), (0, .ref (ad 0))]) (by decide +kernel) hl (k := 1) rfl (iI_add _ _) (by decide) rfl (fun ls hl => ?_)
          refine lv_goto hx hb (off := (-160)) (tgt := 19) (by decide +kernel) (by decide) ?_
          exact ih (j + 1) _ _ _ τ1 _ ls _ _ _ _ (by omega) (by omega) (by rw [bsb_n hst hm]; exact ⟨hb1, hb2⟩) e1 (C1.mono (by omega) (by omega)) (by omega) (by omega) (lv_sub hl [0, 2, 3, 4, 5, 6] rfl) hw
  exact loop (4 * N) 0 0 (-1) 0 τ h ls _ _ _ _ (by omega) rfl ⟨rfl, rfl⟩ e0 (C.mono (by omega) (by omega)) (by omega) (by omega) (lv_sub hl [0, 3, 4, 1, 2, 5] rfl) hw
end GND
