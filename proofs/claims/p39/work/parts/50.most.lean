/-! the most points that a side could get by one move: printed by wip/p39/db50.py -/
section MST
variable {l : Launch} {D : va_G} {A : Nat → Prop} {ad adV : Nat → Nat} {cA : Nat → ClassId}
def msl (c : Nat → Int) (x : Int) : Nat → Int
  | 0 => 0
  | j + 1 => if cel c (0 + ((j : Int) / 4) * 6 + 0) = x then stq c ((j : Int) / 4) ((j : Int) / 2 % 2) (1 - (j : Int) % 2 * 2) (msl c x j) else msl c x j
theorem msl_4 {c : Nat → Int} {x : Int} : ∀ k : Nat, msl c x (4 * k) = mpv c x k
  | 0 => rfl
  | k + 1 => by
    rw [show 4 * (k + 1) = 4 * k + 1 + 1 + 1 + 1 from by omega]
    unfold mpv
    rw [← msl_4 k]
    simp only [msl]
    rw [show ((4 * k : Nat) : Int) / 4 = (k : Int) from by omega, show ((4 * k + 1 : Nat) : Int) / 4 = (k : Int) from by omega, show ((4 * k + 1 + 1 : Nat) : Int) / 4 = (k : Int) from by omega, show ((4 * k + 1 + 1 + 1 : Nat) : Int) / 4 = (k : Int) from by omega,
      show ((4 * k : Nat) : Int) / 2 % 2 = 0 from by omega, show ((4 * k + 1 : Nat) : Int) / 2 % 2 = 0 from by omega, show ((4 * k + 1 + 1 : Nat) : Int) / 2 % 2 = 1 from by omega, show ((4 * k + 1 + 1 + 1 : Nat) : Int) / 2 % 2 = 1 from by omega,
      show (1 : Int) - ((4 * k : Nat) : Int) % 2 * 2 = 1 from by omega, show (1 : Int) - ((4 * k + 1 : Nat) : Int) % 2 * 2 = -1 from by omega, show (1 : Int) - ((4 * k + 1 + 1 : Nat) : Int) % 2 * 2 = 1 from by omega, show (1 : Int) - ((4 * k + 1 + 1 + 1 : Nat) : Int) % 2 * 2 = -1 from by omega]
    by_cases h : cel c (0 + (k : Int) * 6 + 0) = x
    · simp only [if_pos h]
    · simp only [if_neg h]
def lr50W : List Jvm.Cond := [.methodLink RL 155 (mY m7_account),
  .instanceMethod (mY m7_account),
  .selects (mY m7_account).cls (mY m7_account) (mY m7_account),
  .methodLink RL 163 yL_of,
  .static yL_of,
  .codeWith yL_of method_9_code 4 (some .int) [(0, 6, 7, 22), (0, 6, 11, 14)],
  .initialized RL,
  .methodLink RL 194 yL_hinders,
  .static yL_hinders,
  .code yL_hinders method_34_code 8 (some .int),
  .methodLink RL 197 yL_kind,
  .static yL_kind,
  .code yL_kind method_35_code 5 (some .int),
  .methodLink RL 166 yL_placeOf,
  .static yL_placeOf,
  .code yL_placeOf method_33_code 3 (some .int),
  .methodLink RL 171 yL_at,
  .static yL_at,
  .codeWith yL_at method_10_code 4 (some .int) [(0, 6, 7, 22)],
  .methodLink RL 220 Lib.Math.max.name]
theorem lr50_in : ∀ w ∈ lr50W, w ∈ lw_tbl := by decide +kernel
theorem lr50 (k : Nat) {w : Jvm.Cond} (h : lr50W[k]? = some w) : w ∈ lw_tbl := lr50_in w (List.mem_of_getElem? h)
theorem oco_who {B : Int} {c : Nat → Int} (hI : Iv B c) {f r s : Int} (hr : 0 ≤ r ∧ r < 2) (h : oco c f r s = 3) : 0 ≤ whz c r (cel c (0 + f * 6 + (1 + r)) + s) ∧ whz c r (cel c (0 + f * 6 + (1 + r)) + s) < cel c 107 := by
  have q := hI.2.1.ov (r := r) (p := cel c (0 + f * 6 + (1 + r)) + s) hr
  have e := (oco_23 (c := c) (f := f) (r := r) (s := s)).mp (Or.inr h)
  have h8 : ¬ whz c r (cel c (0 + f * 6 + (1 + r)) + s) = 8 := by
    intro z
    unfold oco at h
    (repeat' split at h) <;> omega
  have h1 : ¬ whz c r (cel c (0 + f * 6 + (1 + r)) + s) = -1 := e.2.2.2.1
  omega
theorem msl_in {B : Int} {c : Nat → Int} {N : Nat} {x : Int} (hS : Sh B c) (hN : cel c 107 = (N : Int)) (hx : 0 ≤ x ∧ x < 2) : ∀ j : Nat, j ≤ 4 * N → 0 ≤ msl c x j ∧ msl c x j ≤ 1000000001
  | 0, _ => ⟨Int.le_refl 0, (by decide : (0 : Int) ≤ 1000000001)⟩
  | j + 1, h => by
    have ih := msl_in hS hN hx j (by omega)
    have hb : ∀ g, 1 + cel c (0 + g * 6 + 3) ≤ 1000000001 := fun g => by have := cel_bd hS.bd (0 + g * 6 + 3); omega
    unfold msl stq
    (repeat' split) <;> first | omega | (have q := hb (whz c ((j : Int) / 2 % 2) (cel c (0 + (j : Int) / 4 * 6 + (1 + (j : Int) / 2 % 2)) + (1 - (j : Int) % 2 * 2))); omega)
theorem msl_is {c : Nat → Int} {x z v v' : Int} {j : Nat} (hz : z = (j : Int)) (hv : v = msl c x j) {u : Int} (hu : u = 1 + cel c (0 + whz c (z / 2 % 2) (cel c (0 + z / 4 * 6 + (1 + z / 2 % 2)) + (1 - z % 2 * 2)) * 6 + 3))
    (h : (cel c (0 + z / 4 * 6 + 0) = x ∧ oco c (z / 4) (z / 2 % 2) (1 - z % 2 * 2) = 3 ∧ v' = if v < u then u else v) ∨ (v' = v ∧ (¬ cel c (0 + z / 4 * 6 + 0) = x ∨ ¬ oco c (z / 4) (z / 2 % 2) (1 - z % 2 * 2) = 3))) : v' = msl c x (j + 1) := by
  unfold msl stq
  subst hz
  rw [hu] at h
  rw [← hv]
  rcases h with ⟨h1, h2, h3⟩ | ⟨h1, h2⟩
  · rw [if_pos h1, if_pos h2]; exact h3
  · rcases h2 with h2 | h2
    · rw [if_neg h2]; exact h1
    · by_cases h3 : cel c (0 + (j : Int) / 4 * 6 + 0) = x
      · rw [if_pos h3, if_neg h2]; exact h1
      · rw [if_neg h3]; exact h1
theorem K_most {X : va_W} {τ : SZ} {x B : Int} {N : Nat} (hl0 : l.stackTraces = false) (hxx : 0 ≤ x ∧ x < 2) (hI : Iv B (τ 4)) (hN : cel (τ 4) 107 = (N : Int)) : LK l D A ad adV cA (.code yL_most method_38_code 7 (some .int)) yL_most 25 930 5580 [.ref (ad 0), .int (iI x)] (wO ad cA (sz τ) ++ X) (RV ad cA X (mpv (τ 4) x N) τ) := by
  refine lk_of hl0 rfl ?_ (Nat.le_of_ble_eq_true rfl)
  rintro p e s m args below meth c F hlk hrt hw ls hl
  have hl : lv_has ls 7 [(0, .ref (ad 0)), (1, .int (iI x))] := hl
  have hx := F.1
  have hb := F.2.1
  have hS := hI.1
  have hn := hS.n
  have hmx : mX m7_account = 1 := rfl
  refine lv_iconst hx hb (n := 0) (v := iI 0) (by decide +kernel) rfl ?_
  refine lv_istore_n hx hb (k := 2) (i := 2) (lv' := [(2, .int (iI 0)), (0, .ref (ad 0)), (1, .int (iI x))]) (by decide +kernel) rfl hl (by decide) rfl (fun ls hl => ?_)
  refine lv_iconst hx hb (n := 0) (v := iI 0) (by decide +kernel) rfl ?_
  refine lv_istore_n hx hb (k := 3) (i := 3) (lv' := [(3, .int (iI 0)), (2, .int (iI 0)), (0, .ref (ad 0)), (1, .int (iI x))]) (by decide +kernel) rfl hl (by decide) rfl (fun ls hl => ?_)
  have loop : ∀ (q j : Nat) (z v : Int) (ls : Array Slot) (H : Heap) (locs : List Loc) (cl sl : Nat), j + q = 4 * N → z = (j : Int) → v = msl (τ 4) x j → cl ≤ 28 * j → sl ≤ 168 * j → lv_has ls 7 [(3, .int (iI z)), (2, .int (iI v)), (0, .ref (ad 0)), (1, .int (iI x))] → WV D A s (wO ad cA (sz τ) ++ X) H locs → W p l e (rmK 25 930 5580) s m args below meth c H locs cl sl (vx_MQ below (LQ D A (RV ad cA X (mpv (τ 4) x N) τ)) (fun _ _ _ => False) args s 930 5580 A) (F0 m 4 ls []) := by
    intro q
    induction q with
    | zero =>
      intro j z v ls H locs cl sl hk hz hv hcl hsl hl hw
      have hvb := msl_in hS hN hxx j (by omega)
      refine lv_iload_n hx hb (k := 3) (i := 3) (x := iI z) (by decide +kernel) rfl (lv_at hl 0 rfl) ?_
      refine lv_iconst hx hb (n := 4) (v := iI 4) (by decide +kernel) rfl ?_
      refine lv_aload_n hx hb (k := 0) (i := 0) (x := ad 0) (by decide +kernel) rfl (lv_at hl 2 rfl) ?_
      refine lv_iconst hx hb (n := 0) (v := iI 0) (by decide +kernel) rfl ?_
      refine fl_call (d := 6) (j := m7_account) (as := [.inr 0]) (X := X) (x := 155) (rest := [.int (iI 4), .int (iI z)]) F hw hl.1 (c_account_0 (τ := τ) hS hN) (by decide) rfl rfl (lr50 0 rfl) (lr50 1 rfl) (lr50 2 rfl) ⟨Nat.le_of_ble_eq_true rfl, Nat.le_of_ble_eq_true rfl, (by show _ ≤ 930; omega), (by show _ ≤ 5580; omega)⟩ (Nat.le_of_ble_eq_true rfl) (by decide +kernel) rfl (fun E9 τ9 e9 => by cases e9) (fun v9 τ9 e9 H locs hw => ?_)
      cases e9
      refine W.eq (g2 := F0 m 11 ls [.int (iI (cel (τ 4) 107)), .int (iI 4), .int (iI z)]) rfl ?_
      refine lz_imul hx hb (a := 4) (b := (cel (τ 4) 107)) (by decide +kernel) ?_
      refine lz_icmp_ge hx hb (a := z) (b := (4 * (cel (τ 4) 107))) (off := 97) (tgt := 109) (by decide +kernel) (by decide) ⟨by omega, by omega⟩ ⟨by omega, by omega⟩ (fun _ => ?_) (fun h9 => absurd (by omega) h9)
      refine lv_iload_n hx hb (k := 2) (i := 2) (x := iI v) (by decide +kernel) rfl (lv_at hl 1 rfl) ?_
      exact lk_iret F hlk hrt hw rfl (rv_of (by rw [hv, show j = 4 * N from by omega]; exact msl_4 N)) (by omega) (by omega) (by decide +kernel)
    | succ q ih =>
      intro j z v ls H locs cl sl hk hz hv hcl hsl hl hw
      have hvb := msl_in hS hN hxx j (by omega)
      have hz4 : z / 4 = (j : Int) / 4 := by rw [hz]
      have hf4 : 0 ≤ z / 4 ∧ z / 4 < cel (τ 4) 107 := by omega
      have hsd := hS.sd (f := z / 4) ⟨by omega, by omega⟩
      have hd2 : 1 - z % 2 * 2 = 1 ∨ 1 - z % 2 * 2 = -1 := by omega
      have hhb := hnd_b hS (f := z / 4) (r := z / 2 % 2) (s := 1 - z % 2 * 2) ⟨by omega, by omega⟩ (by omega) (by omega)
      have hnx : oco (τ 4) (z / 4) (z / 2 % 2) (1 - z % 2 * 2) = 3 → (0 ≤ cel (τ 4) (0 + z / 4 * 6 + (1 + z / 2 % 2)) + (1 - z % 2 * 2) ∧ cel (τ 4) (0 + z / 4 * 6 + (1 + z / 2 % 2)) + (1 - z % 2 * 2) < 12) ∧ (0 ≤ whz (τ 4) (z / 2 % 2) (cel (τ 4) (0 + z / 4 * 6 + (1 + z / 2 % 2)) + (1 - z % 2 * 2)) ∧ whz (τ 4) (z / 2 % 2) (cel (τ 4) (0 + z / 4 * 6 + (1 + z / 2 % 2)) + (1 - z % 2 * 2)) < cel (τ 4) 107) := fun q3 => ⟨oco_nx (by omega), oco_who hI (by omega) q3⟩
      have hkb : ∀ g, 0 ≤ g → g < cel (τ 4) 107 → 0 ≤ cel (τ 4) (0 + g * 6 + 3) ∧ cel (τ 4) (0 + g * 6 + 3) ≤ 1 := fun g a b => hS.kg ⟨a, by omega⟩
      refine lv_iload_n hx hb (k := 3) (i := 3) (x := iI z) (by decide +kernel) rfl (lv_at hl 0 rfl) ?_
      refine lv_iconst hx hb (n := 4) (v := iI 4) (by decide +kernel) rfl ?_
      refine lv_aload_n hx hb (k := 0) (i := 0) (x := ad 0) (by decide +kernel) rfl (lv_at hl 2 rfl) ?_
      refine lv_iconst hx hb (n := 0) (v := iI 0) (by decide +kernel) rfl ?_
      refine fl_call (d := 6) (j := m7_account) (as := [.inr 0]) (X := X) (x := 155) (rest := [.int (iI 4), .int (iI z)]) F hw hl.1 (c_account_0 (τ := τ) hS hN) (by decide) rfl rfl (lr50 0 rfl) (lr50 1 rfl) (lr50 2 rfl) ⟨Nat.le_of_ble_eq_true rfl, Nat.le_of_ble_eq_true rfl, (by show _ ≤ 930; omega), (by show _ ≤ 5580; omega)⟩ (Nat.le_of_ble_eq_true rfl) (by decide +kernel) rfl (fun E9 τ9 e9 => by cases e9) (fun v9 τ9 e9 H locs hw => ?_)
      cases e9
      refine W.eq (g2 := F0 m 11 ls [.int (iI (cel (τ 4) 107)), .int (iI 4), .int (iI z)]) rfl ?_
      refine lz_imul hx hb (a := 4) (b := (cel (τ 4) 107)) (by decide +kernel) ?_
      refine lz_icmp_ge hx hb (a := z) (b := (4 * (cel (τ 4) 107))) (off := 97) (tgt := 109) (by decide +kernel) (by decide) ⟨by omega, by omega⟩ ⟨by omega, by omega⟩ (fun h9 => absurd h9 (by omega)) (fun _ => ?_)
      refine lv_iload_n hx hb (k := 3) (i := 3) (x := iI z) (by decide +kernel) rfl (lv_at hl 0 rfl) ?_
      refine lv_iconst hx hb (n := 4) (v := iI 4) (by decide +kernel) rfl ?_
      refine lz_idiv hx hb (a := z) (b := 4) (by decide +kernel) ⟨by omega, by omega, by omega, by omega⟩ ?_
      refine lv_istore hx hb (i := 4) (lv' := [(4, .int (iI (z / 4))), (3, .int (iI z)), (2, .int (iI v)), (0, .ref (ad 0)), (1, .int (iI x))]) (by decide +kernel) hl (by decide) rfl (fun ls hl => ?_)
      refine lv_iload_n hx hb (k := 3) (i := 3) (x := iI z) (by decide +kernel) rfl (lv_at hl 1 rfl) ?_
      refine lv_iconst hx hb (n := 2) (v := iI 2) (by decide +kernel) rfl ?_
      refine lz_idiv hx hb (a := z) (b := 2) (by decide +kernel) ⟨by omega, by omega, by omega, by omega⟩ ?_
      refine lv_iconst hx hb (n := 2) (v := iI 2) (by decide +kernel) rfl ?_
      refine lz_irem hx hb (a := (z / 2)) (b := 2) (by decide +kernel) ⟨by omega, by omega, by omega, by omega⟩ ?_
      refine lv_istore hx hb (i := 5) (lv' := [(5, .int (iI ((z / 2) % 2))), (4, .int (iI (z / 4))), (3, .int (iI z)), (2, .int (iI v)), (0, .ref (ad 0)), (1, .int (iI x))]) (by decide +kernel) hl (by decide) rfl (fun ls hl => ?_)
      refine lv_iconst hx hb (n := 1) (v := iI 1) (by decide +kernel) rfl ?_
      refine lv_iload_n hx hb (k := 3) (i := 3) (x := iI z) (by decide +kernel) rfl (lv_at hl 2 rfl) ?_
      refine lv_iconst hx hb (n := 2) (v := iI 2) (by decide +kernel) rfl ?_
      refine lz_irem hx hb (a := z) (b := 2) (by decide +kernel) ⟨by omega, by omega, by omega, by omega⟩ ?_
      refine lv_iconst hx hb (n := 2) (v := iI 2) (by decide +kernel) rfl ?_
      refine lz_imul hx hb (a := (z % 2)) (b := 2) (by decide +kernel) ?_
      refine lz_isub hx hb (a := 1) (b := ((z % 2) * 2)) (by decide +kernel) ?_
      refine lv_istore hx hb (i := 6) (lv' := [(6, .int (iI (1 - ((z % 2) * 2)))), (5, .int (iI ((z / 2) % 2))), (4, .int (iI (z / 4))), (3, .int (iI z)), (2, .int (iI v)), (0, .ref (ad 0)), (1, .int (iI x))]) (by decide +kernel) hl (by decide) rfl (fun ls hl => ?_)
      refine lv_aload_n hx hb (k := 0) (i := 0) (x := ad 0) (by decide +kernel) rfl (lv_at hl 5 rfl) ?_
      refine lv_iload hx hb (i := 4) (x := iI (z / 4)) (by decide +kernel) (lv_at hl 2 rfl) ?_
      refine lv_iconst hx hb (n := 0) (v := iI 0) (by decide +kernel) rfl ?_
      refine lk_callH (x := 163) (rest := []) (as := [.ref (ad 0), .int (iI (z / 4)), .int (iI 0)]) (n := 3) F hw hl.1 (K_of (X := X) (τ := τ) (f := (z / 4)) (w := 0) (B := B) F.l0 (by omega) (by omega) hS) (lr50 3 rfl) (lr50 4 rfl) (lr50 5 rfl) (lr50 6 rfl) ⟨by decide, by decide, by decide +kernel⟩ rfl ⟨Nat.le_of_ble_eq_true rfl, Nat.le_of_ble_eq_true rfl, (by show _ ≤ 930; omega), (by show _ ≤ 5580; omega)⟩ (Nat.le_of_ble_eq_true rfl) (by decide +kernel) rfl (fun v9 V9 hG H locs hw => ?_)
      obtain ⟨rfl, rfl⟩ := hG
      refine W.eq (g2 := F0 m 43 ls [.int (iI (cel (τ 4) (0 + (z / 4) * 6 + 0)))]) rfl ?_
      refine lv_iload_n hx hb (k := 1) (i := 1) (x := iI x) (by decide +kernel) rfl (lv_at hl 6 rfl) ?_
      refine lz_icmp_ne hx hb (a := (cel (τ 4) (0 + (z / 4) * 6 + 0))) (b := x) (off := 59) (tgt := 103) (by decide +kernel) (by decide) ⟨by omega, by omega⟩ ⟨by omega, by omega⟩ (fun h2 => ?_) (fun h2 => ?_)
      ·
        refine lv_iinc hx hb (i := 3) (n := 1) (v := iI (z + 1)) (lv' := [(3, .int (iI (z + 1))), (6, .int (iI (1 - ((z % 2) * 2)))), (5, .int (iI ((z / 2) % 2))), (4, .int (iI (z / 4))), (2, .int (iI v)), (0, .ref (ad 0)), (1, .int (iI x))]) (by decide +kernel) hl (k := 3) rfl (iI_add _ _) (by decide) rfl (fun ls hl => ?_)
        refine lv_goto hx hb (off := (-102)) (tgt := 4) (by decide +kernel) (by decide) ?_
        exact ih (j + 1) _ _ ls _ _ _ _ (by omega) (by omega) (msl_is hz hv rfl (Or.inr ⟨rfl, by omega⟩)) (by omega) (by omega) (lv_sub hl [0, 4, 5, 6] rfl) hw
      ·
        refine lv_aload_n hx hb (k := 0) (i := 0) (x := ad 0) (by decide +kernel) rfl (lv_at hl 5 rfl) ?_
        refine lv_iload hx hb (i := 4) (x := iI (z / 4)) (by decide +kernel) (lv_at hl 2 rfl) ?_
        refine lv_iload hx hb (i := 5) (x := iI ((z / 2) % 2)) (by decide +kernel) (lv_at hl 1 rfl) ?_
        refine lv_iload hx hb (i := 6) (x := iI (1 - ((z % 2) * 2))) (by decide +kernel) (lv_at hl 0 rfl) ?_
        refine lk_call (x := 194) (rest := []) (as := [.ref (ad 0), .int (iI (z / 4)), .int (iI ((z / 2) % 2)), .int (iI (1 - ((z % 2) * 2)))]) (n := 4) F hw hl.1 (K_hinders (X := X) (τ := τ) (f := (z / 4)) (r := ((z / 2) % 2)) (d := (1 - ((z % 2) * 2))) (B := B) F.l0 (by omega) (by omega) (by omega) hI) (lr50 7 rfl) (lr50 8 rfl) (lr50 9 rfl) (lr50 6 rfl) ⟨rfl, by decide, by decide, by decide +kernel⟩ rfl ⟨Nat.le_of_ble_eq_true rfl, Nat.le_of_ble_eq_true rfl, (by show _ ≤ 930; omega), (by show _ ≤ 5580; omega)⟩ (Nat.le_of_ble_eq_true rfl) (by decide +kernel) rfl (fun v9 V9 hG H locs hw => ?_)
        obtain ⟨rfl, rfl⟩ := hG
        refine W.eq (g2 := F0 m 57 ls [.int (iI (hnd (τ 4) (z / 4) ((z / 2) % 2) (1 - ((z % 2) * 2))))]) rfl ?_
        have hhb := hnd_b hS (f := z / 4) (r := (z / 2) % 2) (s := 1 - ((z % 2) * 2)) ⟨by omega, by omega⟩ (by omega) (by omega)
        refine lz_if_ne hx hb (a := (hnd (τ 4) (z / 4) ((z / 2) % 2) (1 - ((z % 2) * 2)))) (off := 46) (tgt := 103) (by decide +kernel) (by decide) ⟨by omega, by omega⟩ (fun h3 => ?_) (fun h3 => ?_)
        ·
          refine lv_iinc hx hb (i := 3) (n := 1) (v := iI (z + 1)) (lv' := [(3, .int (iI (z + 1))), (6, .int (iI (1 - ((z % 2) * 2)))), (5, .int (iI ((z / 2) % 2))), (4, .int (iI (z / 4))), (2, .int (iI v)), (0, .ref (ad 0)), (1, .int (iI x))]) (by decide +kernel) hl (k := 3) rfl (iI_add _ _) (by decide) rfl (fun ls hl => ?_)
          refine lv_goto hx hb (off := (-102)) (tgt := 4) (by decide +kernel) (by decide) ?_
          exact ih (j + 1) _ _ ls _ _ _ _ (by omega) (by omega) (msl_is hz hv rfl (Or.inr ⟨rfl, by omega⟩)) (by omega) (by omega) (lv_sub hl [0, 4, 5, 6] rfl) hw
        ·
          refine lv_aload_n hx hb (k := 0) (i := 0) (x := ad 0) (by decide +kernel) rfl (lv_at hl 5 rfl) ?_
          refine lv_iload hx hb (i := 4) (x := iI (z / 4)) (by decide +kernel) (lv_at hl 2 rfl) ?_
          refine lv_iload hx hb (i := 5) (x := iI ((z / 2) % 2)) (by decide +kernel) (lv_at hl 1 rfl) ?_
          refine lv_iload hx hb (i := 6) (x := iI (1 - ((z % 2) * 2))) (by decide +kernel) (lv_at hl 0 rfl) ?_
          refine lk_call (x := 197) (rest := []) (as := [.ref (ad 0), .int (iI (z / 4)), .int (iI ((z / 2) % 2)), .int (iI (1 - ((z % 2) * 2)))]) (n := 4) F hw hl.1 (K_kind (X := X) (τ := τ) (f := (z / 4)) (r := ((z / 2) % 2)) (d := (1 - ((z % 2) * 2))) (B := B) F.l0 (by omega) (by omega) (by omega) hI (by omega)) (lr50 10 rfl) (lr50 11 rfl) (lr50 12 rfl) (lr50 6 rfl) ⟨rfl, by decide, by decide, by decide +kernel⟩ rfl ⟨Nat.le_of_ble_eq_true rfl, Nat.le_of_ble_eq_true rfl, (by show _ ≤ 930; omega), (by show _ ≤ 5580; omega)⟩ (Nat.le_of_ble_eq_true rfl) (by decide +kernel) rfl (fun v9 V9 hG H locs hw => ?_)
          obtain ⟨rfl, rfl⟩ := hG
          refine W.eq (g2 := F0 m 70 ls [.int (iI (oco (τ 4) (z / 4) ((z / 2) % 2) (1 - ((z % 2) * 2))))]) rfl ?_
          refine lv_iconst hx hb (n := 3) (v := iI 3) (by decide +kernel) rfl ?_
          refine lz_icmp_ne hx hb (a := (oco (τ 4) (z / 4) ((z / 2) % 2) (1 - ((z % 2) * 2)))) (b := 3) (off := 32) (tgt := 103) (by decide +kernel) (by decide) ⟨by omega, by omega⟩ ⟨by decide, by decide⟩ (fun h4 => ?_) (fun h4 => ?_)
          ·
            refine lv_iinc hx hb (i := 3) (n := 1) (v := iI (z + 1)) (lv' := [(3, .int (iI (z + 1))), (6, .int (iI (1 - ((z % 2) * 2)))), (5, .int (iI ((z / 2) % 2))), (4, .int (iI (z / 4))), (2, .int (iI v)), (0, .ref (ad 0)), (1, .int (iI x))]) (by decide +kernel) hl (k := 3) rfl (iI_add _ _) (by decide) rfl (fun ls hl => ?_)
            refine lv_goto hx hb (off := (-102)) (tgt := 4) (by decide +kernel) (by decide) ?_
            exact ih (j + 1) _ _ ls _ _ _ _ (by omega) (by omega) (msl_is hz hv rfl (Or.inr ⟨rfl, by omega⟩)) (by omega) (by omega) (lv_sub hl [0, 4, 5, 6] rfl) hw
          ·
            refine lv_iload_n hx hb (k := 2) (i := 2) (x := iI v) (by decide +kernel) rfl (lv_at hl 4 rfl) ?_
            refine lv_iconst hx hb (n := 1) (v := iI 1) (by decide +kernel) rfl ?_
            refine lv_aload_n hx hb (k := 0) (i := 0) (x := ad 0) (by decide +kernel) rfl (lv_at hl 5 rfl) ?_
            refine lv_aload_n hx hb (k := 0) (i := 0) (x := ad 0) (by decide +kernel) rfl (lv_at hl 5 rfl) ?_
            refine lv_iload hx hb (i := 5) (x := iI ((z / 2) % 2)) (by decide +kernel) (lv_at hl 1 rfl) ?_
            refine lv_aload_n hx hb (k := 0) (i := 0) (x := ad 0) (by decide +kernel) rfl (lv_at hl 5 rfl) ?_
            refine lv_iload hx hb (i := 4) (x := iI (z / 4)) (by decide +kernel) (lv_at hl 2 rfl) ?_
            refine lv_iload hx hb (i := 5) (x := iI ((z / 2) % 2)) (by decide +kernel) (lv_at hl 1 rfl) ?_
            have hn3 := hnx (by omega)
            have hk3 := hkb _ hn3.2.1 hn3.2.2
            refine lk_call (x := 166) (rest := [.int (iI ((z / 2) % 2)), .ref (ad 0), .ref (ad 0), .int (iI 1), .int (iI v)]) (as := [.ref (ad 0), .int (iI (z / 4)), .int (iI ((z / 2) % 2))]) (n := 3) F hw hl.1 (K_placeOf (X := X) (τ := τ) (f := (z / 4)) (r := ((z / 2) % 2)) (B := B) F.l0 (by omega) (by omega) hS) (lr50 13 rfl) (lr50 14 rfl) (lr50 15 rfl) (lr50 6 rfl) ⟨rfl, by decide, by decide, by decide +kernel⟩ rfl ⟨Nat.le_of_ble_eq_true rfl, Nat.le_of_ble_eq_true rfl, (by show _ ≤ 930; omega), (by show _ ≤ 5580; omega)⟩ (Nat.le_of_ble_eq_true rfl) (by decide +kernel) rfl (fun v9 V9 hG H locs hw => ?_)
            obtain ⟨rfl, rfl⟩ := hG
            refine W.eq (g2 := F0 m 88 ls [.int (iI (cel (τ 4) (0 + (z / 4) * 6 + (1 + ((z / 2) % 2))))), .int (iI ((z / 2) % 2)), .ref (ad 0), .ref (ad 0), .int (iI 1), .int (iI v)]) rfl ?_
            refine lv_iload hx hb (i := 6) (x := iI (1 - ((z % 2) * 2))) (by decide +kernel) (lv_at hl 0 rfl) ?_
            refine lz_iadd hx hb (a := (cel (τ 4) (0 + (z / 4) * 6 + (1 + ((z / 2) % 2))))) (b := (1 - ((z % 2) * 2))) (by decide +kernel) ?_
            refine lk_callH (x := 171) (rest := [.ref (ad 0), .int (iI 1), .int (iI v)]) (as := [.ref (ad 0), .int (iI ((z / 2) % 2)), .int (iI ((cel (τ 4) (0 + (z / 4) * 6 + (1 + ((z / 2) % 2)))) + (1 - ((z % 2) * 2))))]) (n := 3) F hw hl.1 (K_at (X := X) (τ := τ) (r := ((z / 2) % 2)) (p := ((cel (τ 4) (0 + (z / 4) * 6 + (1 + ((z / 2) % 2)))) + (1 - ((z % 2) * 2)))) F.l0 (by omega) (by omega)) (lr50 16 rfl) (lr50 17 rfl) (lr50 18 rfl) (lr50 6 rfl) ⟨by decide, by decide, by decide +kernel⟩ rfl ⟨Nat.le_of_ble_eq_true rfl, Nat.le_of_ble_eq_true rfl, (by show _ ≤ 930; omega), (by show _ ≤ 5580; omega)⟩ (Nat.le_of_ble_eq_true rfl) (by decide +kernel) rfl (fun v9 V9 hG H locs hw => ?_)
            obtain ⟨rfl, rfl⟩ := hG
            refine W.eq (g2 := F0 m 94 ls [.int (iI (whz (τ 4) ((z / 2) % 2) ((cel (τ 4) (0 + (z / 4) * 6 + (1 + ((z / 2) % 2)))) + (1 - ((z % 2) * 2))))), .ref (ad 0), .int (iI 1), .int (iI v)]) rfl ?_
            refine lv_iconst hx hb (n := 3) (v := iI 3) (by decide +kernel) rfl ?_
            refine lk_callH (x := 163) (rest := [.int (iI 1), .int (iI v)]) (as := [.ref (ad 0), .int (iI (whz (τ 4) ((z / 2) % 2) ((cel (τ 4) (0 + (z / 4) * 6 + (1 + ((z / 2) % 2)))) + (1 - ((z % 2) * 2))))), .int (iI 3)]) (n := 3) F hw hl.1 (K_of (X := X) (τ := τ) (f := (whz (τ 4) ((z / 2) % 2) ((cel (τ 4) (0 + (z / 4) * 6 + (1 + ((z / 2) % 2)))) + (1 - ((z % 2) * 2))))) (w := 3) (B := B) F.l0 (by omega) (by omega) hS) (lr50 3 rfl) (lr50 4 rfl) (lr50 5 rfl) (lr50 6 rfl) ⟨by decide, by decide, by decide +kernel⟩ rfl ⟨Nat.le_of_ble_eq_true rfl, Nat.le_of_ble_eq_true rfl, (by show _ ≤ 930; omega), (by show _ ≤ 5580; omega)⟩ (Nat.le_of_ble_eq_true rfl) (by decide +kernel) rfl (fun v9 V9 hG H locs hw => ?_)
            obtain ⟨rfl, rfl⟩ := hG
            refine W.eq (g2 := F0 m 98 ls [.int (iI (cel (τ 4) (0 + (whz (τ 4) ((z / 2) % 2) ((cel (τ 4) (0 + (z / 4) * 6 + (1 + ((z / 2) % 2)))) + (1 - ((z % 2) * 2)))) * 6 + 3))), .int (iI 1), .int (iI v)]) rfl ?_
            refine lz_iadd hx hb (a := 1) (b := (cel (τ 4) (0 + (whz (τ 4) ((z / 2) % 2) ((cel (τ 4) (0 + (z / 4) * 6 + (1 + ((z / 2) % 2)))) + (1 - ((z % 2) * 2)))) * 6 + 3))) (by decide +kernel) ?_
            refine lz_max (x := 220) F hl.1 (a := v) (b := (1 + (cel (τ 4) (0 + (whz (τ 4) ((z / 2) % 2) ((cel (τ 4) (0 + (z / 4) * 6 + (1 + ((z / 2) % 2)))) + (1 - ((z % 2) * 2)))) * 6 + 3)))) (rest := []) (lr50 19 rfl) (Nat.le_of_ble_eq_true rfl) (Nat.le_of_ble_eq_true rfl) (Nat.le_of_ble_eq_true rfl) (by show _ ≤ 930; omega) (by show _ ≤ 5580; omega) ⟨by omega, by omega⟩ ⟨by omega, by omega⟩ (by decide +kernel) ?_
            refine lv_istore_n hx hb (k := 2) (i := 2) (lv' := [(2, .int (iI (if v < (1 + (cel (τ 4) (0 + (whz (τ 4) ((z / 2) % 2) ((cel (τ 4) (0 + (z / 4) * 6 + (1 + ((z / 2) % 2)))) + (1 - ((z % 2) * 2)))) * 6 + 3))) then (1 + (cel (τ 4) (0 + (whz (τ 4) ((z / 2) % 2) ((cel (τ 4) (0 + (z / 4) * 6 + (1 + ((z / 2) % 2)))) + (1 - ((z % 2) * 2)))) * 6 + 3))) else v))), (6, .int (iI (1 - ((z % 2) * 2)))), (5, .int (iI ((z / 2) % 2))), (4, .int (iI (z / 4))), (3, .int (iI z)), (0, .ref (ad 0)), (1, .int (iI x))]) (by decide +kernel) rfl hl (by decide) rfl (fun ls hl => ?_)
            refine lv_iinc hx hb (i := 3) (n := 1) (v := iI (z + 1)) (lv' := [(3, .int (iI (z + 1))), (2, .int (iI (if v < (1 + (cel (τ 4) (0 + (whz (τ 4) ((z / 2) % 2) ((cel (τ 4) (0 + (z / 4) * 6 + (1 + ((z / 2) % 2)))) + (1 - ((z % 2) * 2)))) * 6 + 3))) then (1 + (cel (τ 4) (0 + (whz (τ 4) ((z / 2) % 2) ((cel (τ 4) (0 + (z / 4) * 6 + (1 + ((z / 2) % 2)))) + (1 - ((z % 2) * 2)))) * 6 + 3))) else v))), (6, .int (iI (1 - ((z % 2) * 2)))), (5, .int (iI ((z / 2) % 2))), (4, .int (iI (z / 4))), (0, .ref (ad 0)), (1, .int (iI x))]) (by decide +kernel) hl (k := 4) rfl (iI_add _ _) (by decide) rfl (fun ls hl => ?_)
            refine lv_goto hx hb (off := (-102)) (tgt := 4) (by decide +kernel) (by decide) ?_
            exact ih (j + 1) _ _ ls _ _ _ _ (by omega) (by omega) (msl_is hz hv rfl (Or.inl ⟨by omega, by omega, by omega⟩)) (by omega) (by omega) (lv_sub hl [0, 1, 5, 6] rfl) hw
  exact loop (4 * N) 0 _ _ ls _ _ _ _ (by omega) rfl rfl (by omega) (by omega) hl hw
end MST
