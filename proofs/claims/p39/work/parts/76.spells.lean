/-! a text is the line that was written: printed by wip/p39/db76.py -/
section SPL
variable {l : Launch} {D : va_G} {A : Nat → Prop} {ad adV : Nat → Nat} {cA : Nat → ClassId}
def lr76W : List Jvm.Cond := [.methodLink RL 249 yL_character,
  .static yL_character,
  .codeWith yL_character method_26_code 3 (some .int) [(0, 5, 6, 22)],
  .initialized RL]
theorem lr76_in : ∀ w ∈ lr76W, w ∈ lw_tbl := by decide +kernel
theorem lr76 (k : Nat) {w : Jvm.Cond} (h : lr76W[k]? = some w) : w ∈ lw_tbl := lr76_in w (List.mem_of_getElem? h)
theorem K_spells {X T : va_W} {τ : SZ} {h : List (Nat → Int)} {B : Int} {q v : Nat} {TL : List Int} (hl0 : l.stackTraces = false) (C : CV B τ h) (ht : TX ad adV cA T q v TL) (hL : τ 19 1 = (TL.length : Int)) (hch : ∀ i, i < TL.length → τ 20 i = TL.getD i 0) : LK l D A ad adV cA (.code yL_spells method_42_code 5 (some .boolean)) yL_spells 23 16 96 [.ref (ad 0), .int (iI (TL.length : Int)), .ref q] (wO ad cA (sz τ) ++ (X ++ T)) (RV ad cA (X ++ T) 1 τ) := by
  refine lk_of hl0 rfl ?_ (Nat.le_of_ble_eq_true rfl)
  rintro p e s m args below meth c F hlk hrt hw ls hl
  have hl : lv_has ls 5 [(0, .ref (ad 0)), (1, .int (iI (TL.length : Int))), (2, .ref q)] := hl
  have hx := F.1
  have hb := F.2.1
  have h12 := C.2.2.2.2.2.2.1
  have hok := ht.ok
  refine lv_iload_n hx hb (k := 1) (i := 1) (x := iI (TL.length : Int)) (by decide +kernel) rfl (lv_at hl 1 rfl) ?_
  refine lv_aload_n hx hb (k := 2) (i := 2) (x := q) (by decide +kernel) rfl (lv_at hl 2 rfl) ?_
  refine sl_len F hw hl.1 ht (fun x hx => List.mem_append_right _ (List.mem_append_right _ hx)) ⟨by decide, by decide, by show _ ≤ 16; omega, by show _ ≤ 96; omega⟩ (Nat.le_of_ble_eq_true rfl) (by decide +kernel) (fun H locs hw => ?_)
  refine lz_icmp_ne hx hb (a := (TL.length : Int)) (b := (TL.length : Int)) (off := 7) (tgt := 12) (by decide +kernel) (by decide) ⟨by omega, by omega⟩ ⟨by omega, by omega⟩ (fun h9 => absurd h9 (by omega)) (fun _ => ?_)
  refine lv_iconst hx hb (n := 1) (v := iI 1) (by decide +kernel) rfl ?_
  refine lv_goto hx hb (off := 4) (tgt := 13) (by decide +kernel) (by decide) ?_
  refine lv_istore_n hx hb (k := 3) (i := 3) (lv' := [(3, .int (iI 1)), (0, .ref (ad 0)), (1, .int (iI (TL.length : Int))), (2, .ref q)]) (by decide +kernel) rfl hl (by decide) rfl (fun ls hl => ?_)
  refine lv_iconst hx hb (n := 0) (v := iI 0) (by decide +kernel) rfl ?_
  refine lv_istore hx hb (i := 4) (lv' := [(4, .int (iI 0)), (3, .int (iI 1)), (0, .ref (ad 0)), (1, .int (iI (TL.length : Int))), (2, .ref q)]) (by decide +kernel) hl (by decide) rfl (fun ls hl => ?_)
  have loop : ∀ (j k : Nat) (z : Int) (ls : Array Slot) (H : Heap) (locs : List Loc) (cl sl : Nat), k + j = TL.length → z = (k : Int) → cl ≤ k → sl ≤ 6 * k → lv_has ls 5 [(4, .int (iI z)), (3, .int (iI 1)), (0, .ref (ad 0)), (1, .int (iI (TL.length : Int))), (2, .ref q)] → WV D A s (wO ad cA (sz τ) ++ (X ++ T)) H locs → W p l e (rmK 23 16 96) s m args below meth c H locs cl sl (vx_MQ below (LQ D A (RV ad cA (X ++ T) 1 τ)) (fun _ _ _ => False) args s 16 96 A) (F0 m 17 ls []) := by
    intro j
    induction j with
    | zero =>
      intro k z ls H locs cl sl hk hz hcl hsl hl hw
      refine lv_iload hx hb (i := 4) (x := iI z) (by decide +kernel) (lv_at hl 0 rfl) ?_
      refine lv_aload_n hx hb (k := 2) (i := 2) (x := q) (by decide +kernel) rfl (lv_at hl 4 rfl) ?_
      refine sl_len F hw hl.1 ht (fun x hx => List.mem_append_right _ (List.mem_append_right _ hx)) ⟨by decide, by decide, by show _ ≤ 16; omega, by show _ ≤ 96; omega⟩ (Nat.le_of_ble_eq_true rfl) (by decide +kernel) (fun H locs hw => ?_)
      refine lz_icmp_ge hx hb (a := z) (b := (TL.length : Int)) (off := 34) (tgt := 57) (by decide +kernel) (by decide) ⟨by omega, by omega⟩ ⟨by omega, by omega⟩ (fun _ => ?_) (fun h9 => absurd (by omega) h9)
      refine lv_iload_n hx hb (k := 3) (i := 3) (x := iI 1) (by decide +kernel) rfl (lv_at hl 1 rfl) ?_
      refine lz_if_eq hx hb (a := 1) (off := 17) (tgt := 75) (by decide +kernel) (by decide) ⟨by decide, by decide⟩ (fun h9 => absurd h9 (by decide)) (fun _ => ?_)
      refine lv_aload_n hx hb (k := 0) (i := 0) (x := ad 0) (by decide +kernel) rfl (lv_at hl 2 rfl) ?_
      refine lv_iload_n hx hb (k := 1) (i := 1) (x := iI (TL.length : Int)) (by decide +kernel) rfl (lv_at hl 3 rfl) ?_
      refine lk_callH (x := 249) (rest := []) (as := [.ref (ad 0), .int (iI (TL.length : Int))]) (n := 2) F hw hl.1 ((L_character (X := X ++ T) (τ := τ) (z := (TL.length : Int)) F.l0 ⟨by omega, by omega⟩ C.2.2.2.2.2.2.1 C.2.2.2.2.2.2.2).to (k' := (-11)) (if_neg (by omega))) (lr76 0 rfl) (lr76 1 rfl) (lr76 2 rfl) (lr76 3 rfl) ⟨by decide, by decide, by decide +kernel⟩ rfl ⟨Nat.le_of_ble_eq_true rfl, Nat.le_of_ble_eq_true rfl, (by show _ ≤ 16; omega), (by show _ ≤ 96; omega)⟩ (Nat.le_of_ble_eq_true rfl) (by decide +kernel) rfl (fun v9 V9 hG H locs hw => ?_)
      obtain ⟨rfl, rfl⟩ := hG
      refine W.eq (g2 := F0 m 66 ls [.int (iI (-11))]) rfl ?_
      refine lv_bipush hx hb (n := (-11)) (v := iI (-11)) (by decide +kernel) (by decide) ?_
      refine lz_icmp_ne hx hb (a := (-11)) (b := (-11)) (off := 7) (tgt := 75) (by decide +kernel) (by decide) ⟨by decide, by decide⟩ ⟨by decide, by decide⟩ (fun h9 => absurd h9 (by decide)) (fun _ => ?_)
      refine lv_iconst hx hb (n := 1) (v := iI 1) (by decide +kernel) rfl ?_
      refine lv_goto hx hb (off := 4) (tgt := 76) (by decide +kernel) (by decide) ?_
      exact lk_iret F hlk hrt hw rfl ⟨rfl, rfl⟩ (by omega) (by omega) (by decide +kernel)
    | succ j ih =>
      intro k z ls H locs cl sl hk hz hcl hsl hl hw
      subst hz
      have hcb := hok.1 _ (getD_in (L := TL) (k := k) (by omega))
      refine lv_iload hx hb (i := 4) (x := iI (k : Int)) (by decide +kernel) (lv_at hl 0 rfl) ?_
      refine lv_aload_n hx hb (k := 2) (i := 2) (x := q) (by decide +kernel) rfl (lv_at hl 4 rfl) ?_
      refine sl_len F hw hl.1 ht (fun x hx => List.mem_append_right _ (List.mem_append_right _ hx)) ⟨by decide, by decide, by show _ ≤ 16; omega, by show _ ≤ 96; omega⟩ (Nat.le_of_ble_eq_true rfl) (by decide +kernel) (fun H locs hw => ?_)
      refine lz_icmp_ge hx hb (a := (k : Int)) (b := (TL.length : Int)) (off := 34) (tgt := 57) (by decide +kernel) (by decide) ⟨by omega, by omega⟩ ⟨by omega, by omega⟩ (fun h9 => absurd h9 (by omega)) (fun _ => ?_)
      refine lv_iload_n hx hb (k := 3) (i := 3) (x := iI 1) (by decide +kernel) rfl (lv_at hl 1 rfl) ?_
      refine lz_if_eq hx hb (a := 1) (off := 30) (tgt := 57) (by decide +kernel) (by decide) ⟨by decide, by decide⟩ (fun h9 => absurd h9 (by decide)) (fun _ => ?_)
      refine lv_aload_n hx hb (k := 0) (i := 0) (x := ad 0) (by decide +kernel) rfl (lv_at hl 2 rfl) ?_
      refine lv_iload hx hb (i := 4) (x := iI (k : Int)) (by decide +kernel) (lv_at hl 0 rfl) ?_
      refine lk_callH (x := 249) (rest := []) (as := [.ref (ad 0), .int (iI (k : Int))]) (n := 2) F hw hl.1 ((L_character (X := X ++ T) (τ := τ) (z := (k : Int)) F.l0 ⟨by omega, by omega⟩ C.2.2.2.2.2.2.1 C.2.2.2.2.2.2.2).to (k' := TL.getD k 0) (by unfold A_character; rw [if_pos ⟨by omega, by omega⟩, Int.toNat_natCast]; exact hch k (by omega))) (lr76 0 rfl) (lr76 1 rfl) (lr76 2 rfl) (lr76 3 rfl) ⟨by decide, by decide, by decide +kernel⟩ rfl ⟨Nat.le_of_ble_eq_true rfl, Nat.le_of_ble_eq_true rfl, (by show _ ≤ 16; omega), (by show _ ≤ 96; omega)⟩ (Nat.le_of_ble_eq_true rfl) (by decide +kernel) rfl (fun v9 V9 hG H locs hw => ?_)
      obtain ⟨rfl, rfl⟩ := hG
      refine W.eq (g2 := F0 m 36 ls [.int (iI (TL.getD k 0))]) rfl ?_
      refine lv_aload_n hx hb (k := 2) (i := 2) (x := q) (by decide +kernel) rfl (lv_at hl 4 rfl) ?_
      refine lv_iload hx hb (i := 4) (x := iI (k : Int)) (by decide +kernel) (lv_at hl 0 rfl) ?_
      refine sl_chr F hw hl.1 ht (fun x hx => List.mem_append_right _ (List.mem_append_right _ hx)) (i := k) (by omega) (by omega) ⟨by decide, by decide, by show _ ≤ 16; omega, by show _ ≤ 96; omega⟩ (Nat.le_of_ble_eq_true rfl) (by decide +kernel) (fun H locs hw => ?_)
      refine lz_icmp_ne hx hb (a := (TL.getD k 0)) (b := (TL.getD k 0)) (off := 7) (tgt := 49) (by decide +kernel) (by decide) ⟨by omega, by omega⟩ ⟨by omega, by omega⟩ (fun h9 => absurd h9 (by omega)) (fun _ => ?_)
      refine lv_iconst hx hb (n := 1) (v := iI 1) (by decide +kernel) rfl ?_
      refine lv_goto hx hb (off := 4) (tgt := 50) (by decide +kernel) (by decide) ?_
      refine lv_istore_n hx hb (k := 3) (i := 3) (lv' := [(3, .int (iI 1)), (4, .int (iI (k : Int))), (0, .ref (ad 0)), (1, .int (iI (TL.length : Int))), (2, .ref q)]) (by decide +kernel) rfl hl (by decide) rfl (fun ls hl => ?_)
      refine lv_iinc hx hb (i := 4) (n := 1) (v := iI ((k : Int) + 1)) (lv' := [(4, .int (iI ((k : Int) + 1))), (3, .int (iI 1)), (0, .ref (ad 0)), (1, .int (iI (TL.length : Int))), (2, .ref q)]) (by decide +kernel) hl (k := 1) rfl (iI_add _ _) (by decide) rfl (fun ls hl => ?_)
      refine lv_goto hx hb (off := (-37)) (tgt := 17) (by decide +kernel) (by decide) ?_
      exact ih (k + 1) _ ls _ _ _ _ (by omega) (by omega) (by omega) (by omega) (lv_sub hl [0, 1, 2, 3, 4] rfl) hw
  exact loop TL.length 0 0 ls _ _ _ _ (by omega) rfl (by omega) (by omega) (lv_sub hl [0, 1, 2, 3, 4] rfl) hw
end SPL
