/-! builders: printed by wip/p39/db70.py -/
section JB3
variable {p : Program} {l : Launch} {e : Env} {R : Room} {s : State} {m : MethodId} {args : Array Value} {below : List Frame} {meth : Method} {c : Code} {H : Heap} {locs : List Loc} {cells slots : Nat} {Q : State → Prop}
variable {D : va_G} {A : Nat → Prop} {ad adV : Nat → Nat} {cA : Nat → ClassId} {S : List (Nat × Nat × List Int)} {own : String} {cc : ByteArray} {nL0 : Nat}
/-- a builder's two cells: its fields, its array -/
abbrev BW (cA : Nat → ClassId) (b v n : Nat) (L : List Int) : va_W := [(b, .inr (8, [.ref v, .int (iI 0), .int (iI 0), .int (iI (L.length : Int))])), (v, .inl (cA 4, n, .inl (chs L)))]
/-- its capacity when so many are wanted -/
def capn (n : Nat) (z : Int) : Nat := if z ≤ (n : Int) then n else 2 * n + 2
theorem capn_1 {n : Nat} {z : Int} (h : z ≤ (n : Int)) : capn n z = n := if_pos h
theorem capn_2 {n : Nat} {z : Int} (h : ¬ z ≤ (n : Int)) : capn n z = 2 * n + 2 := if_neg h
theorem capn_ge {n : Nat} {z : Int} (h : 0 ≤ z) (h2 : z ≤ (n : Int) ∨ z ≤ 2 * (n : Int) + 2) : z ≤ (capn n z : Int) := by
  unfold capn
  split <;> omega
theorem chs_app {L M : List Int} : chs (L ++ M) = va_cpy (chs M) (chs L) 0 L.length M.length := by
  funext i
  unfold va_cpy chs
  by_cases h : L.length ≤ i ∧ i < L.length + M.length
  · rw [if_pos h, List.getD_eq_getElem?_getD, List.getElem?_append_right h.1, Nat.zero_add, ← List.getD_eq_getElem?_getD]
  · rw [if_neg h]
    by_cases h1 : i < L.length
    · rw [List.getD_eq_getElem?_getD, List.getElem?_append_left h1, ← List.getD_eq_getElem?_getD]
    · rw [List.getD_eq_getElem?_getD, List.getD_eq_getElem?_getD, List.getElem?_eq_none (by rw [List.length_append]; omega), List.getElem?_eq_none (by omega)]
theorem chs_snoc {L : List Int} {x : Int} : chs (L ++ [x]) = upd (chs L) L.length (iI x) := by
  funext i
  rw [chs_app]
  unfold va_cpy upd
  by_cases h : i = L.length
  · subst h
    rw [if_pos ⟨Nat.le_refl _, by rw [List.length_singleton]; omega⟩, if_pos rfl, Nat.sub_self]
    rfl
  · rw [if_neg (by rw [List.length_singleton]; omega), if_neg h]
theorem jb_copyt {k1 b t n1 N x pc sp' dp' n' : Nat} {f g : Nat → Int32} {sp dp n : Int} {ls : Array Slot} {rest : List Value} {V : va_W} (F : FJ own D A ad adV cA S p s m args c cc nL0) (hw : WV D A s V H locs) (hl : ls.size = nL0) (hT : va_T .byte t N (fun j => .int (f j)) A s s.heap) (h1 : V[k1]? = some (b, .inl (cA 4, n1, .inl g))) (e1 : sp = (sp' : Int)) (e2 : dp = (dp' : Int)) (e3 : n = (n' : Int))
    (hlink : Jvm.Cond.methodLink own x arraycopyName ∈ lw_tbl) (q0 : sp' < 1000 ∧ dp' < 1000 ∧ n' < 1000) (q1 : sp' + n' ≤ N) (q2 : dp' + n' ≤ n1) (hfit : ∀ i, i < n' → fits .byte (.int (f (sp' + i))) = true) (hf : 1 ≤ R.frames) (hlo : (rest.map fun v => v.category).sum + (nativeFrameWords "java/lang/System" "arraycopy" 5 + 11) ≤ R.locals) (hd : decode cc pc = .ok (.invokestatic x, 3))
    (kk : ∀ (H1 : Heap) (locs1 : List Loc), WV D A s (V.set k1 (b, .inl (cA 4, n1, .inl (va_cpy f g sp' dp' n')))) H1 locs1 → W p l e R s m args below meth c H1 locs1 cells slots Q (F0 m (pc + 3) ls rest)) : W p l e R s m args below meth c H locs cells slots Q (F0 m pc ls (.int (iI n) :: .int (iI dp) :: .ref b :: .int (iI sp) :: .ref t :: rest)) := by
  subst e1 e2 e3
  obtain ⟨u1, v1⟩ := iI_clamp (z := (sp' : Int)) ⟨by omega, by omega⟩
  obtain ⟨u2, v2⟩ := iI_clamp (z := (dp' : Int)) ⟨by omega, by omega⟩
  obtain ⟨u3, v3⟩ := iI_clamp (z := (n' : Int)) ⟨by omega, by omega⟩
  rw [Int.toNat_natCast] at u1 u2 u3
  refine vk_copyt F.1 F.2.1 (F.2.2.1.trans hl.symm) F.2.2.2.1 (ts_of' F.2.2.2.2.1 hlink rfl) (ts_of' F.2.2.2.2.1 (lib_in _ (by decide)) rfl) (ts_of' F.2.2.2.2.1 (lib_in _ (by decide)) rfl) (ts_of' F.2.2.2.2.1 (lib_in _ (by decide)) rfl) F.2.2.2.2.2.1 hw.1 hw.2.1 hw.2.2 hT k1 4 h1 rfl v1 v2 v3 (by rw [u1, u3]; exact q1) (by rw [u2, u3]; exact q2) (by rw [u1, u3]; exact hfit) hf hlo hd (fun H1 locs1 a1 a2 a3 => ?_)
  rw [u1, u2, u3] at a1 a2
  exact kk H1 locs1 ⟨a1, a2, a3⟩
theorem jb_bast {k a n i pc : Nat} {f : Nat → Int32} {z x : Int} {rest : List Value} {ls : Array Slot} {V : va_W} (F : FJ own D A ad adV cA S p s m args c cc nL0) (hw : WV D A s V H locs) (hk : V[k]? = some (a, .inl (cA 4, n, .inl f))) (hz : z = (i : Int)) (hn : i < n ∧ n ≤ 1000) (hv : vp_nar .byte (iI x) = iI x) (hd : decode cc pc = .ok (.bastore, 1))
    (kk : ∀ (H1 : Heap) (locs1 : List Loc), WV D A s (V.set k (a, .inl (cA 4, n, .inl (upd f i (iI x))))) H1 locs1 → W p l e R s m args below meth c H1 locs1 cells slots Q (F0 m (pc + 1) ls rest)) : W p l e R s m args below meth c H locs cells slots Q (F0 m pc ls (.int (iI x) :: .int (iI z) :: .ref a :: rest)) := by
  subst hz
  obtain ⟨h1, h2⟩ := iI_in (z := (i : Int)) (n := n) ⟨by omega, by omega⟩ (by omega)
  rw [Int.toNat_natCast] at h2
  refine va_bast F.1 F.2.1 F.2.2.2.2.2.1 hw.1 hw.2.1 hw.2.2 k 4 hk rfl h1 hd (fun H1 locs1 a1 a2 a3 => ?_)
  rw [h2, hv] at a1 a2
  exact kk H1 locs1 ⟨a1, a2, a3⟩
def jw73W : List Jvm.Cond := [.fieldLink RAS 15 (TX9b 0).1 (TX9b 0).2.1 (TX9b 0).2.2.1,
  .fieldLink RAS 22 (TX9b 1).1 (TX9b 1).2.1 (TX9b 1).2.2.1,
  .methodLink RAS 104 jy2_newCapacity,
  .instanceMethod jy2_newCapacity,
  .initialized RAS,
  .code jy2_newCapacity prog_12_method_10_code 6 (some .int),
  .methodLink RAS 108 jy3_copyOf,
  .static jy3_copyOf,
  .initialized "java/util/Arrays",
  .code jy3_copyOf prog_36_method_121_code 3 (some (.array .byte)),
  .fieldLink RAS 18 RST "COMPACT_STRINGS" "Z",
  .methodLink RAS 40 jy5_coder,
  .instanceMethod jy5_coder,
  .initialized RST,
  .code jy5_coder prog_27_method_152_code 1 (some .byte),
  .selects RST jy5_coder jy5_coder,
  .methodLink RST 335 jy5_coder,
  .fieldLink RST 9 RST "value" "[B",
  .methodLink RST 212 arraycopyName,
  .methodLink RAS 397 jy12_inflateIfNeededFor,
  .instanceMethod jy12_inflateIfNeededFor,
  .code jy12_inflateIfNeededFor prog_12_method_71_code 2 (none),
  .methodLink RAS 399 jy13_getBytes,
  .instanceMethod jy13_getBytes,
  .code jy13_getBytes prog_27_method_147_code 4 (none),
  .selects RST jy13_getBytes jy13_getBytes,
  .methodLink RAS 32 jy7_length,
  .instanceMethod jy7_length,
  .code jy7_length prog_27_method_54_code 1 (some .int),
  .selects RST jy7_length jy7_length,
  .fieldLink RAS 79 (TX9b 3).1 (TX9b 3).2.1 (TX9b 3).2.2.1,
  .methodLink RAS 100 jy4_ensureCapacityInternal,
  .instanceMethod jy4_ensureCapacityInternal,
  .code jy4_ensureCapacityInternal prog_12_method_9_code 3 (none),
  .methodLink RAS 208 jy14_putStringAt,
  .instanceMethod jy14_putStringAt,
  .code jy14_putStringAt prog_12_method_73_code 3 (none),
  .methodLink RX9b 29 jy15_append,
  .instanceMethod jy15_append,
  .code jy15_append prog_12_method_22_code 3 (some (.object "java/lang/AbstractStringBuilder")),
  .superclass RX9b jy15_append.cls,
  .sameMethod jy15_append.cls jy15_append.cls jy15_append.name jy15_append.desc,
  .methodLink RAS 83 jy0_isLatin1,
  .instanceMethod jy0_isLatin1,
  .code jy0_isLatin1 prog_12_method_68_code 1 (some .boolean),
  .selects RX9b jy0_isLatin1 jy0_isLatin1,
  .methodLink RAS 191 jy17_canEncode,
  .static jy17_canEncode,
  .initialized "java/lang/StringLatin1",
  .code jy17_canEncode prog_29_method_3_code 1 (some .boolean),
  .methodLink RX9b 50 jy18_append,
  .instanceMethod jy18_append,
  .code jy18_append prog_12_method_31_code 2 (some (.object "java/lang/AbstractStringBuilder")),
  .superclass RX9b jy18_append.cls,
  .sameMethod jy18_append.cls jy18_append.cls jy18_append.name jy18_append.desc]
theorem jw73_in : ∀ w ∈ jw73W, w ∈ lw_tbl := by decide +kernel
theorem jw73 (k : Nat) {w : Jvm.Cond} (h : jw73W[k]? = some w) : w ∈ lw_tbl := jw73_in w (List.mem_of_getElem? h)
theorem j_ensure {b v n : Nat} {L : List Int} {z : Int} (hL : L.length ≤ n ∧ n ≤ 34) (hc : ∀ x ∈ L, 0 ≤ x ∧ x < 128) (hz : 0 ≤ z ∧ (z ≤ (n : Int) ∨ (z ≤ 2 * (n : Int) + 2 ∧ n ≤ 16))) : JM l D A ad adV cA S jy4_ensureCapacityInternal prog_12_method_9_code 3 (none) 3 1 34 [.ref b, .int (iI z)] ((BW cA b v n L)) (fun r V' => r = none ∧ ∃ v', V' = BW cA b v' (capn n z) L) := by
  refine jm_of (by decide) ?_ (Nat.le_of_ble_eq_true rfl)
  rintro p e s m args below meth c F hlk hrt hmn hw ls hl
  have hl : lv_has ls 3 [(0, .ref b), (1, .int (iI z))] := hl
  obtain ⟨hx, hb, hml, hown, hts, hK, hWX, hA, hDG, hSS⟩ := id F
  refine lv_aload_n hx hb (k := 0) (i := 0) (x := b) (by decide +kernel) rfl (lv_at hl 0 rfl) ?_
  refine jb_get (k := 0) (i := 0) (v := .ref v) F hw rfl (by decide) rfl (jw73 0 rfl) (by decide +kernel) ?_
  refine jb_alen (k := 1) F hw rfl (by decide +kernel) ?_
  refine lv_aload_n hx hb (k := 0) (i := 0) (x := b) (by decide +kernel) rfl (lv_at hl 0 rfl) ?_
  refine jb_get (k := 0) (i := 1) (v := .int (iI 0)) F hw rfl (by decide) rfl (jw73 1 rfl) (by decide +kernel) ?_
  refine lv_ishr hx hb (x := iI (n : Int)) (y := iI 0) (by decide +kernel) ?_
  rw [jsh_r]
  refine lv_istore_n hx hb (k := 2) (i := 2) (lv' := [(2, .int (iI (n : Int))), (0, .ref b), (1, .int (iI z))]) (by decide +kernel) rfl hl (by decide) rfl (fun ls hl => ?_)
  refine lv_iload_n hx hb (k := 1) (i := 1) (x := iI z) (by decide +kernel) rfl (lv_at hl 2 rfl) ?_
  refine lv_iload_n hx hb (k := 2) (i := 2) (x := iI (n : Int)) (by decide +kernel) rfl (lv_at hl 0 rfl) ?_
  refine lz_isub hx hb (a := z) (b := (n : Int)) (by decide +kernel) ?_
  refine lz_if_le hx hb (a := (z - (n : Int))) (off := 24) (tgt := 38) (by decide +kernel) (by decide) ⟨by omega, by omega⟩ (fun h1 => ?_) (fun h1 => ?_)
  ·
    exact jm_vret F hlk hrt hw ⟨rfl, v, by rw [capn_1 (by omega)]⟩ (by omega) (by omega) (by decide +kernel)
  ·
    refine lv_aload_n hx hb (k := 0) (i := 0) (x := b) (by decide +kernel) rfl (lv_at hl 1 rfl) ?_
    refine lv_aload_n hx hb (k := 0) (i := 0) (x := b) (by decide +kernel) rfl (lv_at hl 1 rfl) ?_
    refine jb_get (k := 0) (i := 0) (v := .ref v) F hw rfl (by decide) rfl (jw73 0 rfl) (by decide +kernel) ?_
    refine lv_aload_n hx hb (k := 0) (i := 0) (x := b) (by decide +kernel) rfl (lv_at hl 1 rfl) ?_
    refine lv_iload_n hx hb (k := 1) (i := 1) (x := iI z) (by decide +kernel) rfl (lv_at hl 2 rfl) ?_
    refine jm_V (C := RX9b) (b := b) (x := 104) (n := 1) (as := [.int (iI z)]) (rest := [.ref v, .ref b]) F hw hl.1 (j_newCap (k := 0) (j := 1) (z := z) rfl rfl ⟨by omega, by omega, by omega⟩) (va_recv (q := (RX9b, TX9b, 4)) hK hw.1 rfl (show _[0]? = _ from rfl)) (word_at (State.WarmedH.refl s) (Or.inl rfl) (hDG.2.2 _ (by decide))) (jw73 2 rfl) (jw73 3 rfl) (jw73 4 rfl) (jw73 5 rfl) ⟨by decide, by decide, by decide +kernel⟩ rfl ⟨Nat.le_of_ble_eq_true rfl, Nat.le_of_ble_eq_true rfl, by show _ ≤ 1; omega, by show _ ≤ 34; omega⟩ (Nat.le_of_ble_eq_true rfl) (by decide +kernel) rfl (fun v9 V9 hG H locs hw => ?_)
    obtain ⟨rfl, e9⟩ := hG
    rw [e9] at hw
    refine W.eq (g2 := F0 m 27 ls [.int (iI (2 * (n : Int) + 2)), .ref v, .ref b]) rfl ?_
    refine lv_aload_n hx hb (k := 0) (i := 0) (x := b) (by decide +kernel) rfl (lv_at hl 1 rfl) ?_
    refine jb_get (k := 0) (i := 1) (v := .int (iI 0)) F hw rfl (by decide) rfl (jw73 1 rfl) (by decide +kernel) ?_
    refine lv_ishl hx hb (x := iI (2 * (n : Int) + 2)) (y := iI 0) (by decide +kernel) ?_
    rw [jsh_l]
    refine jm_S (x := 108) (n := 2) (as := [.ref v, .int (iI (2 * (n : Int) + 2))]) (rest := [.ref b]) F hw hl.1 ((j_copyOf (V := BW cA b v n L) (j := 1) (N := 2 * n + 2) rfl ⟨hL.1, by omega, by omega⟩ hc).to (by rw [show ((2 * n + 2 : Nat) : Int) = 2 * (n : Int) + 2 by omega]) rfl) (jw73 6 rfl) (jw73 7 rfl) (jw73 8 rfl) (jw73 9 rfl) ⟨by decide, by decide, by decide +kernel⟩ rfl ⟨Nat.le_of_ble_eq_true rfl, Nat.le_of_ble_eq_true rfl, by show _ ≤ 1; omega, by show _ ≤ 34; omega⟩ (Nat.le_of_ble_eq_true rfl) (by decide +kernel) rfl (fun v9 V9 hG H locs hw => ?_)
    obtain ⟨q, rfl, e9⟩ := hG
    rw [e9] at hw
    refine W.eq (g2 := F0 m 35 ls [.ref q, .ref b]) rfl ?_
    refine jb_put (k := 0) (i := 0) (fs := [.ref v, .int (iI 0), .int (iI 0), .int (iI (L.length : Int))]) F hw rfl (by decide) rfl rfl rfl rfl (by show 0 < 4; decide) (jw73 0 rfl) (by decide +kernel) (fun H locs hw => ?_)
    have hw : WV D A s (BW cA b q (2 * n + 2) L) H locs := ⟨hw.1.sub [0, 2] rfl, hw.2.1.sub [0, 2] rfl rfl, hw.2.2⟩
    exact jm_vret F hlk hrt hw ⟨rfl, q, by rw [capn_2 (by omega)]⟩ (by omega) (by omega) (by decide +kernel)
theorem j_inflIf {b v n : Nat} {L : List Int} {q zv : Nat} {zL : List Int} (hz : (q, zv, zL) ∈ S) : JM l D A ad adV cA S jy12_inflateIfNeededFor prog_12_method_71_code 2 (none) 1 0 0 [.ref b, .ref q] ((BW cA b v n L)) (fun r V' => r = none ∧ V' = BW cA b v n L) := by
  refine jm_of (by decide) ?_ (Nat.le_of_ble_eq_true rfl)
  rintro p e s m args below meth c F hlk hrt hmn hw ls hl
  have hl : lv_has ls 2 [(0, .ref b), (1, .ref q)] := hl
  obtain ⟨hx, hb, hml, hown, hts, hK, hWX, hA, hDG, hSS⟩ := id F
  obtain ⟨zO, zco, zva, zar, zch, zle⟩ := (hSS _ hz).parts
  refine jb_cs F hw (jw73 10 rfl) (by decide +kernel) ?_
  refine lz_if_eq hx hb (a := 1) (off := 18) (tgt := 21) (by decide +kernel) (by decide) ⟨by decide, by decide⟩ (fun h9 => absurd h9 (by decide)) (fun _ => ?_)
  refine lv_aload_n hx hb (k := 0) (i := 0) (x := b) (by decide +kernel) rfl (lv_at hl 0 rfl) ?_
  refine jb_get (k := 0) (i := 1) (v := .int (iI 0)) F hw rfl (by decide) rfl (jw73 1 rfl) (by decide +kernel) ?_
  refine lv_aload_n hx hb (k := 1) (i := 1) (x := q) (by decide +kernel) rfl (lv_at hl 1 rfl) ?_
  refine jm_V (C := RST) (b := q) (x := 40) (n := 0) (as := []) (rest := [.int (iI 0)]) F hw hl.1 (j_scod hz) ((by obtain ⟨cell, g1, g2, g3, -⟩ := zO.keep hw.2.2.2.1; exact ⟨cell, g1, g2, g3⟩)) (ts_of' hts (jw73 15 rfl) rfl) (jw73 11 rfl) (jw73 12 rfl) (jw73 13 rfl) (jw73 14 rfl) ⟨by decide, by decide, by decide +kernel⟩ rfl ⟨Nat.le_of_ble_eq_true rfl, Nat.le_of_ble_eq_true rfl, by show _ ≤ 0; omega, by show _ ≤ 0; omega⟩ (Nat.le_of_ble_eq_true rfl) (by decide +kernel) rfl (fun v9 V9 hG H locs hw => ?_)
  obtain ⟨rfl, e9⟩ := hG
  rw [e9] at hw
  refine W.eq (g2 := F0 m 14 ls [.int (iI 0), .int (iI 0)]) rfl ?_
  refine lz_icmp_eq hx hb (a := 0) (b := 0) (off := 7) (tgt := 21) (by decide +kernel) (by decide) ⟨by decide, by decide⟩ ⟨by decide, by decide⟩ (fun _ => ?_) (fun h9 => absurd (by decide) h9)
  exact jm_vret F hlk hrt hw ⟨rfl, rfl⟩ (by omega) (by omega) (by decide +kernel)
theorem j_getBytes {b v n i : Nat} {L : List Int} {q zv : Nat} {zL : List Int} (hz : (q, zv, zL) ∈ S) (hi : i + zL.length ≤ n ∧ n ≤ 34) : JM l D A ad adV cA S jy13_getBytes prog_27_method_147_code 4 (none) 1 0 0 [.ref q, .ref v, .int (iI (i : Int)), .int (iI 0)] ((BW cA b v n L)) (fun r V' => r = none ∧ V' = [(b, .inr (8, [.ref v, .int (iI 0), .int (iI 0), .int (iI (L.length : Int))])), (v, .inl (cA 4, n, .inl (va_cpy (chs zL) (chs L) 0 i zL.length)))]) := by
  refine jm_of (by decide) ?_ (Nat.le_of_ble_eq_true rfl)
  rintro p e s m args below meth c F hlk hrt hmn hw ls hl
  have hl : lv_has ls 4 [(0, .ref q), (1, .ref v), (2, .int (iI (i : Int))), (3, .int (iI 0))] := hl
  obtain ⟨hx, hb, hml, hown, hts, hK, hWX, hA, hDG, hSS⟩ := id F
  obtain ⟨zO, zco, zva, zar, zch, zle⟩ := (hSS _ hz).parts
  refine lv_aload_n hx hb (k := 0) (i := 0) (x := q) (by decide +kernel) rfl (lv_at hl 0 rfl) ?_
  refine jm_V (C := RST) (b := q) (x := 335) (n := 0) (as := []) (rest := []) F hw hl.1 (j_scod hz) ((by obtain ⟨cell, g1, g2, g3, -⟩ := zO.keep hw.2.2.2.1; exact ⟨cell, g1, g2, g3⟩)) (ts_of' hts (jw73 15 rfl) rfl) (jw73 16 rfl) (jw73 12 rfl) (jw73 13 rfl) (jw73 14 rfl) ⟨by decide, by decide, by decide +kernel⟩ rfl ⟨Nat.le_of_ble_eq_true rfl, Nat.le_of_ble_eq_true rfl, by show _ ≤ 0; omega, by show _ ≤ 0; omega⟩ (Nat.le_of_ble_eq_true rfl) (by decide +kernel) rfl (fun v9 V9 hG H locs hw => ?_)
  obtain ⟨rfl, e9⟩ := hG
  rw [e9] at hw
  refine W.eq (g2 := F0 m 4 ls [.int (iI 0)]) rfl ?_
  refine lv_iload_n hx hb (k := 3) (i := 3) (x := iI 0) (by decide +kernel) rfl (lv_at hl 3 rfl) ?_
  refine lz_icmp_ne hx hb (a := 0) (b := 0) (off := 23) (tgt := 28) (by decide +kernel) (by decide) ⟨by decide, by decide⟩ ⟨by decide, by decide⟩ (fun h9 => absurd h9 (by decide)) (fun _ => ?_)
  refine lv_aload_n hx hb (k := 0) (i := 0) (x := q) (by decide +kernel) rfl (lv_at hl 0 rfl) ?_
  refine vk_getf (o := RST) (ref := RST) hx hb zva hw.2.2 hown (ts_of' hts (jw73 17 rfl) rfl) (fun _ h => h) (by decide +kernel) ?_
  refine W.eq (g2 := F0 m 12 ls [.ref zv]) rfl ?_
  refine lv_iconst hx hb (n := 0) (v := iI 0) (by decide +kernel) rfl ?_
  refine lv_aload_n hx hb (k := 1) (i := 1) (x := v) (by decide +kernel) rfl (lv_at hl 1 rfl) ?_
  refine lv_iload_n hx hb (k := 2) (i := 2) (x := iI (i : Int)) (by decide +kernel) rfl (lv_at hl 2 rfl) ?_
  refine lv_iload_n hx hb (k := 3) (i := 3) (x := iI 0) (by decide +kernel) rfl (lv_at hl 3 rfl) ?_
  refine lv_ishl hx hb (x := iI (i : Int)) (y := iI 0) (by decide +kernel) ?_
  rw [jsh_l]
  refine lv_aload_n hx hb (k := 0) (i := 0) (x := q) (by decide +kernel) rfl (lv_at hl 0 rfl) ?_
  refine vk_getf (o := RST) (ref := RST) hx hb zva hw.2.2 hown (ts_of' hts (jw73 17 rfl) rfl) (fun _ h => h) (by decide +kernel) ?_
  refine W.eq (g2 := F0 m 21 ls [.ref zv, .int (iI (i : Int)), .ref v, .int (iI 0), .ref zv]) rfl ?_
  refine va_tlen hx hb zar hw.2.2 (v := iI (zL.length : Int)) (iI_nI _).symm (by decide +kernel) ?_
  refine jb_copyt (k1 := 1) F hw hl.1 zar rfl (sp := 0) (dp := (i : Int)) (n := (zL.length : Int)) (sp' := 0) (dp' := i) (n' := zL.length) (rest := []) rfl rfl rfl (jw73 18 rfl) (by omega) (by omega) (by omega) (fun j hj => chs_fit zch) (by show 1 ≤ 1; decide) (Nat.le_of_ble_eq_true rfl) (by decide +kernel) (fun H locs hw => ?_)
  refine lv_goto hx hb (off := 18) (tgt := 43) (by decide +kernel) (by decide) ?_
  exact jm_vret F hlk hrt hw ⟨rfl, rfl⟩ (by omega) (by omega) (by decide +kernel)
theorem j_putStr {b v n : Nat} {L : List Int} {q zv : Nat} {zL : List Int} (hz : (q, zv, zL) ∈ S) (hi : L.length + zL.length ≤ n ∧ n ≤ 34) : JM l D A ad adV cA S jy14_putStringAt prog_12_method_73_code 3 (none) 2 0 0 [.ref b, .int (iI (L.length : Int)), .ref q] ((BW cA b v n L)) (fun r V' => r = none ∧ V' = [(b, .inr (8, [.ref v, .int (iI 0), .int (iI 0), .int (iI (L.length : Int))])), (v, .inl (cA 4, n, .inl (va_cpy (chs zL) (chs L) 0 L.length zL.length)))]) := by
  refine jm_of (by decide) ?_ (Nat.le_of_ble_eq_true rfl)
  rintro p e s m args below meth c F hlk hrt hmn hw ls hl
  have hl : lv_has ls 3 [(0, .ref b), (1, .int (iI (L.length : Int))), (2, .ref q)] := hl
  obtain ⟨hx, hb, hml, hown, hts, hK, hWX, hA, hDG, hSS⟩ := id F
  obtain ⟨zO, zco, zva, zar, zch, zle⟩ := (hSS _ hz).parts
  refine lv_aload_n hx hb (k := 0) (i := 0) (x := b) (by decide +kernel) rfl (lv_at hl 0 rfl) ?_
  refine lv_aload_n hx hb (k := 2) (i := 2) (x := q) (by decide +kernel) rfl (lv_at hl 2 rfl) ?_
  refine jm_V (C := RX9b) (b := b) (x := 397) (n := 1) (as := [.ref q]) (rest := []) F hw hl.1 (j_inflIf hz) (va_recv (q := (RX9b, TX9b, 4)) hK hw.1 rfl (show _[0]? = _ from rfl)) (word_at (State.WarmedH.refl s) (Or.inl rfl) (hDG.2.2 _ (by decide))) (jw73 19 rfl) (jw73 20 rfl) (jw73 4 rfl) (jw73 21 rfl) ⟨by decide, by decide, by decide +kernel⟩ rfl ⟨Nat.le_of_ble_eq_true rfl, Nat.le_of_ble_eq_true rfl, by show _ ≤ 0; omega, by show _ ≤ 0; omega⟩ (Nat.le_of_ble_eq_true rfl) (by decide +kernel) rfl (fun v9 V9 hG H locs hw => ?_)
  obtain ⟨rfl, e9⟩ := hG
  rw [e9] at hw
  refine W.eq (g2 := F0 m 5 ls []) rfl ?_
  refine lv_aload_n hx hb (k := 2) (i := 2) (x := q) (by decide +kernel) rfl (lv_at hl 2 rfl) ?_
  refine lv_aload_n hx hb (k := 0) (i := 0) (x := b) (by decide +kernel) rfl (lv_at hl 0 rfl) ?_
  refine jb_get (k := 0) (i := 0) (v := .ref v) F hw rfl (by decide) rfl (jw73 0 rfl) (by decide +kernel) ?_
  refine lv_iload_n hx hb (k := 1) (i := 1) (x := iI (L.length : Int)) (by decide +kernel) rfl (lv_at hl 1 rfl) ?_
  refine lv_aload_n hx hb (k := 0) (i := 0) (x := b) (by decide +kernel) rfl (lv_at hl 0 rfl) ?_
  refine jb_get (k := 0) (i := 1) (v := .int (iI 0)) F hw rfl (by decide) rfl (jw73 1 rfl) (by decide +kernel) ?_
  refine jm_V (C := RST) (b := q) (x := 399) (n := 3) (as := [.ref v, .int (iI (L.length : Int)), .int (iI 0)]) (rest := []) F hw hl.1 (j_getBytes hz hi) ((by obtain ⟨cell, g1, g2, g3, -⟩ := zO.keep hw.2.2.2.1; exact ⟨cell, g1, g2, g3⟩)) (ts_of' hts (jw73 25 rfl) rfl) (jw73 22 rfl) (jw73 23 rfl) (jw73 13 rfl) (jw73 24 rfl) ⟨by decide, by decide, by decide +kernel⟩ rfl ⟨Nat.le_of_ble_eq_true rfl, Nat.le_of_ble_eq_true rfl, by show _ ≤ 0; omega, by show _ ≤ 0; omega⟩ (Nat.le_of_ble_eq_true rfl) (by decide +kernel) rfl (fun v9 V9 hG H locs hw => ?_)
  obtain ⟨rfl, e9⟩ := hG
  rw [e9] at hw
  refine W.eq (g2 := F0 m 18 ls []) rfl ?_
  exact jm_vret F hlk hrt hw ⟨rfl, rfl⟩ (by omega) (by omega) (by decide +kernel)
theorem j_appS {b v n : Nat} {L : List Int} {q zv : Nat} {zL : List Int} (hz : (q, zv, zL) ∈ S) (hL : L.length ≤ n ∧ n ≤ 34) (hc : ∀ x ∈ L, 0 ≤ x ∧ x < 128) (hk9 : L.length + zL.length ≤ n ∨ (n = 16 ∧ L.length + zL.length ≤ 34)) : JM l D A ad adV cA S jy15_append prog_12_method_22_code 3 (some (.object "java/lang/AbstractStringBuilder")) 4 1 34 [.ref b, .ref q] ((BW cA b v n L)) (fun r V' => r = some (.ref b) ∧ ∃ v', V' = BW cA b v' (capn n ((L.length : Int) + (zL.length : Int))) (L ++ zL)) := by
  refine jm_of (by decide) ?_ (Nat.le_of_ble_eq_true rfl)
  rintro p e s m args below meth c F hlk hrt hmn hw ls hl
  have hl : lv_has ls 3 [(0, .ref b), (1, .ref q)] := hl
  obtain ⟨hx, hb, hml, hown, hts, hK, hWX, hA, hDG, hSS⟩ := id F
  obtain ⟨zO, zco, zva, zar, zch, zle⟩ := (hSS _ hz).parts
  refine lv_aload_n hx hb (k := 1) (i := 1) (x := q) (by decide +kernel) rfl (lv_at hl 1 rfl) ?_
  refine lv_ifnonnull hx hb (off := 8) (tgt := 9) (by decide +kernel) (by decide) ?_
  refine lv_aload_n hx hb (k := 1) (i := 1) (x := q) (by decide +kernel) rfl (lv_at hl 1 rfl) ?_
  refine jm_V (C := RST) (b := q) (x := 32) (n := 0) (as := []) (rest := []) F hw hl.1 (j_slen hz) ((by obtain ⟨cell, g1, g2, g3, -⟩ := zO.keep hw.2.2.2.1; exact ⟨cell, g1, g2, g3⟩)) (ts_of' hts (jw73 29 rfl) rfl) (jw73 26 rfl) (jw73 27 rfl) (jw73 13 rfl) (jw73 28 rfl) ⟨by decide, by decide, by decide +kernel⟩ rfl ⟨Nat.le_of_ble_eq_true rfl, Nat.le_of_ble_eq_true rfl, by show _ ≤ 1; omega, by show _ ≤ 34; omega⟩ (Nat.le_of_ble_eq_true rfl) (by decide +kernel) rfl (fun v9 V9 hG H locs hw => ?_)
  obtain ⟨rfl, e9⟩ := hG
  rw [e9] at hw
  refine W.eq (g2 := F0 m 13 ls [.int (iI (zL.length : Int))]) rfl ?_
  refine lv_istore_n hx hb (k := 2) (i := 2) (lv' := [(2, .int (iI (zL.length : Int))), (0, .ref b), (1, .ref q)]) (by decide +kernel) rfl hl (by decide) rfl (fun ls hl => ?_)
  refine lv_aload_n hx hb (k := 0) (i := 0) (x := b) (by decide +kernel) rfl (lv_at hl 1 rfl) ?_
  refine lv_aload_n hx hb (k := 0) (i := 0) (x := b) (by decide +kernel) rfl (lv_at hl 1 rfl) ?_
  refine jb_get (k := 0) (i := 3) (v := .int (iI (L.length : Int))) F hw rfl (by decide) rfl (jw73 30 rfl) (by decide +kernel) ?_
  refine lv_iload_n hx hb (k := 2) (i := 2) (x := iI (zL.length : Int)) (by decide +kernel) rfl (lv_at hl 0 rfl) ?_
  refine lz_iadd hx hb (a := (L.length : Int)) (b := (zL.length : Int)) (by decide +kernel) ?_
  refine jm_V (C := RX9b) (b := b) (x := 100) (n := 1) (as := [.int (iI ((L.length : Int) + (zL.length : Int)))]) (rest := []) F hw hl.1 (j_ensure hL hc (z := ((L.length : Int) + (zL.length : Int))) ⟨by omega, by omega⟩) (va_recv (q := (RX9b, TX9b, 4)) hK hw.1 rfl (show _[0]? = _ from rfl)) (word_at (State.WarmedH.refl s) (Or.inl rfl) (hDG.2.2 _ (by decide))) (jw73 31 rfl) (jw73 32 rfl) (jw73 4 rfl) (jw73 33 rfl) ⟨by decide, by decide, by decide +kernel⟩ rfl ⟨Nat.le_of_ble_eq_true rfl, Nat.le_of_ble_eq_true rfl, by show _ ≤ 1; omega, by show _ ≤ 34; omega⟩ (Nat.le_of_ble_eq_true rfl) (by decide +kernel) rfl (fun v9 V9 hG H locs hw => ?_)
  obtain ⟨rfl, v2, e9⟩ := hG
  rw [e9] at hw
  have hcn := capn_ge (n := n) (z := (L.length : Int) + (zL.length : Int)) (by omega) (by omega)
  have hn2 : capn n ((L.length : Int) + (zL.length : Int)) ≤ 34 := by rcases hk9 with h9 | ⟨h8, h9⟩ <;> (unfold capn; split <;> omega)
  refine W.eq (g2 := F0 m 24 ls []) rfl ?_
  refine lv_aload_n hx hb (k := 0) (i := 0) (x := b) (by decide +kernel) rfl (lv_at hl 1 rfl) ?_
  refine lv_aload_n hx hb (k := 0) (i := 0) (x := b) (by decide +kernel) rfl (lv_at hl 1 rfl) ?_
  refine jb_get (k := 0) (i := 3) (v := .int (iI (L.length : Int))) F hw rfl (by decide) rfl (jw73 30 rfl) (by decide +kernel) ?_
  refine lv_aload_n hx hb (k := 1) (i := 1) (x := q) (by decide +kernel) rfl (lv_at hl 2 rfl) ?_
  refine jm_V (C := RX9b) (b := b) (x := 208) (n := 2) (as := [.int (iI (L.length : Int)), .ref q]) (rest := []) F hw hl.1 (j_putStr (v := v2) (L := L) hz ⟨by omega, hn2⟩) (va_recv (q := (RX9b, TX9b, 4)) hK hw.1 rfl (show _[0]? = _ from rfl)) (word_at (State.WarmedH.refl s) (Or.inl rfl) (hDG.2.2 _ (by decide))) (jw73 34 rfl) (jw73 35 rfl) (jw73 4 rfl) (jw73 36 rfl) ⟨by decide, by decide, by decide +kernel⟩ rfl ⟨Nat.le_of_ble_eq_true rfl, Nat.le_of_ble_eq_true rfl, by show _ ≤ 1; omega, by show _ ≤ 34; omega⟩ (Nat.le_of_ble_eq_true rfl) (by decide +kernel) rfl (fun v9 V9 hG H locs hw => ?_)
  obtain ⟨rfl, e9⟩ := hG
  rw [e9] at hw
  refine W.eq (g2 := F0 m 33 ls []) rfl ?_
  refine lv_aload_n hx hb (k := 0) (i := 0) (x := b) (by decide +kernel) rfl (lv_at hl 1 rfl) ?_
  refine lv_dup hx hb (by decide +kernel) rfl ?_
  refine jb_get (k := 0) (i := 3) (v := .int (iI (L.length : Int))) F hw rfl (by decide) rfl (jw73 30 rfl) (by decide +kernel) ?_
  refine lv_iload_n hx hb (k := 2) (i := 2) (x := iI (zL.length : Int)) (by decide +kernel) rfl (lv_at hl 0 rfl) ?_
  refine lz_iadd hx hb (a := (L.length : Int)) (b := (zL.length : Int)) (by decide +kernel) ?_
  refine jb_put (k := 0) (i := 3) (fs := [.ref v2, .int (iI 0), .int (iI 0), .int (iI (L.length : Int))]) F hw rfl (by decide) rfl rfl rfl rfl (by show 3 < 4; decide) (jw73 30 rfl) (by decide +kernel) (fun H locs hw => ?_)
  have hw : WV D A s (BW cA b v2 (capn n ((L.length : Int) + (zL.length : Int))) (L ++ zL)) H locs := by
    unfold BW
    rw [List.length_append, chs_app, Int.natCast_add]
    exact hw
  refine lv_aload_n hx hb (k := 0) (i := 0) (x := b) (by decide +kernel) rfl (lv_at hl 1 rfl) ?_
  exact jm_aret (Or.inl ⟨_, rfl⟩) F hlk hrt hw ⟨rfl, v2, rfl⟩ (by omega) (by omega) (by decide +kernel)
theorem j_sappS {b v n : Nat} {L : List Int} {q zv : Nat} {zL : List Int} (hz : (q, zv, zL) ∈ S) (hL : L.length ≤ n ∧ n ≤ 34) (hc : ∀ x ∈ L, 0 ≤ x ∧ x < 128) (hk9 : L.length + zL.length ≤ n ∨ (n = 16 ∧ L.length + zL.length ≤ 34)) : JM l D A ad adV cA S jy16_append prog_28_method_7_code 2 (some (.object "java/lang/StringBuilder")) 5 1 34 [.ref b, .ref q] ((BW cA b v n L)) (fun r V' => r = some (.ref b) ∧ ∃ v', V' = BW cA b v' (capn n ((L.length : Int) + (zL.length : Int))) (L ++ zL)) := by
  refine jm_of (by decide) ?_ (Nat.le_of_ble_eq_true rfl)
  rintro p e s m args below meth c F hlk hrt hmn hw ls hl
  have hl : lv_has ls 2 [(0, .ref b), (1, .ref q)] := hl
  obtain ⟨hx, hb, hml, hown, hts, hK, hWX, hA, hDG, hSS⟩ := id F
  refine lv_aload_n hx hb (k := 0) (i := 0) (x := b) (by decide +kernel) rfl (lv_at hl 0 rfl) ?_
  refine lv_aload_n hx hb (k := 1) (i := 1) (x := q) (by decide +kernel) rfl (lv_at hl 1 rfl) ?_
  refine jm_SU (b := b) (x := 29) (n := 1) (as := [.ref q]) (rest := []) F hw hl.1 (j_appS hz hL hc hk9) (show _[0]? = _ from rfl) (jw73 40 rfl) (jw73 41 rfl) (jw73 37 rfl) (jw73 38 rfl) (jw73 4 rfl) (jw73 39 rfl) ⟨by decide, by decide +kernel⟩ rfl ⟨Nat.le_of_ble_eq_true rfl, Nat.le_of_ble_eq_true rfl, by show _ ≤ 1; omega, by show _ ≤ 34; omega⟩ (Nat.le_of_ble_eq_true rfl) (by decide +kernel) rfl (fun v9 V9 hG H locs hw => ?_)
  obtain ⟨rfl, v2, e9⟩ := hG
  rw [e9] at hw
  refine W.eq (g2 := F0 m 5 ls [.ref b]) rfl ?_
  refine lv_pop hx hb (by decide +kernel) rfl ?_
  refine lv_aload_n hx hb (k := 0) (i := 0) (x := b) (by decide +kernel) rfl (lv_at hl 0 rfl) ?_
  exact jm_aret (Or.inl ⟨_, rfl⟩) F hlk hrt hw ⟨rfl, v2, rfl⟩ (by omega) (by omega) (by decide +kernel)
theorem j_canE {V : va_W} {x : Int} (hx9 : 0 ≤ x ∧ x < 128) : JM l D A ad adV cA S jy17_canEncode prog_29_method_3_code 1 (some .boolean) 0 0 0 [.int (iI x)] V (fun r V' => r = some (.int (iI 1)) ∧ V' = V) := by
  refine jm_of (by decide) ?_ (Nat.le_of_ble_eq_true rfl)
  rintro p e s m args below meth c F hlk hrt hmn hw ls hl
  have hl : lv_has ls 1 [(0, .int (iI x))] := hl
  obtain ⟨hx, hb, hml, hown, hts, hK, hWX, hA, hDG, hSS⟩ := id F
  refine lv_iload_n hx hb (k := 0) (i := 0) (x := iI x) (by decide +kernel) rfl (lv_at hl 0 rfl) ?_
  refine lv_sipush hx hb (n := 255) (v := iI 255) (by decide +kernel) (by decide) ?_
  refine lz_icmp_gt hx hb (a := x) (b := 255) (off := 7) (tgt := 11) (by decide +kernel) (by decide) ⟨by omega, by omega⟩ ⟨by decide, by decide⟩ (fun h9 => absurd h9 (by omega)) (fun _ => ?_)
  refine lv_iconst hx hb (n := 1) (v := iI 1) (by decide +kernel) rfl ?_
  refine lv_goto hx hb (off := 4) (tgt := 12) (by decide +kernel) (by decide) ?_
  exact jm_zret F hlk hrt hw rfl ⟨rfl, rfl⟩ (by omega) (by omega) (by decide +kernel)
theorem j_appC {b v n : Nat} {L : List Int} {x : Int} (hx9 : 0 ≤ x ∧ x < 128) (hL : L.length ≤ n ∧ n ≤ 34) (hc : ∀ x ∈ L, 0 ≤ x ∧ x < 128) (hk9 : L.length + 1 ≤ n ∨ (n = 16 ∧ L.length + 1 ≤ 34)) : JM l D A ad adV cA S jy18_append prog_12_method_31_code 2 (some (.object "java/lang/AbstractStringBuilder")) 4 1 34 [.ref b, .int (iI x)] ((BW cA b v n L)) (fun r V' => r = some (.ref b) ∧ ∃ v', V' = BW cA b v' (capn n ((L.length : Int) + 1)) (L ++ [x])) := by
  refine jm_of (by decide) ?_ (Nat.le_of_ble_eq_true rfl)
  rintro p e s m args below meth c F hlk hrt hmn hw ls hl
  have hl : lv_has ls 2 [(0, .ref b), (1, .int (iI x))] := hl
  obtain ⟨hx, hb, hml, hown, hts, hK, hWX, hA, hDG, hSS⟩ := id F
  refine lv_aload_n hx hb (k := 0) (i := 0) (x := b) (by decide +kernel) rfl (lv_at hl 0 rfl) ?_
  refine lv_aload_n hx hb (k := 0) (i := 0) (x := b) (by decide +kernel) rfl (lv_at hl 0 rfl) ?_
  refine jb_get (k := 0) (i := 3) (v := .int (iI (L.length : Int))) F hw rfl (by decide) rfl (jw73 30 rfl) (by decide +kernel) ?_
  refine lv_iconst hx hb (n := 1) (v := iI 1) (by decide +kernel) rfl ?_
  refine lz_iadd hx hb (a := (L.length : Int)) (b := 1) (by decide +kernel) ?_
  refine jm_V (C := RX9b) (b := b) (x := 100) (n := 1) (as := [.int (iI ((L.length : Int) + 1))]) (rest := []) F hw hl.1 (j_ensure hL hc (z := ((L.length : Int) + 1)) ⟨by omega, by omega⟩) (va_recv (q := (RX9b, TX9b, 4)) hK hw.1 rfl (show _[0]? = _ from rfl)) (word_at (State.WarmedH.refl s) (Or.inl rfl) (hDG.2.2 _ (by decide))) (jw73 31 rfl) (jw73 32 rfl) (jw73 4 rfl) (jw73 33 rfl) ⟨by decide, by decide, by decide +kernel⟩ rfl ⟨Nat.le_of_ble_eq_true rfl, Nat.le_of_ble_eq_true rfl, by show _ ≤ 1; omega, by show _ ≤ 34; omega⟩ (Nat.le_of_ble_eq_true rfl) (by decide +kernel) rfl (fun v9 V9 hG H locs hw => ?_)
  obtain ⟨rfl, v2, e9⟩ := hG
  rw [e9] at hw
  have hcn := capn_ge (n := n) (z := (L.length : Int) + 1) (by omega) (by omega)
  have hn2 : capn n ((L.length : Int) + 1) ≤ 34 := by rcases hk9 with h9 | ⟨h8, h9⟩ <;> (unfold capn; split <;> omega)
  refine W.eq (g2 := F0 m 10 ls []) rfl ?_
  refine lv_aload_n hx hb (k := 0) (i := 0) (x := b) (by decide +kernel) rfl (lv_at hl 0 rfl) ?_
  refine jm_V (C := RX9b) (b := b) (x := 83) (n := 0) (as := []) (rest := []) F hw hl.1 (j_latB (k := 0) (v := v2) rfl) (va_recv (q := (RX9b, TX9b, 4)) hK hw.1 rfl (show _[0]? = _ from rfl)) (ts_of' hts (jw73 45 rfl) rfl) (jw73 42 rfl) (jw73 43 rfl) (jw73 4 rfl) (jw73 44 rfl) ⟨by decide, by decide, by decide +kernel⟩ rfl ⟨Nat.le_of_ble_eq_true rfl, Nat.le_of_ble_eq_true rfl, by show _ ≤ 1; omega, by show _ ≤ 34; omega⟩ (Nat.le_of_ble_eq_true rfl) (by decide +kernel) rfl (fun v9 V9 hG H locs hw => ?_)
  obtain ⟨rfl, e9⟩ := hG
  rw [e9] at hw
  refine W.eq (g2 := F0 m 14 ls [.int (iI 1)]) rfl ?_
  refine lz_if_eq hx hb (a := 1) (off := 31) (tgt := 45) (by decide +kernel) (by decide) ⟨by decide, by decide⟩ (fun h9 => absurd h9 (by decide)) (fun _ => ?_)
  refine lv_iload_n hx hb (k := 1) (i := 1) (x := iI x) (by decide +kernel) rfl (lv_at hl 1 rfl) ?_
  refine jm_S (x := 191) (n := 1) (as := [.int (iI x)]) (rest := []) F hw hl.1 (j_canE hx9) (jw73 46 rfl) (jw73 47 rfl) (jw73 48 rfl) (jw73 49 rfl) ⟨by decide, by decide, by decide +kernel⟩ rfl ⟨Nat.le_of_ble_eq_true rfl, Nat.le_of_ble_eq_true rfl, by show _ ≤ 1; omega, by show _ ≤ 34; omega⟩ (Nat.le_of_ble_eq_true rfl) (by decide +kernel) rfl (fun v9 V9 hG H locs hw => ?_)
  obtain ⟨rfl, e9⟩ := hG
  rw [e9] at hw
  refine W.eq (g2 := F0 m 21 ls [.int (iI 1)]) rfl ?_
  refine lz_if_eq hx hb (a := 1) (off := 24) (tgt := 45) (by decide +kernel) (by decide) ⟨by decide, by decide⟩ (fun h9 => absurd h9 (by decide)) (fun _ => ?_)
  refine lv_aload_n hx hb (k := 0) (i := 0) (x := b) (by decide +kernel) rfl (lv_at hl 0 rfl) ?_
  refine jb_get (k := 0) (i := 0) (v := .ref v2) F hw rfl (by decide) rfl (jw73 0 rfl) (by decide +kernel) ?_
  refine lv_aload_n hx hb (k := 0) (i := 0) (x := b) (by decide +kernel) rfl (lv_at hl 0 rfl) ?_
  refine lv_dup hx hb (by decide +kernel) rfl ?_
  refine jb_get (k := 0) (i := 3) (v := .int (iI (L.length : Int))) F hw rfl (by decide) rfl (jw73 30 rfl) (by decide +kernel) ?_
  refine lv_dup_x1 hx hb (by decide +kernel) rfl rfl ?_
  refine lv_iconst hx hb (n := 1) (v := iI 1) (by decide +kernel) rfl ?_
  refine lz_iadd hx hb (a := (L.length : Int)) (b := 1) (by decide +kernel) ?_
  refine jb_put (k := 0) (i := 3) (fs := [.ref v2, .int (iI 0), .int (iI 0), .int (iI (L.length : Int))]) F hw rfl (by decide) rfl rfl rfl rfl (by show 3 < 4; decide) (jw73 30 rfl) (by decide +kernel) (fun H locs hw => ?_)
  refine lv_iload_n hx hb (k := 1) (i := 1) (x := iI x) (by decide +kernel) rfl (lv_at hl 1 rfl) ?_
  refine lv_i2b hx hb (v := iI x) (by decide +kernel) (asc' hx9).2.2.2.1 ?_
  refine jb_bast (k := 1) F hw rfl (i := L.length) (z := (L.length : Int)) (x := x) rfl (by omega) (asc' hx9).2.2.1 (by decide +kernel) (fun H locs hw => ?_)
  have hw : WV D A s (BW cA b v2 (capn n ((L.length : Int) + 1)) (L ++ [x])) H locs := by
    unfold BW
    rw [show ((L ++ [x]).length : Int) = (L.length : Int) + 1 by rw [List.length_append, Int.natCast_add]; rfl, chs_snoc]
    exact hw
  refine lv_goto hx hb (off := 33) (tgt := 75) (by decide +kernel) (by decide) ?_
  refine lv_aload_n hx hb (k := 0) (i := 0) (x := b) (by decide +kernel) rfl (lv_at hl 0 rfl) ?_
  exact jm_aret (Or.inl ⟨_, rfl⟩) F hlk hrt hw ⟨rfl, v2, rfl⟩ (by omega) (by omega) (by decide +kernel)
theorem j_sappC {b v n : Nat} {L : List Int} {x : Int} (hx9 : 0 ≤ x ∧ x < 128) (hL : L.length ≤ n ∧ n ≤ 34) (hc : ∀ x ∈ L, 0 ≤ x ∧ x < 128) (hk9 : L.length + 1 ≤ n ∨ (n = 16 ∧ L.length + 1 ≤ 34)) : JM l D A ad adV cA S jy19_append prog_28_method_14_code 2 (some (.object "java/lang/StringBuilder")) 5 1 34 [.ref b, .int (iI x)] ((BW cA b v n L)) (fun r V' => r = some (.ref b) ∧ ∃ v', V' = BW cA b v' (capn n ((L.length : Int) + 1)) (L ++ [x])) := by
  refine jm_of (by decide) ?_ (Nat.le_of_ble_eq_true rfl)
  rintro p e s m args below meth c F hlk hrt hmn hw ls hl
  have hl : lv_has ls 2 [(0, .ref b), (1, .int (iI x))] := hl
  obtain ⟨hx, hb, hml, hown, hts, hK, hWX, hA, hDG, hSS⟩ := id F
  refine lv_aload_n hx hb (k := 0) (i := 0) (x := b) (by decide +kernel) rfl (lv_at hl 0 rfl) ?_
  refine lv_iload_n hx hb (k := 1) (i := 1) (x := iI x) (by decide +kernel) rfl (lv_at hl 1 rfl) ?_
  refine jm_SU (b := b) (x := 50) (n := 1) (as := [.int (iI x)]) (rest := []) F hw hl.1 (j_appC hx9 hL hc hk9) (show _[0]? = _ from rfl) (jw73 53 rfl) (jw73 54 rfl) (jw73 50 rfl) (jw73 51 rfl) (jw73 4 rfl) (jw73 52 rfl) ⟨by decide, by decide +kernel⟩ rfl ⟨Nat.le_of_ble_eq_true rfl, Nat.le_of_ble_eq_true rfl, by show _ ≤ 1; omega, by show _ ≤ 34; omega⟩ (Nat.le_of_ble_eq_true rfl) (by decide +kernel) rfl (fun v9 V9 hG H locs hw => ?_)
  obtain ⟨rfl, v2, e9⟩ := hG
  rw [e9] at hw
  refine W.eq (g2 := F0 m 5 ls [.ref b]) rfl ?_
  refine lv_pop hx hb (by decide +kernel) rfl ?_
  refine lv_aload_n hx hb (k := 0) (i := 0) (x := b) (by decide +kernel) rfl (lv_at hl 0 rfl) ?_
  exact jm_aret (Or.inl ⟨_, rfl⟩) F hlk hrt hw ⟨rfl, v2, rfl⟩ (by omega) (by omega) (by decide +kernel)
end JB3
