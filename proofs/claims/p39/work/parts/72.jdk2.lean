/-! strings that stand: printed by wip/p39/db70.py -/
section JB2
variable {p : Program} {l : Launch} {e : Env} {R : Room} {s : State} {m : MethodId} {args : Array Value} {below : List Frame} {meth : Method} {c : Code} {H : Heap} {locs : List Loc} {cells slots : Nat} {Q : State → Prop}
variable {D : va_G} {A : Nat → Prop} {ad adV : Nat → Nat} {cA : Nat → ClassId} {S : List (Nat × Nat × List Int)} {own : String} {cc : ByteArray} {nL0 : Nat}
def jw72W : List Jvm.Cond := [.fieldLink RST 38 RST "COMPACT_STRINGS" "Z",
  .fieldLink RST 15 RST "coder" "B",
  .fieldLink RST 9 RST "value" "[B",
  .methodLink RST 335 jy5_coder,
  .instanceMethod jy5_coder,
  .initialized RST,
  .code jy5_coder prog_27_method_152_code 1 (some .byte),
  .selects RST jy5_coder jy5_coder,
  .fieldLink RST 1053 "jdk/internal/util/Preconditions" "SIOOBE_FORMATTER" "Ljava/util/function/BiFunction;",
  .methodLink RST 1059 jy11_checkIndex,
  .static jy11_checkIndex,
  .initialized "jdk/internal/util/Preconditions",
  .code jy11_checkIndex prog_39_method_11_code 3 (some .int),
  .methodLink "java/lang/StringLatin1" 9 jy9_checkIndex,
  .static jy9_checkIndex,
  .code jy9_checkIndex prog_27_method_155_code 2 (none),
  .methodLink RST 492 jy6_isLatin1,
  .instanceMethod jy6_isLatin1,
  .code jy6_isLatin1 prog_27_method_154_code 1 (some .boolean),
  .selects RST jy6_isLatin1 jy6_isLatin1,
  .methodLink RST 495 jy10_charAt,
  .static jy10_charAt,
  .initialized "java/lang/StringLatin1",
  .code jy10_charAt prog_29_method_2_code 2 (some .char)]
theorem jw72_in : ∀ w ∈ jw72W, w ∈ lw_tbl := by decide +kernel
theorem jw72 (k : Nat) {w : Jvm.Cond} (h : jw72W[k]? = some w) : w ∈ lw_tbl := jw72_in w (List.mem_of_getElem? h)
theorem j_scod {V : va_W} {q zv : Nat} {zL : List Int} (hz : (q, zv, zL) ∈ S) : JM l D A ad adV cA S jy5_coder prog_27_method_152_code 1 (some .byte) 0 0 0 [.ref q] V (fun r V' => r = some (.int (iI 0)) ∧ V' = V) := by
  refine jm_of (by decide) ?_ (Nat.le_of_ble_eq_true rfl)
  rintro p e s m args below meth c F hlk hrt hmn hw ls hl
  have hl : lv_has ls 1 [(0, .ref q)] := hl
  obtain ⟨hx, hb, hml, hown, hts, hK, hWX, hA, hDG, hSS⟩ := id F
  obtain ⟨zO, zco, zva, zar, zch, zle⟩ := (hSS _ hz).parts
  refine jb_cs F hw (jw72 0 rfl) (by decide +kernel) ?_
  refine lz_if_eq hx hb (a := 1) (off := 10) (tgt := 13) (by decide +kernel) (by decide) ⟨by decide, by decide⟩ (fun h9 => absurd h9 (by decide)) (fun _ => ?_)
  refine lv_aload_n hx hb (k := 0) (i := 0) (x := q) (by decide +kernel) rfl (lv_at hl 0 rfl) ?_
  refine vk_getf (o := RST) (ref := RST) hx hb zco hw.2.2 hown (ts_of' hts (jw72 1 rfl) rfl) (fun _ h => h) (by decide +kernel) ?_
  refine W.eq (g2 := F0 m 10 ls [.int (iI 0)]) rfl ?_
  refine lv_goto hx hb (off := 4) (tgt := 14) (by decide +kernel) (by decide) ?_
  exact jm_zret F hlk hrt hw rfl ⟨rfl, rfl⟩ (by omega) (by omega) (by decide +kernel)
theorem j_slat {V : va_W} {q zv : Nat} {zL : List Int} (hz : (q, zv, zL) ∈ S) : JM l D A ad adV cA S jy6_isLatin1 prog_27_method_154_code 1 (some .boolean) 0 0 0 [.ref q] V (fun r V' => r = some (.int (iI 1)) ∧ V' = V) := by
  refine jm_of (by decide) ?_ (Nat.le_of_ble_eq_true rfl)
  rintro p e s m args below meth c F hlk hrt hmn hw ls hl
  have hl : lv_has ls 1 [(0, .ref q)] := hl
  obtain ⟨hx, hb, hml, hown, hts, hK, hWX, hA, hDG, hSS⟩ := id F
  obtain ⟨zO, zco, zva, zar, zch, zle⟩ := (hSS _ hz).parts
  refine jb_cs F hw (jw72 0 rfl) (by decide +kernel) ?_
  refine lz_if_eq hx hb (a := 1) (off := 14) (tgt := 17) (by decide +kernel) (by decide) ⟨by decide, by decide⟩ (fun h9 => absurd h9 (by decide)) (fun _ => ?_)
  refine lv_aload_n hx hb (k := 0) (i := 0) (x := q) (by decide +kernel) rfl (lv_at hl 0 rfl) ?_
  refine vk_getf (o := RST) (ref := RST) hx hb zco hw.2.2 hown (ts_of' hts (jw72 1 rfl) rfl) (fun _ h => h) (by decide +kernel) ?_
  refine W.eq (g2 := F0 m 10 ls [.int (iI 0)]) rfl ?_
  refine lz_if_ne hx hb (a := 0) (off := 7) (tgt := 17) (by decide +kernel) (by decide) ⟨by decide, by decide⟩ (fun h9 => absurd h9 (by decide)) (fun _ => ?_)
  refine lv_iconst hx hb (n := 1) (v := iI 1) (by decide +kernel) rfl ?_
  refine lv_goto hx hb (off := 4) (tgt := 18) (by decide +kernel) (by decide) ?_
  exact jm_zret F hlk hrt hw rfl ⟨rfl, rfl⟩ (by omega) (by omega) (by decide +kernel)
theorem j_slen {V : va_W} {q zv : Nat} {zL : List Int} (hz : (q, zv, zL) ∈ S) : JM l D A ad adV cA S jy7_length prog_27_method_54_code 1 (some .int) 1 0 0 [.ref q] V (fun r V' => r = some (.int (iI (zL.length : Int))) ∧ V' = V) := by
  refine jm_of (by decide) ?_ (Nat.le_of_ble_eq_true rfl)
  rintro p e s m args below meth c F hlk hrt hmn hw ls hl
  have hl : lv_has ls 1 [(0, .ref q)] := hl
  obtain ⟨hx, hb, hml, hown, hts, hK, hWX, hA, hDG, hSS⟩ := id F
  obtain ⟨zO, zco, zva, zar, zch, zle⟩ := (hSS _ hz).parts
  refine lv_aload_n hx hb (k := 0) (i := 0) (x := q) (by decide +kernel) rfl (lv_at hl 0 rfl) ?_
  refine vk_getf (o := RST) (ref := RST) hx hb zva hw.2.2 hown (ts_of' hts (jw72 2 rfl) rfl) (fun _ h => h) (by decide +kernel) ?_
  refine W.eq (g2 := F0 m 4 ls [.ref zv]) rfl ?_
  refine va_tlen hx hb zar hw.2.2 (v := iI (zL.length : Int)) (iI_nI _).symm (by decide +kernel) ?_
  refine lv_aload_n hx hb (k := 0) (i := 0) (x := q) (by decide +kernel) rfl (lv_at hl 0 rfl) ?_
  refine jm_V (C := RST) (b := q) (x := 335) (n := 0) (as := []) (rest := [.int (iI (zL.length : Int))]) F hw hl.1 (j_scod (V := V) hz) ((by obtain ⟨cell, g1, g2, g3, -⟩ := zO.keep hw.2.2.2.1; exact ⟨cell, g1, g2, g3⟩)) (ts_of' hts (jw72 7 rfl) rfl) (jw72 3 rfl) (jw72 4 rfl) (jw72 5 rfl) (jw72 6 rfl) ⟨by decide, by decide, by decide +kernel⟩ rfl ⟨Nat.le_of_ble_eq_true rfl, Nat.le_of_ble_eq_true rfl, by show _ ≤ 0; omega, by show _ ≤ 0; omega⟩ (Nat.le_of_ble_eq_true rfl) (by decide +kernel) rfl (fun v9 V9 hG H locs hw => ?_)
  obtain ⟨rfl, e9⟩ := hG
  rw [e9] at hw
  refine W.eq (g2 := F0 m 9 ls [.int (iI 0), .int (iI (zL.length : Int))]) rfl ?_
  refine lv_ishr hx hb (x := iI (zL.length : Int)) (y := iI 0) (by decide +kernel) ?_
  rw [jsh_r]
  exact jm_zret F hlk hrt hw rfl ⟨rfl, rfl⟩ (by omega) (by omega) (by decide +kernel)
theorem j_zpck {V : va_W} {w : Value} {i n : Int} (hw9 : w = .null ∨ ∃ t : Nat, w = .ref t) (hi : 0 ≤ i ∧ i < n ∧ n ≤ 1000) : JM l D A ad adV cA S jy11_checkIndex prog_39_method_11_code 3 (some .int) 0 0 0 [.int (iI i), .int (iI n), w] V (fun r V' => r = some (.int (iI i)) ∧ V' = V) := by
  rcases hw9 with rfl | ⟨t, rfl⟩
  · refine jm_of (by decide) ?_ (Nat.le_of_ble_eq_true rfl)
    rintro p e s m args below meth c F hlk hrt hmn hw ls hl
    have hl : lv_has ls 3 [(0, .int (iI i)), (1, .int (iI n)), (2, .null)] := hl
    obtain ⟨hx, hb, hml, hown, hts, hK, hWX, hA, hDG, hSS⟩ := id F
    refine lv_iload_n hx hb (k := 0) (i := 0) (x := iI i) (by decide +kernel) rfl (lv_at hl 0 rfl) ?_
    refine lz_if_lt hx hb (a := i) (off := 8) (tgt := 9) (by decide +kernel) (by decide) ⟨by omega, by omega⟩ (fun h9 => absurd h9 (by omega)) (fun _ => ?_)
    refine lv_iload_n hx hb (k := 0) (i := 0) (x := iI i) (by decide +kernel) rfl (lv_at hl 0 rfl) ?_
    refine lv_iload_n hx hb (k := 1) (i := 1) (x := iI n) (by decide +kernel) rfl (lv_at hl 1 rfl) ?_
    refine lz_icmp_lt hx hb (a := i) (b := n) (off := 10) (tgt := 16) (by decide +kernel) (by decide) ⟨by omega, by omega⟩ ⟨by omega, by omega⟩ (fun _ => ?_) (fun h9 => absurd (by omega) h9)
    refine lv_iload_n hx hb (k := 0) (i := 0) (x := iI i) (by decide +kernel) rfl (lv_at hl 0 rfl) ?_
    exact jm_zret F hlk hrt hw rfl ⟨rfl, rfl⟩ (by omega) (by omega) (by decide +kernel)
  · refine jm_of (by decide) ?_ (Nat.le_of_ble_eq_true rfl)
    rintro p e s m args below meth c F hlk hrt hmn hw ls hl
    have hl : lv_has ls 3 [(0, .int (iI i)), (1, .int (iI n)), (2, .ref t)] := hl
    obtain ⟨hx, hb, hml, hown, hts, hK, hWX, hA, hDG, hSS⟩ := id F
    refine lv_iload_n hx hb (k := 0) (i := 0) (x := iI i) (by decide +kernel) rfl (lv_at hl 0 rfl) ?_
    refine lz_if_lt hx hb (a := i) (off := 8) (tgt := 9) (by decide +kernel) (by decide) ⟨by omega, by omega⟩ (fun h9 => absurd h9 (by omega)) (fun _ => ?_)
    refine lv_iload_n hx hb (k := 0) (i := 0) (x := iI i) (by decide +kernel) rfl (lv_at hl 0 rfl) ?_
    refine lv_iload_n hx hb (k := 1) (i := 1) (x := iI n) (by decide +kernel) rfl (lv_at hl 1 rfl) ?_
    refine lz_icmp_lt hx hb (a := i) (b := n) (off := 10) (tgt := 16) (by decide +kernel) (by decide) ⟨by omega, by omega⟩ ⟨by omega, by omega⟩ (fun _ => ?_) (fun h9 => absurd (by omega) h9)
    refine lv_iload_n hx hb (k := 0) (i := 0) (x := iI i) (by decide +kernel) rfl (lv_at hl 0 rfl) ?_
    exact jm_zret F hlk hrt hw rfl ⟨rfl, rfl⟩ (by omega) (by omega) (by decide +kernel)
theorem j_zchk {V : va_W} {i n : Int} (hi : 0 ≤ i ∧ i < n ∧ n ≤ 1000) : JM l D A ad adV cA S jy9_checkIndex prog_27_method_155_code 2 (none) 1 0 0 [.int (iI i), .int (iI n)] V (fun r V' => r = none ∧ V' = V) := by
  refine jm_of (by decide) ?_ (Nat.le_of_ble_eq_true rfl)
  rintro p e s m args below meth c F hlk hrt hmn hw ls hl
  have hl : lv_has ls 2 [(0, .int (iI i)), (1, .int (iI n))] := hl
  obtain ⟨hx, hb, hml, hown, hts, hK, hWX, hA, hDG, hSS⟩ := id F
  have hz : ∃ w : Value, (w = .null ∨ ∃ t : Nat, w = .ref t) ∧ va_Z "jdk/internal/util/Preconditions" "SIOOBE_FORMATTER" "Ljava/util/function/BiFunction;" w A s s.heap := by
    rcases hWX.2.2.2.2 with h | ⟨t, h⟩
    · exact ⟨_, Or.inl rfl, h⟩
    · exact ⟨_, Or.inr ⟨t, rfl⟩, h⟩
  obtain ⟨wz, hw9, hz⟩ := hz
  refine lv_iload_n hx hb (k := 0) (i := 0) (x := iI i) (by decide +kernel) rfl (lv_at hl 0 rfl) ?_
  refine lv_iload_n hx hb (k := 1) (i := 1) (x := iI n) (by decide +kernel) rfl (lv_at hl 1 rfl) ?_
  refine va_gets (C := "jdk/internal/util/Preconditions") (ref := "jdk/internal/util/Preconditions") hx hb hz hw.2.2 hown (ts_of' hts (jw72 8 rfl) rfl) (fun _ h => h) (by decide +kernel) ?_
  refine jm_S (x := 1059) (n := 3) (as := [.int (iI i), .int (iI n), wz]) (rest := []) F hw hl.1 (j_zpck (V := V) hw9 hi) (jw72 9 rfl) (jw72 10 rfl) (jw72 11 rfl) (jw72 12 rfl) ⟨by decide, by decide, by decide +kernel⟩ rfl ⟨Nat.le_of_ble_eq_true rfl, Nat.le_of_ble_eq_true rfl, by show _ ≤ 0; omega, by show _ ≤ 0; omega⟩ (Nat.le_of_ble_eq_true rfl) (by decide +kernel) rfl (fun v9 V9 hG H locs hw => ?_)
  obtain ⟨rfl, e9⟩ := hG
  rw [e9] at hw
  refine W.eq (g2 := F0 m 8 ls [.int (iI i)]) rfl ?_
  refine lv_pop hx hb (by decide +kernel) rfl ?_
  exact jm_vret F hlk hrt hw ⟨rfl, rfl⟩ (by omega) (by omega) (by decide +kernel)
theorem j_schl {V : va_W} {q zv : Nat} {zL : List Int} (hz : (q, zv, zL) ∈ S) {i : Nat} (hi : i < zL.length) : JM l D A ad adV cA S jy10_charAt prog_29_method_2_code 2 (some .char) 2 0 0 [.ref zv, .int (iI (i : Int))] V (fun r V' => r = some (.int (iI (zL.getD i 0))) ∧ V' = V) := by
  refine jm_of (by decide) ?_ (Nat.le_of_ble_eq_true rfl)
  rintro p e s m args below meth c F hlk hrt hmn hw ls hl
  have hl : lv_has ls 2 [(0, .ref zv), (1, .int (iI (i : Int)))] := hl
  obtain ⟨hx, hb, hml, hown, hts, hK, hWX, hA, hDG, hSS⟩ := id F
  obtain ⟨zO, zco, zva, zar, zch, zle⟩ := (hSS _ hz).parts
  have f9 := asc' (zch _ (getD_in hi))
  have f4 : ((iI (zL.getD i 0) &&& iI 255).toUInt32 % 65536).toInt32 = iI (zL.getD i 0) := f9.1
  have f5 := f9.2.1
  refine lv_iload_n hx hb (k := 1) (i := 1) (x := iI (i : Int)) (by decide +kernel) rfl (lv_at hl 1 rfl) ?_
  refine lv_aload_n hx hb (k := 0) (i := 0) (x := zv) (by decide +kernel) rfl (lv_at hl 0 rfl) ?_
  refine va_tlen hx hb zar hw.2.2 (v := iI (zL.length : Int)) (iI_nI _).symm (by decide +kernel) ?_
  refine jm_S (x := 9) (n := 2) (as := [.int (iI (i : Int)), .int (iI (zL.length : Int))]) (rest := []) F hw hl.1 (j_zchk (V := V) ⟨by omega, by omega, by omega⟩) (jw72 13 rfl) (jw72 14 rfl) (jw72 5 rfl) (jw72 15 rfl) ⟨by decide, by decide, by decide +kernel⟩ rfl ⟨Nat.le_of_ble_eq_true rfl, Nat.le_of_ble_eq_true rfl, by show _ ≤ 0; omega, by show _ ≤ 0; omega⟩ (Nat.le_of_ble_eq_true rfl) (by decide +kernel) rfl (fun v9 V9 hG H locs hw => ?_)
  obtain ⟨rfl, e9⟩ := hG
  rw [e9] at hw
  refine W.eq (g2 := F0 m 6 ls []) rfl ?_
  refine lv_aload_n hx hb (k := 0) (i := 0) (x := zv) (by decide +kernel) rfl (lv_at hl 0 rfl) ?_
  refine lv_iload_n hx hb (k := 1) (i := 1) (x := iI (i : Int)) (by decide +kernel) rfl (lv_at hl 1 rfl) ?_
  refine va_tb hx hb zar hw.2.2 (i := iI (i : Int)) (v := .int (iI (zL.getD i 0))) (iI_in (n := zL.length) ⟨by omega, by omega⟩ (by omega)).1 (by rw [(iI_in (n := zL.length) (z := (i : Int)) ⟨by omega, by omega⟩ (by omega)).2, Int.toNat_natCast]; rfl) (by decide +kernel) ?_
  refine lv_sipush hx hb (n := 255) (v := iI 255) (by decide +kernel) (by decide) ?_
  refine lv_iand hx hb (by decide +kernel) ?_
  refine lv_i2c hx hb (by decide +kernel) f4 ?_
  exact jm_zret F hlk hrt hw (show narrow .char (.int (iI (zL.getD i 0))) = .int (iI (zL.getD i 0)) from congrArg Value.int f5) ⟨rfl, rfl⟩ (by omega) (by omega) (by decide +kernel)
theorem j_schr {V : va_W} {q zv : Nat} {zL : List Int} (hz : (q, zv, zL) ∈ S) {i : Nat} (hi : i < zL.length) : JM l D A ad adV cA S jy8_charAt prog_27_method_56_code 2 (some .char) 3 0 0 [.ref q, .int (iI (i : Int))] V (fun r V' => r = some (.int (iI (zL.getD i 0))) ∧ V' = V) := by
  refine jm_of (by decide) ?_ (Nat.le_of_ble_eq_true rfl)
  rintro p e s m args below meth c F hlk hrt hmn hw ls hl
  have hl : lv_has ls 2 [(0, .ref q), (1, .int (iI (i : Int)))] := hl
  obtain ⟨hx, hb, hml, hown, hts, hK, hWX, hA, hDG, hSS⟩ := id F
  obtain ⟨zO, zco, zva, zar, zch, zle⟩ := (hSS _ hz).parts
  have f5 := (asc' (zch _ (getD_in hi))).2.1
  refine lv_aload_n hx hb (k := 0) (i := 0) (x := q) (by decide +kernel) rfl (lv_at hl 0 rfl) ?_
  refine jm_V (C := RST) (b := q) (x := 492) (n := 0) (as := []) (rest := []) F hw hl.1 (j_slat (V := V) hz) ((by obtain ⟨cell, g1, g2, g3, -⟩ := zO.keep hw.2.2.2.1; exact ⟨cell, g1, g2, g3⟩)) (ts_of' hts (jw72 19 rfl) rfl) (jw72 16 rfl) (jw72 17 rfl) (jw72 5 rfl) (jw72 18 rfl) ⟨by decide, by decide, by decide +kernel⟩ rfl ⟨Nat.le_of_ble_eq_true rfl, Nat.le_of_ble_eq_true rfl, by show _ ≤ 0; omega, by show _ ≤ 0; omega⟩ (Nat.le_of_ble_eq_true rfl) (by decide +kernel) rfl (fun v9 V9 hG H locs hw => ?_)
  obtain ⟨rfl, e9⟩ := hG
  rw [e9] at hw
  refine W.eq (g2 := F0 m 4 ls [.int (iI 1)]) rfl ?_
  refine lz_if_eq hx hb (a := 1) (off := 12) (tgt := 16) (by decide +kernel) (by decide) ⟨by decide, by decide⟩ (fun h9 => absurd h9 (by decide)) (fun _ => ?_)
  refine lv_aload_n hx hb (k := 0) (i := 0) (x := q) (by decide +kernel) rfl (lv_at hl 0 rfl) ?_
  refine vk_getf (o := RST) (ref := RST) hx hb zva hw.2.2 hown (ts_of' hts (jw72 2 rfl) rfl) (fun _ h => h) (by decide +kernel) ?_
  refine W.eq (g2 := F0 m 11 ls [.ref zv]) rfl ?_
  refine lv_iload_n hx hb (k := 1) (i := 1) (x := iI (i : Int)) (by decide +kernel) rfl (lv_at hl 1 rfl) ?_
  refine jm_S (x := 495) (n := 2) (as := [.ref zv, .int (iI (i : Int))]) (rest := []) F hw hl.1 (j_schl (V := V) hz hi) (jw72 20 rfl) (jw72 21 rfl) (jw72 22 rfl) (jw72 23 rfl) ⟨by decide, by decide, by decide +kernel⟩ rfl ⟨Nat.le_of_ble_eq_true rfl, Nat.le_of_ble_eq_true rfl, by show _ ≤ 0; omega, by show _ ≤ 0; omega⟩ (Nat.le_of_ble_eq_true rfl) (by decide +kernel) rfl (fun v9 V9 hG H locs hw => ?_)
  obtain ⟨rfl, e9⟩ := hG
  rw [e9] at hw
  refine W.eq (g2 := F0 m 15 ls [.int (iI (zL.getD i 0))]) rfl ?_
  exact jm_zret F hlk hrt hw (show narrow .char (.int (iI (zL.getD i 0))) = .int (iI (zL.getD i 0)) from congrArg Value.int f5) ⟨rfl, rfl⟩ (by omega) (by omega) (by decide +kernel)
end JB2
