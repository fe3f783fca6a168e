/-! digits, constructors, toString: printed by wip/p39/db70.py -/
section JB4
variable {p : Program} {l : Launch} {e : Env} {R : Room} {s : State} {m : MethodId} {args : Array Value} {below : List Frame} {meth : Method} {c : Code} {H : Heap} {locs : List Loc} {cells slots : Nat} {Q : State → Prop}
variable {D : va_G} {A : Nat → Prop} {ad adV : Nat → Nat} {cA : Nat → ClassId} {S : List (Nat × Nat × List Int)} {own : String} {cc : ByteArray} {nL0 : Nat}
theorem jneg {a : Int} : - iI a = iI (-a) := (Int32.ofInt_neg a).symm
/-- the digits of a number below 100 -/
def dgs (k : Nat) : List Int := if k < 10 then [48 + (k : Int) % 10] else [48 + (k : Int) / 10, 48 + (k : Int) % 10]
theorem dgs_1 {k : Nat} (h : k < 10) : dgs k = [48 + (k : Int) % 10] := if_pos h
theorem dgs_2 {k : Nat} (h : 10 ≤ k) : dgs k = [48 + (k : Int) / 10, 48 + (k : Int) % 10] := if_neg (by omega)
theorem dgl_1 {k : Nat} (h : k < 10) : (dgs k).length = 1 := by rw [dgs_1 h]; rfl
theorem dgl_2 {k : Nat} (h : 10 ≤ k) : (dgs k).length = 2 := by rw [dgs_2 h]; rfl
theorem dgl_le {k : Nat} : 1 ≤ (dgs k).length ∧ (dgs k).length ≤ 2 := by
  by_cases h : k < 10
  · rw [dgl_1 h]; omega
  · rw [dgl_2 (by omega)]; omega
theorem dgs_in {k : Nat} (hk : k < 100) : ∀ x ∈ dgs k, 0 ≤ x ∧ x < 128 := by
  intro x hx
  by_cases h : k < 10
  · rw [dgs_1 h] at hx
    simp only [List.mem_singleton] at hx
    omega
  · rw [dgs_2 (by omega)] at hx
    simp only [List.mem_cons, List.not_mem_nil, or_false] at hx
    omega
theorem dgT_i (k : Nat) : dgT k = .int (iI (48 + (k : Int) / 10)) := by
  unfold dgT
  rw [show (48 + (k : Int) / 10) = ((48 + k / 10 : Nat) : Int) by omega, iI_nI]
  rfl
theorem dgO_i (k : Nat) : dgO k = .int (iI (48 + (k : Int) % 10)) := by
  unfold dgO
  rw [show (48 + (k : Int) % 10) = ((48 + k % 10 : Nat) : Int) by omega, iI_nI]
  rfl
theorem chs_dg1 {k : Nat} {L : List Int} (h : k < 10) : chs (L ++ dgs k) = upd (chs L) L.length (iI (48 + (k : Int) % 10)) := by
  rw [dgs_1 h, chs_snoc]
theorem chs_dg2 {k : Nat} {L : List Int} (h : 10 ≤ k) : chs (L ++ dgs k) = upd (upd (chs L) (L.length + 1) (iI (48 + (k : Int) % 10))) L.length (iI (48 + (k : Int) / 10)) := by
  rw [dgs_2 h, show L ++ [48 + (k : Int) / 10, 48 + (k : Int) % 10] = (L ++ [48 + (k : Int) / 10]) ++ [48 + (k : Int) % 10] by simp, chs_snoc, chs_snoc, List.length_append]
  funext i
  unfold upd
  rw [List.length_singleton]
  by_cases h1 : i = L.length + 1
  · have h2 : ¬ i = L.length := by omega
    rw [if_pos h1, if_neg h2, if_pos h1]
  · by_cases h2 : i = L.length
    · rw [if_neg h1, if_pos h2, if_pos h2]
    · rw [if_neg h1, if_neg h2, if_neg h2, if_neg h1]
theorem chs_nil : chs [] = fun _ => (0 : Int32) := by
  funext i
  rfl
/-- a string that was built: its two cells -/
abbrev SW (cA : Nat → ClassId) (q q2 : Nat) (L : List Int) : va_W := [(q, .inr (9, [.ref q2, .int (iI 0), .int (iI 0), .int (iI 0)])), (q2, .inl (cA 4, L.length, .inl (chs L)))]
theorem df9b : ∀ j, j < 4 → defaultValue (ty9b j) = vp_V [.null, .int (iI 0), .int (iI 0), .int (iI 0)] j := by
  intro j hj
  match j, hj with
  | 0, _ => rfl
  | 1, _ => rfl
  | 2, _ => rfl
  | 3, _ => rfl
  | j + 4, h => exact absurd h (by omega)
theorem df9s : ∀ j, j < 4 → defaultValue (ty9s j) = vp_V [.null, .int (iI 0), .int (iI 0), .int (iI 0)] j := by
  intro j hj
  match j, hj with
  | 0, _ => rfl
  | 1, _ => rfl
  | 2, _ => rfl
  | 3, _ => rfl
  | j + 4, h => exact absurd h (by omega)
theorem jb_new {ci N idx pc : Nat} {C : String} {T : u_T} {fs rest : List Value} {ls : Array Slot} {V : va_W} {ty : Nat → FieldType} (hty : ∀ k, k < N → parseFieldDescriptor (T k).2.2.1 = some (ty k)) (hin : ∀ w ∈ u_ws C T N, w ∈ TS) (F : FJ own D A ad adV cA S p s m args c cc nL0) (hw : WV D A s V H locs) (h1 : Jvm.Cond.classLink own idx C ∈ lw_tbl) (h2 : Jvm.Cond.instantiable C N ∈ lw_tbl) (h3 : Jvm.Cond.initialized C ∈ lw_tbl) (hc : cls9[ci]? = some (C, T, N)) (hfs : ∀ j, j < N → defaultValue (ty j) = vp_V fs j)
    (hcl : cells + 1 ≤ R.cells) (hsl : slots + N ≤ R.slots) (hd : decode cc pc = .ok (.new idx, 3))
    (kk : ∀ (q : Nat) (H1 : Heap), WV D A s (V ++ [(q, .inr (ci, fs))]) H1 locs → W p l e R s m args below meth c H1 locs (cells + 1) (slots + N) Q (F0 m (pc + 3) ls (.ref q :: rest))) : W p l e R s m args below meth c H locs cells slots Q (F0 m pc ls rest) :=
  va_new F.1 F.2.1 F.2.2.2.2.1 hin ty hty F.2.2.2.1 (ts_of' F.2.2.2.2.1 h1 rfl) (ts_of' F.2.2.2.2.1 h2 rfl) (ts_of' F.2.2.2.2.1 h3 rfl) F.2.2.2.2.2.1 hw.1 hw.2.1 hw.2.2 F.2.2.2.2.2.2.2.1 hc hfs hcl hsl hd (fun q H1 k1 k2 k3 => kk q H1 ⟨k1, k2, k3⟩)
/-- a call of a method that the object's class has in another's place -/
theorem jm_U {C owner : String} {x9 y : MethodName} {bc b0 : ByteArray} {nL n f mc ms x pc b m0 : Nat} {ret r0 : Option FieldType} {as rest st0 : List Value} {ls : Array Slot} {V : va_W} {G : Option Value → va_W → Prop} (F : FJ own D A ad adV cA S p s m args c cc nL0) (hw : WV D A s V H locs) (hl : ls.size = nL0) (hM : JM l D A ad adV cA S y bc nL ret f mc ms (.ref b :: as) V G)
    (hr : ∃ cellB : Cell, H[b]? = some cellB ∧ cellB.vm.isStatics = false ∧ s.vm.findClass C = some cellB.cls)
    (hlink : Jvm.Cond.methodLink own x x9 ∈ lw_tbl) (hsame : Jvm.Cond.sameMethod x9.cls owner x9.name x9.desc ∈ lw_tbl) (g1 : Jvm.Cond.instanceMethod ⟨owner, x9.name, x9.desc⟩ ∈ lw_tbl) (g2 : Jvm.Cond.code ⟨owner, x9.name, x9.desc⟩ b0 m0 r0 ∈ lw_tbl) (hsel : Jvm.Cond.selects C x9 y ∈ lw_tbl) (h1 : Jvm.Cond.instanceMethod y ∈ lw_tbl) (h3 : Jvm.Cond.initialized y.cls ∈ lw_tbl) (h4 : Jvm.Cond.code y bc nL ret ∈ lw_tbl)
    (_ : x9.cls = owner) (hy : owner ≠ "java/lang/invoke/MethodHandle" ∧ owner ≠ "java/lang/invoke/VarHandle" ∧ (parseMethodDescriptor x9.desc).map (fun d => d.parameters.length) = some n) (hn : as.length = n)
    (hR : f + 1 ≤ R.frames ∧ 8 + (nL + 11) + 60 * f ≤ R.locals ∧ cells + mc ≤ R.cells ∧ slots + ms ≤ R.slots) (h8 : (rest.map fun v => v.category).sum ≤ 8) (hd : decode cc pc = .ok (.invokevirtual x, 3)) (hst : st0 = as.reverse ++ .ref b :: rest)
    (kk : ∀ (v : Option Value) (V' : va_W), G v V' → ∀ (H1 : Heap) (locs1 : List Loc), WV D A s V' H1 locs1 → W p l e R s m args below meth c H1 locs1 (cells + mc) (slots + ms) Q (F0 m (pc + 3) ls (v.toList ++ rest))) : W p l e R s m args below meth c H locs cells slots Q (F0 m pc ls st0) := by
  obtain ⟨hx, hb, hml, hown, hts, hK, hWX, hA, hDG, hSS⟩ := F
  obtain ⟨hP, hD, hS⟩ := hw
  have hG := good_B h4
  refine jm_ran (va_runU (own := own) (C := C) (owner := owner) (x := x9) (y := y) (Ts := TS) (b := b) (As := as) ⟨hx, hb, rfl, hown, hts⟩ hM ⟨⟨rfl, rfl, hR.1, hR.2.1, pay_in hts hG, List.mem_cons_self⟩, hts _ (hG _ List.mem_cons_self).1, ts_of' hts h3 rfl, ⟨hy.1, hy.2.1⟩, fun sig h => ?_, ts_of' hts hlink rfl, ts_of' hts hsame rfl, va_Decl.of (ts_of' hts g1 rfl) (ts_of' hts g2 rfl), ts_of' hts hsel rfl, ts_of' hts h1 rfl⟩ ⟨IJ_blind, hr, IJ_pre hP hD hK hWX hA hDG hSS hS⟩ rfl hn (hl.trans hml.symm) hst (lv_room h8) hd hR.2.2) hS kk
  have h2 := hy.2.2
  rw [h] at h2
  exact (Option.some.inj h2).symm
def jw74W : List Jvm.Cond := [.fieldLink "java/lang/Integer" 83 "java/lang/Integer" "DigitOnes" "[B",
  .fieldLink "java/lang/Integer" 87 "java/lang/Integer" "DigitTens" "[B",
  .fieldLink RAS 79 (TX9b 3).1 (TX9b 3).2.1 (TX9b 3).2.2.1,
  .methodLink RAS 245 jy20_stringSize,
  .static jy20_stringSize,
  .initialized "java/lang/Integer",
  .code jy20_stringSize prog_23_method_13_code 4 (some .int),
  .methodLink RAS 100 jy4_ensureCapacityInternal,
  .instanceMethod jy4_ensureCapacityInternal,
  .initialized RAS,
  .code jy4_ensureCapacityInternal prog_12_method_9_code 3 (none),
  .methodLink RAS 83 jy0_isLatin1,
  .instanceMethod jy0_isLatin1,
  .code jy0_isLatin1 prog_12_method_68_code 1 (some .boolean),
  .selects RX9b jy0_isLatin1 jy0_isLatin1,
  .fieldLink RAS 15 (TX9b 0).1 (TX9b 0).2.1 (TX9b 0).2.2.1,
  .methodLink RAS 248 jy21_getChars,
  .static jy21_getChars,
  .code jy21_getChars prog_23_method_12_code 7 (some .int),
  .methodLink RX9b 53 jy22_append,
  .instanceMethod jy22_append,
  .code jy22_append prog_12_method_32_code 4 (some (.object "java/lang/AbstractStringBuilder")),
  .superclass RX9b jy22_append.cls,
  .sameMethod jy22_append.cls jy22_append.cls jy22_append.name jy22_append.desc,
  .methodLink RAS 3 Lib.objectInit,
  .instanceMethod Lib.objectInit,
  .code Lib.objectInit ⟨#[0xb1]⟩ 1 none,
  .fieldLink RAS 18 RST "COMPACT_STRINGS" "Z",
  .fieldLink RAS 22 (TX9b 1).1 (TX9b 1).2.1 (TX9b 1).2.2.1,
  .methodLink RX9b 1 jy24_ini,
  .instanceMethod jy24_ini,
  .code jy24_ini prog_12_method_2_code 2 (none),
  .methodLink "java/util/Arrays" 343 jy26_checkLength,
  .static jy26_checkLength,
  .initialized "java/util/Arrays",
  .code jy26_checkLength prog_36_method_131_code 2 (none),
  .methodLink "java/util/Arrays" 304 Lib.Math.min.name,
  .methodLink "java/util/Arrays" 150 arraycopyName,
  .methodLink "java/util/Arrays" 339 jy27_copyOfRangeByte,
  .static jy27_copyOfRangeByte,
  .code jy27_copyOfRangeByte prog_36_method_133_code 5 (some (.array .byte)),
  .methodLink RX9b 343 jy30_length,
  .instanceMethod jy30_length,
  .code jy30_length prog_12_method_6_code 1 (some .int),
  .superclass RX9b jy30_length.cls,
  .sameMethod jy30_length.cls jy30_length.cls jy30_length.name jy30_length.desc,
  .methodLink RST 1 Lib.objectInit,
  .methodLink RST 552 jy29_getValue,
  .instanceMethod jy29_getValue,
  .code jy29_getValue prog_12_method_64_code 1 (some (.array .byte)),
  .selects RX9b jy29_getValue jy29_getValue,
  .methodLink RST 549 jy30_length,
  .sameMethod RAS RAS jy30_length.name jy30_length.desc,
  .selects RX9b jy30_length jy31_length,
  .instanceMethod jy31_length,
  .initialized RX9b,
  .code jy31_length prog_28_method_93_code 1 (some .int),
  .methodLink RST 1047 jy0_isLatin1,
  .fieldLink RST 15 (TX9s 1).1 (TX9s 1).2.1 (TX9s 1).2.2.1,
  .methodLink RST 54 jy28_copyOfRange,
  .static jy28_copyOfRange,
  .code jy28_copyOfRange prog_36_method_132_code 3 (some (.array .byte)),
  .fieldLink RST 9 (TX9s 0).1 (TX9s 0).2.1 (TX9s 0).2.2.1,
  .methodLink RST 489 jy32_ini,
  .instanceMethod jy32_ini,
  .initialized RST,
  .code jy32_ini prog_27_method_150_code 5 (none),
  .classLink RX9b 18 RX9s,
  .instantiable RX9s 4,
  .initialized RX9s,
  .methodLink RX9b 137 jy33_ini,
  .instanceMethod jy33_ini,
  .code jy33_ini prog_27_method_53_code 2 (none)]
theorem jw74_in : ∀ w ∈ jw74W, w ∈ lw_tbl := by decide +kernel
theorem jw74 (k : Nat) {w : Jvm.Cond} (h : jw74W[k]? = some w) : w ∈ lw_tbl := jw74_in w (List.mem_of_getElem? h)
theorem j_size {V : va_W} {k : Nat} (hk : k < 100) : JM l D A ad adV cA S jy20_stringSize prog_23_method_13_code 4 (some .int) 0 0 0 [.int (iI (k : Int))] V (fun r V' => r = some (.int (iI ((dgs k).length : Int))) ∧ V' = V) := by
  refine jm_of (by decide) ?_ (Nat.le_of_ble_eq_true rfl)
  rintro p e s m args below meth c F hlk hrt hmn hw ls hl
  have hl : lv_has ls 4 [(0, .int (iI (k : Int)))] := hl
  obtain ⟨hx, hb, hml, hown, hts, hK, hWX, hA, hDG, hSS⟩ := id F
  refine lv_iconst hx hb (n := 1) (v := iI 1) (by decide +kernel) rfl ?_
  refine lv_istore_n hx hb (k := 1) (i := 1) (lv' := [(1, .int (iI 1)), (0, .int (iI (k : Int)))]) (by decide +kernel) rfl hl (by decide) rfl (fun ls hl => ?_)
  refine lv_iload_n hx hb (k := 0) (i := 0) (x := iI (k : Int)) (by decide +kernel) rfl (lv_at hl 1 rfl) ?_
  refine lz_if_lt hx hb (a := (k : Int)) (off := 8) (tgt := 11) (by decide +kernel) (by decide) ⟨by omega, by omega⟩ (fun h9 => absurd h9 (by omega)) (fun _ => ?_)
  refine lv_iconst hx hb (n := 0) (v := iI 0) (by decide +kernel) rfl ?_
  refine lv_istore_n hx hb (k := 1) (i := 1) (lv' := [(1, .int (iI 0)), (0, .int (iI (k : Int)))]) (by decide +kernel) rfl hl (by decide) rfl (fun ls hl => ?_)
  refine lv_iload_n hx hb (k := 0) (i := 0) (x := iI (k : Int)) (by decide +kernel) rfl (lv_at hl 1 rfl) ?_
  refine lv_ineg hx hb (x := iI (k : Int)) (by decide +kernel) ?_
  rw [jneg]
  refine lv_istore_n hx hb (k := 0) (i := 0) (lv' := [(0, .int (iI (-(k : Int)))), (1, .int (iI 0))]) (by decide +kernel) rfl hl (by decide) rfl (fun ls hl => ?_)
  refine lv_bipush hx hb (n := (-10)) (v := iI (-10)) (by decide +kernel) (by decide) ?_
  refine lv_istore_n hx hb (k := 2) (i := 2) (lv' := [(2, .int (iI (-10))), (0, .int (iI (-(k : Int)))), (1, .int (iI 0))]) (by decide +kernel) rfl hl (by decide) rfl (fun ls hl => ?_)
  refine lv_iconst hx hb (n := 1) (v := iI 1) (by decide +kernel) rfl ?_
  refine lv_istore_n hx hb (k := 3) (i := 3) (lv' := [(3, .int (iI 1)), (2, .int (iI (-10))), (0, .int (iI (-(k : Int)))), (1, .int (iI 0))]) (by decide +kernel) rfl hl (by decide) rfl (fun ls hl => ?_)
  refine lv_iload_n hx hb (k := 3) (i := 3) (x := iI 1) (by decide +kernel) rfl (lv_at hl 0 rfl) ?_
  refine lv_bipush hx hb (n := 10) (v := iI 10) (by decide +kernel) (by decide) ?_
  refine lz_icmp_ge hx hb (a := 1) (b := 10) (off := 23) (tgt := 42) (by decide +kernel) (by decide) ⟨by decide, by decide⟩ ⟨by decide, by decide⟩ (fun h9 => absurd h9 (by decide)) (fun _ => ?_)
  refine lv_iload_n hx hb (k := 0) (i := 0) (x := iI (-(k : Int))) (by decide +kernel) rfl (lv_at hl 2 rfl) ?_
  refine lv_iload_n hx hb (k := 2) (i := 2) (x := iI (-10)) (by decide +kernel) rfl (lv_at hl 1 rfl) ?_
  refine lz_icmp_le hx hb (a := (-(k : Int))) (b := (-10)) (off := 7) (tgt := 31) (by decide +kernel) (by decide) ⟨by omega, by omega⟩ ⟨by decide, by decide⟩ (fun h3 => ?_) (fun h3 => ?_)
  ·
    refine lv_bipush hx hb (n := 10) (v := iI 10) (by decide +kernel) (by decide) ?_
    refine lv_iload_n hx hb (k := 2) (i := 2) (x := iI (-10)) (by decide +kernel) rfl (lv_at hl 1 rfl) ?_
    refine lz_imul hx hb (a := 10) (b := (-10)) (by decide +kernel) ?_
    refine W.eq (g2 := F0 m 35 ls [.int (iI (-100))]) rfl ?_
    refine lv_istore_n hx hb (k := 2) (i := 2) (lv' := [(2, .int (iI (-100))), (3, .int (iI 1)), (0, .int (iI (-(k : Int)))), (1, .int (iI 0))]) (by decide +kernel) rfl hl (by decide) rfl (fun ls hl => ?_)
    refine lv_iinc hx hb (i := 3) (n := 1) (v := iI 2) (lv' := [(3, .int (iI 2)), (2, .int (iI (-100))), (0, .int (iI (-(k : Int)))), (1, .int (iI 0))]) (by decide +kernel) hl (k := 1) rfl (iI_add _ _) (by decide) rfl (fun ls hl => ?_)
    refine lv_goto hx hb (off := (-23)) (tgt := 16) (by decide +kernel) (by decide) ?_
    refine lv_iload_n hx hb (k := 3) (i := 3) (x := iI 2) (by decide +kernel) rfl (lv_at hl 0 rfl) ?_
    refine lv_bipush hx hb (n := 10) (v := iI 10) (by decide +kernel) (by decide) ?_
    refine lz_icmp_ge hx hb (a := 2) (b := 10) (off := 23) (tgt := 42) (by decide +kernel) (by decide) ⟨by decide, by decide⟩ ⟨by decide, by decide⟩ (fun h9 => absurd h9 (by decide)) (fun _ => ?_)
    refine lv_iload_n hx hb (k := 0) (i := 0) (x := iI (-(k : Int))) (by decide +kernel) rfl (lv_at hl 2 rfl) ?_
    refine lv_iload_n hx hb (k := 2) (i := 2) (x := iI (-100)) (by decide +kernel) rfl (lv_at hl 1 rfl) ?_
    refine lz_icmp_le hx hb (a := (-(k : Int))) (b := (-100)) (off := 7) (tgt := 31) (by decide +kernel) (by decide) ⟨by omega, by omega⟩ ⟨by decide, by decide⟩ (fun h9 => absurd h9 (by omega)) (fun _ => ?_)
    refine lv_iload_n hx hb (k := 3) (i := 3) (x := iI 2) (by decide +kernel) rfl (lv_at hl 0 rfl) ?_
    refine lv_iload_n hx hb (k := 1) (i := 1) (x := iI 0) (by decide +kernel) rfl (lv_at hl 3 rfl) ?_
    refine lz_iadd hx hb (a := 2) (b := 0) (by decide +kernel) ?_
    refine W.eq (g2 := F0 m 30 ls [.int (iI 2)]) rfl ?_
    exact jm_zret F hlk hrt hw rfl ⟨(by rw [dgl_2 (by omega)]; try rfl), rfl⟩ (by omega) (by omega) (by decide +kernel)
  ·
    refine lv_iload_n hx hb (k := 3) (i := 3) (x := iI 1) (by decide +kernel) rfl (lv_at hl 0 rfl) ?_
    refine lv_iload_n hx hb (k := 1) (i := 1) (x := iI 0) (by decide +kernel) rfl (lv_at hl 3 rfl) ?_
    refine lz_iadd hx hb (a := 1) (b := 0) (by decide +kernel) ?_
    refine W.eq (g2 := F0 m 30 ls [.int (iI 1)]) rfl ?_
    exact jm_zret F hlk hrt hw rfl ⟨(by rw [dgl_1 (by omega)]; try rfl), rfl⟩ (by omega) (by omega) (by decide +kernel)
theorem j_chars1 {b v n k : Nat} {L : List Int} (hk : k < 10) (hn : L.length + 1 ≤ n ∧ n ≤ 34) : JM l D A ad adV cA S jy21_getChars prog_23_method_12_code 7 (some .int) 0 0 0 [.int (iI (k : Int)), .int (iI ((L.length : Int) + 1)), .ref v] ((BW cA b v n L)) (fun r V' => (∃ x : Int32, r = some (.int x)) ∧ V' = [(b, .inr (8, [.ref v, .int (iI 0), .int (iI 0), .int (iI (L.length : Int))])), (v, .inl (cA 4, n, .inl (chs (L ++ dgs k))))]) := by
  refine jm_of (by decide) ?_ (Nat.le_of_ble_eq_true rfl)
  rintro p e s m args below meth c F hlk hrt hmn hw ls hl
  have hl : lv_has ls 7 [(0, .int (iI (k : Int))), (1, .int (iI ((L.length : Int) + 1))), (2, .ref v)] := hl
  obtain ⟨hx, hb, hml, hown, hts, hK, hWX, hA, hDG, hSS⟩ := id F
  obtain ⟨⟨tT, hzT, htT⟩, ⟨tO, hzO, htO⟩, -⟩ := hDG
  refine lv_iload_n hx hb (k := 1) (i := 1) (x := iI ((L.length : Int) + 1)) (by decide +kernel) rfl (lv_at hl 1 rfl) ?_
  refine lv_istore hx hb (i := 5) (lv' := [(5, .int (iI ((L.length : Int) + 1))), (0, .int (iI (k : Int))), (1, .int (iI ((L.length : Int) + 1))), (2, .ref v)]) (by decide +kernel) hl (by decide) rfl (fun ls hl => ?_)
  refine lv_iload_n hx hb (k := 0) (i := 0) (x := iI (k : Int)) (by decide +kernel) rfl (lv_at hl 1 rfl) ?_
  refine lz_if_ge hx hb (a := (k : Int)) (off := 7) (tgt := 11) (by decide +kernel) (by decide) ⟨by omega, by omega⟩ (fun _ => ?_) (fun h9 => absurd (by omega) h9)
  refine lv_iconst hx hb (n := 0) (v := iI 0) (by decide +kernel) rfl ?_
  refine lv_istore hx hb (i := 6) (lv' := [(6, .int (iI 0)), (5, .int (iI ((L.length : Int) + 1))), (0, .int (iI (k : Int))), (1, .int (iI ((L.length : Int) + 1))), (2, .ref v)]) (by decide +kernel) hl (by decide) rfl (fun ls hl => ?_)
  refine lv_iload hx hb (i := 6) (x := iI 0) (by decide +kernel) (lv_at hl 0 rfl) ?_
  refine lz_if_ne hx hb (a := 0) (off := 6) (tgt := 22) (by decide +kernel) (by decide) ⟨by decide, by decide⟩ (fun h9 => absurd h9 (by decide)) (fun _ => ?_)
  refine lv_iload_n hx hb (k := 0) (i := 0) (x := iI (k : Int)) (by decide +kernel) rfl (lv_at hl 2 rfl) ?_
  refine lv_ineg hx hb (x := iI (k : Int)) (by decide +kernel) ?_
  rw [jneg]
  refine lv_istore_n hx hb (k := 0) (i := 0) (lv' := [(0, .int (iI (-(k : Int)))), (6, .int (iI 0)), (5, .int (iI ((L.length : Int) + 1))), (1, .int (iI ((L.length : Int) + 1))), (2, .ref v)]) (by decide +kernel) rfl hl (by decide) rfl (fun ls hl => ?_)
  refine lv_iload_n hx hb (k := 0) (i := 0) (x := iI (-(k : Int))) (by decide +kernel) rfl (lv_at hl 0 rfl) ?_
  refine lv_bipush hx hb (n := (-100)) (v := iI (-100)) (by decide +kernel) (by decide) ?_
  refine lz_icmp_gt hx hb (a := (-(k : Int))) (b := (-100)) (off := 47) (tgt := 72) (by decide +kernel) (by decide) ⟨by omega, by omega⟩ ⟨by decide, by decide⟩ (fun _ => ?_) (fun h9 => absurd (by omega) h9)
  refine lv_aload_n hx hb (k := 2) (i := 2) (x := v) (by decide +kernel) rfl (lv_at hl 4 rfl) ?_
  refine lv_iinc hx hb (i := 5) (n := (-1)) (v := iI (((L.length : Int) + 1) + (-1))) (lv' := [(5, .int (iI (((L.length : Int) + 1) + (-1)))), (0, .int (iI (-(k : Int)))), (6, .int (iI 0)), (1, .int (iI ((L.length : Int) + 1))), (2, .ref v)]) (by decide +kernel) hl (k := 2) rfl (iI_add _ _) (by decide) rfl (fun ls hl => ?_)
  refine lv_iload hx hb (i := 5) (x := iI (((L.length : Int) + 1) + (-1))) (by decide +kernel) (lv_at hl 0 rfl) ?_
  refine va_gets (C := "java/lang/Integer") (ref := "java/lang/Integer") hx hb hzO hw.2.2 hown (ts_of' hts (jw74 0 rfl) rfl) (fun _ h => h) (by decide +kernel) ?_
  refine lv_iload_n hx hb (k := 0) (i := 0) (x := iI (-(k : Int))) (by decide +kernel) rfl (lv_at hl 1 rfl) ?_
  refine lv_ineg hx hb (x := iI (-(k : Int))) (by decide +kernel) ?_
  rw [jneg, Int.neg_neg]
  refine va_tb hx hb htO hw.2.2 (i := iI (k : Int)) (v := .int (iI (48 + (k : Int) % 10))) (iI_in (n := 100) ⟨by omega, by omega⟩ (by omega)).1 (by rw [(iI_in (n := 100) (z := (k : Int)) ⟨by omega, by omega⟩ (by omega)).2, Int.toNat_natCast]; exact dgO_i k) (by decide +kernel) ?_
  refine jb_bast (k := 1) F hw rfl (i := L.length) (z := (((L.length : Int) + 1) + (-1))) (x := (48 + (k : Int) % 10)) (by omega) (by omega) (asc' ⟨by omega, by omega⟩).2.2.1 (by decide +kernel) (fun H locs hw => ?_)
  refine lv_iload_n hx hb (k := 0) (i := 0) (x := iI (-(k : Int))) (by decide +kernel) rfl (lv_at hl 1 rfl) ?_
  refine lv_bipush hx hb (n := (-9)) (v := iI (-9)) (by decide +kernel) (by decide) ?_
  refine lz_icmp_ge hx hb (a := (-(k : Int))) (b := (-9)) (off := 16) (tgt := 104) (by decide +kernel) (by decide) ⟨by omega, by omega⟩ ⟨by decide, by decide⟩ (fun _ => ?_) (fun h9 => absurd (by omega) h9)
  refine lv_iload hx hb (i := 6) (x := iI 0) (by decide +kernel) (lv_at hl 2 rfl) ?_
  refine lz_if_eq hx hb (a := 0) (off := 12) (tgt := 118) (by decide +kernel) (by decide) ⟨by decide, by decide⟩ (fun _ => ?_) (fun h9 => absurd (by decide) h9)
  refine lv_iload hx hb (i := 5) (x := iI (((L.length : Int) + 1) + (-1))) (by decide +kernel) (lv_at hl 0 rfl) ?_
  exact jm_zret F hlk hrt hw rfl ⟨⟨_, rfl⟩, by rw [chs_dg1 (by omega)]; rfl⟩ (by omega) (by omega) (by decide +kernel)
theorem j_chars2 {b v n k : Nat} {L : List Int} (hk : 10 ≤ k ∧ k < 100) (hn : L.length + 2 ≤ n ∧ n ≤ 34) : JM l D A ad adV cA S jy21_getChars prog_23_method_12_code 7 (some .int) 0 0 0 [.int (iI (k : Int)), .int (iI ((L.length : Int) + 2)), .ref v] ((BW cA b v n L)) (fun r V' => (∃ x : Int32, r = some (.int x)) ∧ V' = [(b, .inr (8, [.ref v, .int (iI 0), .int (iI 0), .int (iI (L.length : Int))])), (v, .inl (cA 4, n, .inl (chs (L ++ dgs k))))]) := by
  refine jm_of (by decide) ?_ (Nat.le_of_ble_eq_true rfl)
  rintro p e s m args below meth c F hlk hrt hmn hw ls hl
  have hl : lv_has ls 7 [(0, .int (iI (k : Int))), (1, .int (iI ((L.length : Int) + 2))), (2, .ref v)] := hl
  obtain ⟨hx, hb, hml, hown, hts, hK, hWX, hA, hDG, hSS⟩ := id F
  obtain ⟨⟨tT, hzT, htT⟩, ⟨tO, hzO, htO⟩, -⟩ := hDG
  refine lv_iload_n hx hb (k := 1) (i := 1) (x := iI ((L.length : Int) + 2)) (by decide +kernel) rfl (lv_at hl 1 rfl) ?_
  refine lv_istore hx hb (i := 5) (lv' := [(5, .int (iI ((L.length : Int) + 2))), (0, .int (iI (k : Int))), (1, .int (iI ((L.length : Int) + 2))), (2, .ref v)]) (by decide +kernel) hl (by decide) rfl (fun ls hl => ?_)
  refine lv_iload_n hx hb (k := 0) (i := 0) (x := iI (k : Int)) (by decide +kernel) rfl (lv_at hl 1 rfl) ?_
  refine lz_if_ge hx hb (a := (k : Int)) (off := 7) (tgt := 11) (by decide +kernel) (by decide) ⟨by omega, by omega⟩ (fun _ => ?_) (fun h9 => absurd (by omega) h9)
  refine lv_iconst hx hb (n := 0) (v := iI 0) (by decide +kernel) rfl ?_
  refine lv_istore hx hb (i := 6) (lv' := [(6, .int (iI 0)), (5, .int (iI ((L.length : Int) + 2))), (0, .int (iI (k : Int))), (1, .int (iI ((L.length : Int) + 2))), (2, .ref v)]) (by decide +kernel) hl (by decide) rfl (fun ls hl => ?_)
  refine lv_iload hx hb (i := 6) (x := iI 0) (by decide +kernel) (lv_at hl 0 rfl) ?_
  refine lz_if_ne hx hb (a := 0) (off := 6) (tgt := 22) (by decide +kernel) (by decide) ⟨by decide, by decide⟩ (fun h9 => absurd h9 (by decide)) (fun _ => ?_)
  refine lv_iload_n hx hb (k := 0) (i := 0) (x := iI (k : Int)) (by decide +kernel) rfl (lv_at hl 2 rfl) ?_
  refine lv_ineg hx hb (x := iI (k : Int)) (by decide +kernel) ?_
  rw [jneg]
  refine lv_istore_n hx hb (k := 0) (i := 0) (lv' := [(0, .int (iI (-(k : Int)))), (6, .int (iI 0)), (5, .int (iI ((L.length : Int) + 2))), (1, .int (iI ((L.length : Int) + 2))), (2, .ref v)]) (by decide +kernel) rfl hl (by decide) rfl (fun ls hl => ?_)
  refine lv_iload_n hx hb (k := 0) (i := 0) (x := iI (-(k : Int))) (by decide +kernel) rfl (lv_at hl 0 rfl) ?_
  refine lv_bipush hx hb (n := (-100)) (v := iI (-100)) (by decide +kernel) (by decide) ?_
  refine lz_icmp_gt hx hb (a := (-(k : Int))) (b := (-100)) (off := 47) (tgt := 72) (by decide +kernel) (by decide) ⟨by omega, by omega⟩ ⟨by decide, by decide⟩ (fun _ => ?_) (fun h9 => absurd (by omega) h9)
  refine lv_aload_n hx hb (k := 2) (i := 2) (x := v) (by decide +kernel) rfl (lv_at hl 4 rfl) ?_
  refine lv_iinc hx hb (i := 5) (n := (-1)) (v := iI (((L.length : Int) + 2) + (-1))) (lv' := [(5, .int (iI (((L.length : Int) + 2) + (-1)))), (0, .int (iI (-(k : Int)))), (6, .int (iI 0)), (1, .int (iI ((L.length : Int) + 2))), (2, .ref v)]) (by decide +kernel) hl (k := 2) rfl (iI_add _ _) (by decide) rfl (fun ls hl => ?_)
  refine lv_iload hx hb (i := 5) (x := iI (((L.length : Int) + 2) + (-1))) (by decide +kernel) (lv_at hl 0 rfl) ?_
  refine va_gets (C := "java/lang/Integer") (ref := "java/lang/Integer") hx hb hzO hw.2.2 hown (ts_of' hts (jw74 0 rfl) rfl) (fun _ h => h) (by decide +kernel) ?_
  refine lv_iload_n hx hb (k := 0) (i := 0) (x := iI (-(k : Int))) (by decide +kernel) rfl (lv_at hl 1 rfl) ?_
  refine lv_ineg hx hb (x := iI (-(k : Int))) (by decide +kernel) ?_
  rw [jneg, Int.neg_neg]
  refine va_tb hx hb htO hw.2.2 (i := iI (k : Int)) (v := .int (iI (48 + (k : Int) % 10))) (iI_in (n := 100) ⟨by omega, by omega⟩ (by omega)).1 (by rw [(iI_in (n := 100) (z := (k : Int)) ⟨by omega, by omega⟩ (by omega)).2, Int.toNat_natCast]; exact dgO_i k) (by decide +kernel) ?_
  refine jb_bast (k := 1) F hw rfl (i := L.length + 1) (z := (((L.length : Int) + 2) + (-1))) (x := (48 + (k : Int) % 10)) (by omega) (by omega) (asc' ⟨by omega, by omega⟩).2.2.1 (by decide +kernel) (fun H locs hw => ?_)
  refine lv_iload_n hx hb (k := 0) (i := 0) (x := iI (-(k : Int))) (by decide +kernel) rfl (lv_at hl 1 rfl) ?_
  refine lv_bipush hx hb (n := (-9)) (v := iI (-9)) (by decide +kernel) (by decide) ?_
  refine lz_icmp_ge hx hb (a := (-(k : Int))) (b := (-9)) (off := 16) (tgt := 104) (by decide +kernel) (by decide) ⟨by omega, by omega⟩ ⟨by decide, by decide⟩ (fun h9 => absurd h9 (by omega)) (fun _ => ?_)
  refine lv_aload_n hx hb (k := 2) (i := 2) (x := v) (by decide +kernel) rfl (lv_at hl 4 rfl) ?_
  refine lv_iinc hx hb (i := 5) (n := (-1)) (v := iI ((((L.length : Int) + 2) + (-1)) + (-1))) (lv' := [(5, .int (iI ((((L.length : Int) + 2) + (-1)) + (-1)))), (0, .int (iI (-(k : Int)))), (6, .int (iI 0)), (1, .int (iI ((L.length : Int) + 2))), (2, .ref v)]) (by decide +kernel) hl (k := 0) rfl (iI_add _ _) (by decide) rfl (fun ls hl => ?_)
  refine lv_iload hx hb (i := 5) (x := iI ((((L.length : Int) + 2) + (-1)) + (-1))) (by decide +kernel) (lv_at hl 0 rfl) ?_
  refine va_gets (C := "java/lang/Integer") (ref := "java/lang/Integer") hx hb hzT hw.2.2 hown (ts_of' hts (jw74 1 rfl) rfl) (fun _ h => h) (by decide +kernel) ?_
  refine lv_iload_n hx hb (k := 0) (i := 0) (x := iI (-(k : Int))) (by decide +kernel) rfl (lv_at hl 1 rfl) ?_
  refine lv_ineg hx hb (x := iI (-(k : Int))) (by decide +kernel) ?_
  rw [jneg, Int.neg_neg]
  refine va_tb hx hb htT hw.2.2 (i := iI (k : Int)) (v := .int (iI (48 + (k : Int) / 10))) (iI_in (n := 100) ⟨by omega, by omega⟩ (by omega)).1 (by rw [(iI_in (n := 100) (z := (k : Int)) ⟨by omega, by omega⟩ (by omega)).2, Int.toNat_natCast]; exact dgT_i k) (by decide +kernel) ?_
  refine jb_bast (k := 1) F hw rfl (i := L.length) (z := ((((L.length : Int) + 2) + (-1)) + (-1))) (x := (48 + (k : Int) / 10)) (by omega) (by omega) (asc' ⟨by omega, by omega⟩).2.2.1 (by decide +kernel) (fun H locs hw => ?_)
  refine lv_iload hx hb (i := 6) (x := iI 0) (by decide +kernel) (lv_at hl 2 rfl) ?_
  refine lz_if_eq hx hb (a := 0) (off := 12) (tgt := 118) (by decide +kernel) (by decide) ⟨by decide, by decide⟩ (fun _ => ?_) (fun h9 => absurd (by decide) h9)
  refine lv_iload hx hb (i := 5) (x := iI ((((L.length : Int) + 2) + (-1)) + (-1))) (by decide +kernel) (lv_at hl 0 rfl) ?_
  exact jm_zret F hlk hrt hw rfl ⟨⟨_, rfl⟩, by rw [chs_dg2 (by omega)]; rfl⟩ (by omega) (by omega) (by decide +kernel)
theorem j_chars {b v n k : Nat} {L : List Int} (hk : k < 100) (hn : L.length + (dgs k).length ≤ n ∧ n ≤ 34) : JM l D A ad adV cA S jy21_getChars prog_23_method_12_code 7 (some .int) 0 0 0 [.int (iI (k : Int)), .int (iI ((L.length : Int) + ((dgs k).length : Int))), .ref v] (BW cA b v n L) (fun r V' => (∃ x : Int32, r = some (.int x)) ∧ V' = [(b, .inr (8, [.ref v, .int (iI 0), .int (iI 0), .int (iI (L.length : Int))])), (v, .inl (cA 4, n, .inl (chs (L ++ dgs k))))]) := by
  by_cases h : k < 10
  · have e := dgl_1 h
    exact (j_chars1 (L := L) h (by rw [e] at hn; exact hn)).to (by rw [e]; rfl) rfl
  · have e := dgl_2 (k := k) (by omega)
    exact (j_chars2 (L := L) ⟨by omega, hk⟩ (by rw [e] at hn; exact hn)).to (by rw [e]; rfl) rfl
theorem j_appI {b v n k : Nat} {L : List Int} (hk : k < 100) (hL : L.length ≤ n ∧ n ≤ 34) (hc : ∀ x ∈ L, 0 ≤ x ∧ x < 128) (hk9 : L.length + (dgs k).length ≤ n ∨ (n = 16 ∧ L.length + (dgs k).length ≤ 34)) : JM l D A ad adV cA S jy22_append prog_12_method_32_code 4 (some (.object "java/lang/AbstractStringBuilder")) 4 1 34 [.ref b, .int (iI (k : Int))] ((BW cA b v n L)) (fun r V' => r = some (.ref b) ∧ ∃ v', V' = BW cA b v' (capn n ((L.length : Int) + ((dgs k).length : Int))) (L ++ dgs k)) := by
  refine jm_of (by decide) ?_ (Nat.le_of_ble_eq_true rfl)
  rintro p e s m args below meth c F hlk hrt hmn hw ls hl
  have hl : lv_has ls 4 [(0, .ref b), (1, .int (iI (k : Int)))] := hl
  obtain ⟨hx, hb, hml, hown, hts, hK, hWX, hA, hDG, hSS⟩ := id F
  have hdl := dgl_le (k := k)
  refine lv_aload_n hx hb (k := 0) (i := 0) (x := b) (by decide +kernel) rfl (lv_at hl 0 rfl) ?_
  refine jb_get (k := 0) (i := 3) (v := .int (iI (L.length : Int))) F hw rfl (by decide) rfl (jw74 2 rfl) (by decide +kernel) ?_
  refine lv_istore_n hx hb (k := 2) (i := 2) (lv' := [(2, .int (iI (L.length : Int))), (0, .ref b), (1, .int (iI (k : Int)))]) (by decide +kernel) rfl hl (by decide) rfl (fun ls hl => ?_)
  refine lv_iload_n hx hb (k := 2) (i := 2) (x := iI (L.length : Int)) (by decide +kernel) rfl (lv_at hl 0 rfl) ?_
  refine lv_iload_n hx hb (k := 1) (i := 1) (x := iI (k : Int)) (by decide +kernel) rfl (lv_at hl 2 rfl) ?_
  refine jm_S (x := 245) (n := 1) (as := [.int (iI (k : Int))]) (rest := [.int (iI (L.length : Int))]) F hw hl.1 (j_size hk) (jw74 3 rfl) (jw74 4 rfl) (jw74 5 rfl) (jw74 6 rfl) ⟨by decide, by decide, by decide +kernel⟩ rfl ⟨Nat.le_of_ble_eq_true rfl, Nat.le_of_ble_eq_true rfl, by show _ ≤ 1; omega, by show _ ≤ 34; omega⟩ (Nat.le_of_ble_eq_true rfl) (by decide +kernel) rfl (fun v9 V9 hG H locs hw => ?_)
  obtain ⟨rfl, e9⟩ := hG
  rw [e9] at hw
  refine W.eq (g2 := F0 m 10 ls [.int (iI ((dgs k).length : Int)), .int (iI (L.length : Int))]) rfl ?_
  refine lz_iadd hx hb (a := (L.length : Int)) (b := ((dgs k).length : Int)) (by decide +kernel) ?_
  refine lv_istore_n hx hb (k := 3) (i := 3) (lv' := [(3, .int (iI ((L.length : Int) + ((dgs k).length : Int)))), (2, .int (iI (L.length : Int))), (0, .ref b), (1, .int (iI (k : Int)))]) (by decide +kernel) rfl hl (by decide) rfl (fun ls hl => ?_)
  refine lv_aload_n hx hb (k := 0) (i := 0) (x := b) (by decide +kernel) rfl (lv_at hl 2 rfl) ?_
  refine lv_iload_n hx hb (k := 3) (i := 3) (x := iI ((L.length : Int) + ((dgs k).length : Int))) (by decide +kernel) rfl (lv_at hl 0 rfl) ?_
  refine jm_V (C := RX9b) (b := b) (x := 100) (n := 1) (as := [.int (iI ((L.length : Int) + ((dgs k).length : Int)))]) (rest := []) F hw hl.1 (j_ensure hL hc (z := ((L.length : Int) + ((dgs k).length : Int))) ⟨by omega, by omega⟩) (va_recv (q := (RX9b, TX9b, 4)) hK hw.1 rfl (show _[0]? = _ from rfl)) (word_at (State.WarmedH.refl s) (Or.inl rfl) (hDG.2.2 _ (by decide))) (jw74 7 rfl) (jw74 8 rfl) (jw74 9 rfl) (jw74 10 rfl) ⟨by decide, by decide, by decide +kernel⟩ rfl ⟨Nat.le_of_ble_eq_true rfl, Nat.le_of_ble_eq_true rfl, by show _ ≤ 1; omega, by show _ ≤ 34; omega⟩ (Nat.le_of_ble_eq_true rfl) (by decide +kernel) rfl (fun v9 V9 hG H locs hw => ?_)
  obtain ⟨rfl, v2, e9⟩ := hG
  rw [e9] at hw
  have hcn := capn_ge (n := n) (z := (L.length : Int) + ((dgs k).length : Int)) (by omega) (by omega)
  have hn2 : capn n ((L.length : Int) + ((dgs k).length : Int)) ≤ 34 := by rcases hk9 with h9 | ⟨h8, h9⟩ <;> (unfold capn; split <;> omega)
  refine W.eq (g2 := F0 m 17 ls []) rfl ?_
  refine lv_aload_n hx hb (k := 0) (i := 0) (x := b) (by decide +kernel) rfl (lv_at hl 2 rfl) ?_
  refine jm_V (C := RX9b) (b := b) (x := 83) (n := 0) (as := []) (rest := []) F hw hl.1 (j_latB (k := 0) (v := v2) rfl) (va_recv (q := (RX9b, TX9b, 4)) hK hw.1 rfl (show _[0]? = _ from rfl)) (ts_of' hts (jw74 14 rfl) rfl) (jw74 11 rfl) (jw74 12 rfl) (jw74 9 rfl) (jw74 13 rfl) ⟨by decide, by decide, by decide +kernel⟩ rfl ⟨Nat.le_of_ble_eq_true rfl, Nat.le_of_ble_eq_true rfl, by show _ ≤ 1; omega, by show _ ≤ 34; omega⟩ (Nat.le_of_ble_eq_true rfl) (by decide +kernel) rfl (fun v9 V9 hG H locs hw => ?_)
  obtain ⟨rfl, e9⟩ := hG
  rw [e9] at hw
  refine W.eq (g2 := F0 m 21 ls [.int (iI 1)]) rfl ?_
  refine lz_if_eq hx hb (a := 1) (off := 16) (tgt := 37) (by decide +kernel) (by decide) ⟨by decide, by decide⟩ (fun h9 => absurd h9 (by decide)) (fun _ => ?_)
  refine lv_iload_n hx hb (k := 1) (i := 1) (x := iI (k : Int)) (by decide +kernel) rfl (lv_at hl 3 rfl) ?_
  refine lv_iload_n hx hb (k := 3) (i := 3) (x := iI ((L.length : Int) + ((dgs k).length : Int))) (by decide +kernel) rfl (lv_at hl 0 rfl) ?_
  refine lv_aload_n hx hb (k := 0) (i := 0) (x := b) (by decide +kernel) rfl (lv_at hl 2 rfl) ?_
  refine jb_get (k := 0) (i := 0) (v := .ref v2) F hw rfl (by decide) rfl (jw74 15 rfl) (by decide +kernel) ?_
  refine jm_S (x := 248) (n := 3) (as := [.int (iI (k : Int)), .int (iI ((L.length : Int) + ((dgs k).length : Int))), .ref v2]) (rest := []) F hw hl.1 (j_chars (v := v2) (L := L) hk ⟨by omega, hn2⟩) (jw74 16 rfl) (jw74 17 rfl) (jw74 5 rfl) (jw74 18 rfl) ⟨by decide, by decide, by decide +kernel⟩ rfl ⟨Nat.le_of_ble_eq_true rfl, Nat.le_of_ble_eq_true rfl, by show _ ≤ 1; omega, by show _ ≤ 34; omega⟩ (Nat.le_of_ble_eq_true rfl) (by decide +kernel) rfl (fun v9 V9 hG H locs hw => ?_)
  obtain ⟨⟨x9, rfl⟩, e9⟩ := hG
  rw [e9] at hw
  refine W.eq (g2 := F0 m 33 ls [.int x9]) rfl ?_
  refine lv_pop hx hb (by decide +kernel) rfl ?_
  refine lv_goto hx hb (off := 14) (tgt := 48) (by decide +kernel) (by decide) ?_
  refine lv_aload_n hx hb (k := 0) (i := 0) (x := b) (by decide +kernel) rfl (lv_at hl 2 rfl) ?_
  refine lv_iload_n hx hb (k := 3) (i := 3) (x := iI ((L.length : Int) + ((dgs k).length : Int))) (by decide +kernel) rfl (lv_at hl 0 rfl) ?_
  refine jb_put (k := 0) (i := 3) (fs := [.ref v2, .int (iI 0), .int (iI 0), .int (iI (L.length : Int))]) F hw rfl (by decide) rfl rfl rfl rfl (by show 3 < 4; decide) (jw74 2 rfl) (by decide +kernel) (fun H locs hw => ?_)
  have hw : WV D A s (BW cA b v2 (capn n ((L.length : Int) + ((dgs k).length : Int))) (L ++ dgs k)) H locs := by
    unfold BW
    rw [List.length_append, Int.natCast_add]
    exact hw
  refine lv_aload_n hx hb (k := 0) (i := 0) (x := b) (by decide +kernel) rfl (lv_at hl 2 rfl) ?_
  exact jm_aret (Or.inl ⟨_, rfl⟩) F hlk hrt hw ⟨rfl, v2, rfl⟩ (by omega) (by omega) (by decide +kernel)
theorem j_sappI {b v n k : Nat} {L : List Int} (hk : k < 100) (hL : L.length ≤ n ∧ n ≤ 34) (hc : ∀ x ∈ L, 0 ≤ x ∧ x < 128) (hk9 : L.length + (dgs k).length ≤ n ∨ (n = 16 ∧ L.length + (dgs k).length ≤ 34)) : JM l D A ad adV cA S jy23_append prog_28_method_15_code 2 (some (.object "java/lang/StringBuilder")) 5 1 34 [.ref b, .int (iI (k : Int))] ((BW cA b v n L)) (fun r V' => r = some (.ref b) ∧ ∃ v', V' = BW cA b v' (capn n ((L.length : Int) + ((dgs k).length : Int))) (L ++ dgs k)) := by
  refine jm_of (by decide) ?_ (Nat.le_of_ble_eq_true rfl)
  rintro p e s m args below meth c F hlk hrt hmn hw ls hl
  have hl : lv_has ls 2 [(0, .ref b), (1, .int (iI (k : Int)))] := hl
  obtain ⟨hx, hb, hml, hown, hts, hK, hWX, hA, hDG, hSS⟩ := id F
  refine lv_aload_n hx hb (k := 0) (i := 0) (x := b) (by decide +kernel) rfl (lv_at hl 0 rfl) ?_
  refine lv_iload_n hx hb (k := 1) (i := 1) (x := iI (k : Int)) (by decide +kernel) rfl (lv_at hl 1 rfl) ?_
  refine jm_SU (b := b) (x := 53) (n := 1) (as := [.int (iI (k : Int))]) (rest := []) F hw hl.1 (j_appI hk hL hc hk9) (show _[0]? = _ from rfl) (jw74 22 rfl) (jw74 23 rfl) (jw74 19 rfl) (jw74 20 rfl) (jw74 9 rfl) (jw74 21 rfl) ⟨by decide, by decide +kernel⟩ rfl ⟨Nat.le_of_ble_eq_true rfl, Nat.le_of_ble_eq_true rfl, by show _ ≤ 1; omega, by show _ ≤ 34; omega⟩ (Nat.le_of_ble_eq_true rfl) (by decide +kernel) rfl (fun v9 V9 hG H locs hw => ?_)
  obtain ⟨rfl, v2, e9⟩ := hG
  rw [e9] at hw
  refine W.eq (g2 := F0 m 5 ls [.ref b]) rfl ?_
  refine lv_pop hx hb (by decide +kernel) rfl ?_
  refine lv_aload_n hx hb (k := 0) (i := 0) (x := b) (by decide +kernel) rfl (lv_at hl 0 rfl) ?_
  exact jm_aret (Or.inl ⟨_, rfl⟩) F hlk hrt hw ⟨rfl, v2, rfl⟩ (by omega) (by omega) (by decide +kernel)
theorem j_ini0 {b : Nat} : JM l D A ad adV cA S jy24_ini prog_12_method_2_code 2 (none) 1 1 16 [.ref b, .int (iI 16)] (([(b, .inr (8, [.null, .int (iI 0), .int (iI 0), .int (iI 0)]))] : va_W)) (fun r V' => r = none ∧ ∃ v, V' = BW cA b v 16 []) := by
  refine jm_of (by decide) ?_ (Nat.le_of_ble_eq_true rfl)
  rintro p e s m args below meth c F hlk hrt hmn hw ls hl
  have hl : lv_has ls 2 [(0, .ref b), (1, .int (iI 16))] := hl
  obtain ⟨hx, hb, hml, hown, hts, hK, hWX, hA, hDG, hSS⟩ := id F
  refine lv_aload_n hx hb (k := 0) (i := 0) (x := b) (by decide +kernel) rfl (lv_at hl 0 rfl) ?_
  refine W.objInit hx hb hown (ts_of' hts (jw74 24 rfl) rfl) (ts_of' hts (jw74 25 rfl) rfl) (ts_of' hts (jw74 26 rfl) rfl) rfl (by rw [hml]; exact hl.1) rfl (show decode prog_12_method_2_code 1 = .ok (.invokespecial 3, 3) from by decide +kernel) (by show 1 ≤ 1; decide) (Nat.le_of_ble_eq_true rfl) ?_
  refine W.eq (g2 := F0 m 4 ls []) rfl ?_
  refine jb_cs F hw (jw74 27 rfl) (by decide +kernel) ?_
  refine lz_if_eq hx hb (a := 1) (off := 18) (tgt := 25) (by decide +kernel) (by decide) ⟨by decide, by decide⟩ (fun h9 => absurd h9 (by decide)) (fun _ => ?_)
  refine lv_aload_n hx hb (k := 0) (i := 0) (x := b) (by decide +kernel) rfl (lv_at hl 0 rfl) ?_
  refine lv_iload_n hx hb (k := 1) (i := 1) (x := iI 16) (by decide +kernel) rfl (lv_at hl 1 rfl) ?_
  refine jb_newb (N := 16) F hw (by omega) (by omega) (by show _ ≤ 1; omega) (by show _ ≤ 16; omega) (by decide +kernel) (fun q H hw => ?_)
  refine jb_put (k := 0) (i := 0) (fs := [.null, .int (iI 0), .int (iI 0), .int (iI 0)]) F hw rfl (by decide) rfl rfl rfl rfl (by show 0 < 4; decide) (jw74 15 rfl) (by decide +kernel) (fun H locs hw => ?_)
  refine lv_aload_n hx hb (k := 0) (i := 0) (x := b) (by decide +kernel) rfl (lv_at hl 0 rfl) ?_
  refine lv_iconst hx hb (n := 0) (v := iI 0) (by decide +kernel) rfl ?_
  refine jb_put (k := 0) (i := 1) (fs := [.ref q, .int (iI 0), .int (iI 0), .int (iI 0)]) F hw rfl (by decide) rfl rfl rfl rfl (by show 1 < 4; decide) (jw74 28 rfl) (by decide +kernel) (fun H locs hw => ?_)
  have hw : WV D A s (BW cA b q 16 []) H locs := by
    unfold BW
    rw [chs_nil]
    exact hw
  refine lv_goto hx hb (off := 16) (tgt := 38) (by decide +kernel) (by decide) ?_
  exact jm_vret F hlk hrt hw ⟨rfl, q, rfl⟩ (by omega) (by omega) (by decide +kernel)
theorem j_ini {b : Nat} : JM l D A ad adV cA S jy25_ini prog_28_method_1_code 1 (none) 2 1 16 [.ref b] (([(b, .inr (8, [.null, .int (iI 0), .int (iI 0), .int (iI 0)]))] : va_W)) (fun r V' => r = none ∧ ∃ v, V' = BW cA b v 16 []) := by
  refine jm_of (by decide) ?_ (Nat.le_of_ble_eq_true rfl)
  rintro p e s m args below meth c F hlk hrt hmn hw ls hl
  have hl : lv_has ls 1 [(0, .ref b)] := hl
  obtain ⟨hx, hb, hml, hown, hts, hK, hWX, hA, hDG, hSS⟩ := id F
  refine lv_aload_n hx hb (k := 0) (i := 0) (x := b) (by decide +kernel) rfl (lv_at hl 0 rfl) ?_
  refine lv_bipush hx hb (n := 16) (v := iI 16) (by decide +kernel) (by decide) ?_
  refine jm_I (b := b) (x := 1) (n := 1) (as := [.int (iI 16)]) (rest := []) F hw hl.1 (j_ini0) rfl (jw74 29 rfl) (jw74 30 rfl) (jw74 9 rfl) (jw74 31 rfl) ⟨by decide, by decide, by decide +kernel⟩ rfl ⟨Nat.le_of_ble_eq_true rfl, Nat.le_of_ble_eq_true rfl, by show _ ≤ 1; omega, by show _ ≤ 16; omega⟩ (Nat.le_of_ble_eq_true rfl) (by decide +kernel) rfl (fun v9 V9 hG H locs hw => ?_)
  obtain ⟨rfl, q, e9⟩ := hG
  rw [e9] at hw
  refine W.eq (g2 := F0 m 6 ls []) rfl ?_
  exact jm_vret F hlk hrt hw ⟨rfl, q, rfl⟩ (by omega) (by omega) (by decide +kernel)
theorem j_ckl {V : va_W} {z : Int} (hz : 0 ≤ z ∧ z ≤ 100) : JM l D A ad adV cA S jy26_checkLength prog_36_method_131_code 2 (none) 0 0 0 [.int (iI 0), .int (iI z)] V (fun r V' => r = none ∧ V' = V) := by
  refine jm_of (by decide) ?_ (Nat.le_of_ble_eq_true rfl)
  rintro p e s m args below meth c F hlk hrt hmn hw ls hl
  have hl : lv_has ls 2 [(0, .int (iI 0)), (1, .int (iI z))] := hl
  obtain ⟨hx, hb, hml, hown, hts, hK, hWX, hA, hDG, hSS⟩ := id F
  refine lv_iload_n hx hb (k := 1) (i := 1) (x := iI z) (by decide +kernel) rfl (lv_at hl 1 rfl) ?_
  refine lv_iload_n hx hb (k := 0) (i := 0) (x := iI 0) (by decide +kernel) rfl (lv_at hl 0 rfl) ?_
  refine lz_icmp_ge hx hb (a := z) (b := 0) (off := 35) (tgt := 37) (by decide +kernel) (by decide) ⟨by omega, by omega⟩ ⟨by decide, by decide⟩ (fun _ => ?_) (fun h9 => absurd (by omega) h9)
  exact jm_vret F hlk hrt hw ⟨rfl, rfl⟩ (by omega) (by omega) (by decide +kernel)
theorem j_cprb {V : va_W} {j a n : Nat} {L : List Int} (hj : V[j]? = some (a, .inl (cA 4, n, .inl (chs L)))) (hn : L.length < n ∧ n ≤ 34) (hc : ∀ x ∈ L, 0 ≤ x ∧ x < 128) : JM l D A ad adV cA S jy27_copyOfRangeByte prog_36_method_133_code 5 (some (.array .byte)) 1 1 34 [.ref a, .int (iI 0), .int (iI (L.length : Int))] V (fun r V' => ∃ q, r = some (.ref q) ∧ V' = V ++ [(q, .inl (cA 4, L.length, .inl (chs L)))]) := by
  refine jm_of (by decide) ?_ (Nat.le_of_ble_eq_true rfl)
  rintro p e s m args below meth c F hlk hrt hmn hw ls hl
  have hl : lv_has ls 5 [(0, .ref a), (1, .int (iI 0)), (2, .int (iI (L.length : Int)))] := hl
  obtain ⟨hx, hb, hml, hown, hts, hK, hWX, hA, hDG, hSS⟩ := id F
  have hfit := fun i => chs_fit (L := L) hc (i := i)
  refine lv_iload_n hx hb (k := 1) (i := 1) (x := iI 0) (by decide +kernel) rfl (lv_at hl 1 rfl) ?_
  refine lv_iload_n hx hb (k := 2) (i := 2) (x := iI (L.length : Int)) (by decide +kernel) rfl (lv_at hl 2 rfl) ?_
  refine jm_S (x := 343) (n := 2) (as := [.int (iI 0), .int (iI (L.length : Int))]) (rest := []) F hw hl.1 (j_ckl ⟨by omega, by omega⟩) (jw74 32 rfl) (jw74 33 rfl) (jw74 34 rfl) (jw74 35 rfl) ⟨by decide, by decide, by decide +kernel⟩ rfl ⟨Nat.le_of_ble_eq_true rfl, Nat.le_of_ble_eq_true rfl, by show _ ≤ 1; omega, by show _ ≤ 34; omega⟩ (Nat.le_of_ble_eq_true rfl) (by decide +kernel) rfl (fun v9 V9 hG H locs hw => ?_)
  obtain ⟨rfl, e9⟩ := hG
  rw [e9] at hw
  refine W.eq (g2 := F0 m 5 ls []) rfl ?_
  refine lv_iload_n hx hb (k := 2) (i := 2) (x := iI (L.length : Int)) (by decide +kernel) rfl (lv_at hl 2 rfl) ?_
  refine lv_iload_n hx hb (k := 1) (i := 1) (x := iI 0) (by decide +kernel) rfl (lv_at hl 1 rfl) ?_
  refine lz_isub hx hb (a := (L.length : Int)) (b := 0) (by decide +kernel) ?_
  refine lv_istore_n hx hb (k := 3) (i := 3) (lv' := [(3, .int (iI ((L.length : Int) - 0))), (0, .ref a), (1, .int (iI 0)), (2, .int (iI (L.length : Int)))]) (by decide +kernel) rfl hl (by decide) rfl (fun ls hl => ?_)
  refine lv_iload_n hx hb (k := 3) (i := 3) (x := iI ((L.length : Int) - 0)) (by decide +kernel) rfl (lv_at hl 0 rfl) ?_
  refine jb_newb (N := L.length) F hw (by omega) (by omega) (by show _ ≤ 1; omega) (by show _ ≤ 34; omega) (by decide +kernel) (fun q H hw => ?_)
  refine lv_astore hx hb (i := 4) (lv' := [(4, .ref q), (3, .int (iI ((L.length : Int) - 0))), (0, .ref a), (1, .int (iI 0)), (2, .int (iI (L.length : Int)))]) (by decide +kernel) hl (by decide) rfl (fun ls hl => ?_)
  refine lv_aload_n hx hb (k := 0) (i := 0) (x := a) (by decide +kernel) rfl (lv_at hl 2 rfl) ?_
  refine lv_iload_n hx hb (k := 1) (i := 1) (x := iI 0) (by decide +kernel) rfl (lv_at hl 3 rfl) ?_
  refine lv_aload hx hb (i := 4) (x := q) (by decide +kernel) (lv_at hl 0 rfl) ?_
  refine lv_iconst hx hb (n := 0) (v := iI 0) (by decide +kernel) rfl ?_
  refine lv_aload_n hx hb (k := 0) (i := 0) (x := a) (by decide +kernel) rfl (lv_at hl 2 rfl) ?_
  refine jb_alen (k := _) F hw (by first | exact hj | exact ap_l hj) (by decide +kernel) ?_
  refine lv_iload_n hx hb (k := 1) (i := 1) (x := iI 0) (by decide +kernel) rfl (lv_at hl 3 rfl) ?_
  refine lz_isub hx hb (a := (n : Int)) (b := 0) (by decide +kernel) ?_
  refine lv_iload_n hx hb (k := 3) (i := 3) (x := iI ((L.length : Int) - 0)) (by decide +kernel) rfl (lv_at hl 1 rfl) ?_
  refine jz_min (x := 304) F hl.1 (a := ((n : Int) - 0)) (b := ((L.length : Int) - 0)) (rest := [.int (iI 0), .ref q, .int (iI 0), .ref a]) (jw74 36 rfl) (by show 1 ≤ 1; decide) (Nat.le_of_ble_eq_true rfl) (by show _ ≤ 1; omega) (by show _ ≤ 34; omega) ⟨by omega, by omega⟩ ⟨by omega, by omega⟩ (by decide +kernel) ?_
  rw [show (if (L.length : Int) - 0 < (n : Int) - 0 then (L.length : Int) - 0 else (n : Int) - 0) = (L.length : Int) - 0 by split <;> omega]
  refine jb_copy (k0 := j) (k1 := V.length) F hw hl.1 (ap_l hj) (ap_new) (sp := 0) (dp := 0) (n := ((L.length : Int) - 0)) (sp' := 0) (dp' := 0) (n' := L.length) (rest := []) rfl rfl (by omega) (jw74 37 rfl) (by omega) (by omega) (by omega) (fun i hi => hfit _) (by show 1 ≤ 1; decide) (Nat.le_of_ble_eq_true rfl) (by decide +kernel) (fun H locs hw => ?_)
  rw [set_last, chs_cpy (Nat.le_refl _)] at hw
  refine lv_aload hx hb (i := 4) (x := q) (by decide +kernel) (lv_at hl 0 rfl) ?_
  exact jm_aret (Or.inr ⟨_, rfl⟩) F hlk hrt hw ⟨q, rfl, rfl⟩ (by omega) (by omega) (by decide +kernel)
theorem j_cpr {V : va_W} {j a n : Nat} {L : List Int} (hj : V[j]? = some (a, .inl (cA 4, n, .inl (chs L)))) (hn : L.length < n ∧ n ≤ 34) (hc : ∀ x ∈ L, 0 ≤ x ∧ x < 128) : JM l D A ad adV cA S jy28_copyOfRange prog_36_method_132_code 3 (some (.array .byte)) 2 1 34 [.ref a, .int (iI 0), .int (iI (L.length : Int))] V (fun r V' => ∃ q, r = some (.ref q) ∧ V' = V ++ [(q, .inl (cA 4, L.length, .inl (chs L)))]) := by
  refine jm_of (by decide) ?_ (Nat.le_of_ble_eq_true rfl)
  rintro p e s m args below meth c F hlk hrt hmn hw ls hl
  have hl : lv_has ls 3 [(0, .ref a), (1, .int (iI 0)), (2, .int (iI (L.length : Int)))] := hl
  obtain ⟨hx, hb, hml, hown, hts, hK, hWX, hA, hDG, hSS⟩ := id F
  refine lv_iload_n hx hb (k := 1) (i := 1) (x := iI 0) (by decide +kernel) rfl (lv_at hl 1 rfl) ?_
  refine lz_if_ne hx hb (a := 0) (off := 9) (tgt := 10) (by decide +kernel) (by decide) ⟨by decide, by decide⟩ (fun h9 => absurd h9 (by decide)) (fun _ => ?_)
  refine lv_iload_n hx hb (k := 2) (i := 2) (x := iI (L.length : Int)) (by decide +kernel) rfl (lv_at hl 2 rfl) ?_
  refine lv_aload_n hx hb (k := 0) (i := 0) (x := a) (by decide +kernel) rfl (lv_at hl 0 rfl) ?_
  refine jb_alen (k := _) F hw hj (by decide +kernel) ?_
  refine lz_icmp_eq hx hb (a := (L.length : Int)) (b := (n : Int)) (off := 10) (tgt := 17) (by decide +kernel) (by decide) ⟨by omega, by omega⟩ ⟨by omega, by omega⟩ (fun h9 => absurd h9 (by omega)) (fun _ => ?_)
  refine lv_aload_n hx hb (k := 0) (i := 0) (x := a) (by decide +kernel) rfl (lv_at hl 0 rfl) ?_
  refine lv_iload_n hx hb (k := 1) (i := 1) (x := iI 0) (by decide +kernel) rfl (lv_at hl 1 rfl) ?_
  refine lv_iload_n hx hb (k := 2) (i := 2) (x := iI (L.length : Int)) (by decide +kernel) rfl (lv_at hl 2 rfl) ?_
  refine jm_S (x := 339) (n := 3) (as := [.ref a, .int (iI 0), .int (iI (L.length : Int))]) (rest := []) F hw hl.1 (j_cprb hj hn hc) (jw74 38 rfl) (jw74 39 rfl) (jw74 34 rfl) (jw74 40 rfl) ⟨by decide, by decide, by decide +kernel⟩ rfl ⟨Nat.le_of_ble_eq_true rfl, Nat.le_of_ble_eq_true rfl, by show _ ≤ 1; omega, by show _ ≤ 34; omega⟩ (Nat.le_of_ble_eq_true rfl) (by decide +kernel) rfl (fun v9 V9 hG H locs hw => ?_)
  obtain ⟨q, rfl, e9⟩ := hG
  rw [e9] at hw
  refine W.eq (g2 := F0 m 16 ls [.ref q]) rfl ?_
  exact jm_aret (Or.inr ⟨_, rfl⟩) F hlk hrt hw ⟨q, rfl, rfl⟩ (by omega) (by omega) (by decide +kernel)
theorem j_getv {V : va_W} {k b v : Nat} {x y : Value} {z : Int} (hk : V[k]? = some (b, .inr (8, [.ref v, x, y, .int (iI z)]))) : JM l D A ad adV cA S jy29_getValue prog_12_method_64_code 1 (some (.array .byte)) 0 0 0 [.ref b] V (fun r V' => r = some (.ref v) ∧ V' = V) := by
  refine jm_of (by decide) ?_ (Nat.le_of_ble_eq_true rfl)
  rintro p e s m args below meth c F hlk hrt hmn hw ls hl
  have hl : lv_has ls 1 [(0, .ref b)] := hl
  obtain ⟨hx, hb, hml, hown, hts, hK, hWX, hA, hDG, hSS⟩ := id F
  refine lv_aload_n hx hb (k := 0) (i := 0) (x := b) (by decide +kernel) rfl (lv_at hl 0 rfl) ?_
  refine jb_get (k := k) (i := 0) (v := .ref v) F hw hk (by decide) rfl (jw74 15 rfl) (by decide +kernel) ?_
  exact jm_aret (Or.inr ⟨_, rfl⟩) F hlk hrt hw ⟨rfl, rfl⟩ (by omega) (by omega) (by decide +kernel)
theorem j_blen {V : va_W} {k b v : Nat} {x y : Value} {z : Int} (hk : V[k]? = some (b, .inr (8, [.ref v, x, y, .int (iI z)]))) : JM l D A ad adV cA S jy30_length prog_12_method_6_code 1 (some .int) 0 0 0 [.ref b] V (fun r V' => r = some (.int (iI z)) ∧ V' = V) := by
  refine jm_of (by decide) ?_ (Nat.le_of_ble_eq_true rfl)
  rintro p e s m args below meth c F hlk hrt hmn hw ls hl
  have hl : lv_has ls 1 [(0, .ref b)] := hl
  obtain ⟨hx, hb, hml, hown, hts, hK, hWX, hA, hDG, hSS⟩ := id F
  refine lv_aload_n hx hb (k := 0) (i := 0) (x := b) (by decide +kernel) rfl (lv_at hl 0 rfl) ?_
  refine jb_get (k := k) (i := 3) (v := .int (iI z)) F hw hk (by decide) rfl (jw74 2 rfl) (by decide +kernel) ?_
  exact jm_zret F hlk hrt hw rfl ⟨rfl, rfl⟩ (by omega) (by omega) (by decide +kernel)
theorem j_blen2 {V : va_W} {k b v : Nat} {x y : Value} {z : Int} (hk : V[k]? = some (b, .inr (8, [.ref v, x, y, .int (iI z)]))) : JM l D A ad adV cA S jy31_length prog_28_method_93_code 1 (some .int) 1 0 0 [.ref b] V (fun r V' => r = some (.int (iI z)) ∧ V' = V) := by
  refine jm_of (by decide) ?_ (Nat.le_of_ble_eq_true rfl)
  rintro p e s m args below meth c F hlk hrt hmn hw ls hl
  have hl : lv_has ls 1 [(0, .ref b)] := hl
  obtain ⟨hx, hb, hml, hown, hts, hK, hWX, hA, hDG, hSS⟩ := id F
  refine lv_aload_n hx hb (k := 0) (i := 0) (x := b) (by decide +kernel) rfl (lv_at hl 0 rfl) ?_
  refine jm_SU (b := b) (x := 343) (n := 0) (as := []) (rest := []) F hw hl.1 (j_blen hk) hk (jw74 44 rfl) (jw74 45 rfl) (jw74 41 rfl) (jw74 42 rfl) (jw74 9 rfl) (jw74 43 rfl) ⟨by decide, by decide +kernel⟩ rfl ⟨Nat.le_of_ble_eq_true rfl, Nat.le_of_ble_eq_true rfl, by show _ ≤ 0; omega, by show _ ≤ 0; omega⟩ (Nat.le_of_ble_eq_true rfl) (by decide +kernel) rfl (fun v9 V9 hG H locs hw => ?_)
  obtain ⟨rfl, e9⟩ := hG
  rw [e9] at hw
  refine W.eq (g2 := F0 m 4 ls [.int (iI z)]) rfl ?_
  exact jm_zret F hlk hrt hw rfl ⟨rfl, rfl⟩ (by omega) (by omega) (by decide +kernel)
theorem j_sini0 {b v n q : Nat} {L : List Int} (hn : L.length < n ∧ n ≤ 34) (hc : ∀ x ∈ L, 0 ≤ x ∧ x < 128) : JM l D A ad adV cA S jy32_ini prog_27_method_150_code 5 (none) 3 1 34 [.ref q, .ref b, .null] ((BW cA b v n L ++ [(q, .inr (9, [.null, .int (iI 0), .int (iI 0), .int (iI 0)]))])) (fun r V' => r = none ∧ ∃ q2, V' = BW cA b v n L ++ SW cA q q2 L) := by
  refine jm_of (by decide) ?_ (Nat.le_of_ble_eq_true rfl)
  rintro p e s m args below meth c F hlk hrt hmn hw ls hl
  have hl : lv_has ls 5 [(0, .ref q), (1, .ref b), (2, .null)] := hl
  obtain ⟨hx, hb, hml, hown, hts, hK, hWX, hA, hDG, hSS⟩ := id F
  refine lv_aload_n hx hb (k := 0) (i := 0) (x := q) (by decide +kernel) rfl (lv_at hl 0 rfl) ?_
  refine W.objInit hx hb hown (ts_of' hts (jw74 46 rfl) rfl) (ts_of' hts (jw74 25 rfl) rfl) (ts_of' hts (jw74 26 rfl) rfl) rfl (by rw [hml]; exact hl.1) rfl (show decode prog_27_method_150_code 1 = .ok (.invokespecial 1, 3) from by decide +kernel) (by show 1 ≤ 3; decide) (Nat.le_of_ble_eq_true rfl) ?_
  refine W.eq (g2 := F0 m 4 ls []) rfl ?_
  refine lv_aload_n hx hb (k := 1) (i := 1) (x := b) (by decide +kernel) rfl (lv_at hl 1 rfl) ?_
  refine jm_V (C := RX9b) (b := b) (x := 552) (n := 0) (as := []) (rest := []) F hw hl.1 (j_getv (k := 0) rfl) (va_recv (q := (RX9b, TX9b, 4)) hK hw.1 rfl (show _[0]? = _ from rfl)) (ts_of' hts (jw74 50 rfl) rfl) (jw74 47 rfl) (jw74 48 rfl) (jw74 9 rfl) (jw74 49 rfl) ⟨by decide, by decide, by decide +kernel⟩ rfl ⟨Nat.le_of_ble_eq_true rfl, Nat.le_of_ble_eq_true rfl, by show _ ≤ 1; omega, by show _ ≤ 34; omega⟩ (Nat.le_of_ble_eq_true rfl) (by decide +kernel) rfl (fun v9 V9 hG H locs hw => ?_)
  obtain ⟨rfl, e9⟩ := hG
  rw [e9] at hw
  refine W.eq (g2 := F0 m 8 ls [.ref v]) rfl ?_
  refine lv_astore_n hx hb (k := 3) (i := 3) (lv' := [(3, .ref v), (0, .ref q), (1, .ref b), (2, .null)]) (by decide +kernel) rfl hl (by decide) rfl (fun ls hl => ?_)
  refine lv_aload_n hx hb (k := 1) (i := 1) (x := b) (by decide +kernel) rfl (lv_at hl 2 rfl) ?_
  refine jm_U (C := RX9b) (owner := RAS) (x9 := jy30_length) (y := jy31_length) (b := b) (x := 549) (n := 0) (as := []) (rest := []) F hw hl.1 (j_blen2 (k := 0) rfl) (va_recv (q := (RX9b, TX9b, 4)) hK hw.1 rfl (show _[0]? = _ from rfl)) (jw74 51 rfl) (jw74 52 rfl) (jw74 42 rfl) (jw74 43 rfl) (jw74 53 rfl) (jw74 54 rfl) (jw74 55 rfl) (jw74 56 rfl) rfl ⟨by decide, by decide, by decide +kernel⟩ rfl ⟨Nat.le_of_ble_eq_true rfl, Nat.le_of_ble_eq_true rfl, by show _ ≤ 1; omega, by show _ ≤ 34; omega⟩ (Nat.le_of_ble_eq_true rfl) (by decide +kernel) rfl (fun v9 V9 hG H locs hw => ?_)
  obtain ⟨rfl, e9⟩ := hG
  rw [e9] at hw
  refine W.eq (g2 := F0 m 13 ls [.int (iI (L.length : Int))]) rfl ?_
  refine lv_istore hx hb (i := 4) (lv' := [(4, .int (iI (L.length : Int))), (3, .ref v), (0, .ref q), (1, .ref b), (2, .null)]) (by decide +kernel) hl (by decide) rfl (fun ls hl => ?_)
  refine lv_aload_n hx hb (k := 1) (i := 1) (x := b) (by decide +kernel) rfl (lv_at hl 3 rfl) ?_
  refine jm_V (C := RX9b) (b := b) (x := 1047) (n := 0) (as := []) (rest := []) F hw hl.1 (j_latB (k := 0) (v := v) rfl) (va_recv (q := (RX9b, TX9b, 4)) hK hw.1 rfl (show _[0]? = _ from rfl)) (ts_of' hts (jw74 14 rfl) rfl) (jw74 57 rfl) (jw74 12 rfl) (jw74 9 rfl) (jw74 13 rfl) ⟨by decide, by decide, by decide +kernel⟩ rfl ⟨Nat.le_of_ble_eq_true rfl, Nat.le_of_ble_eq_true rfl, by show _ ≤ 1; omega, by show _ ≤ 34; omega⟩ (Nat.le_of_ble_eq_true rfl) (by decide +kernel) rfl (fun v9 V9 hG H locs hw => ?_)
  obtain ⟨rfl, e9⟩ := hG
  rw [e9] at hw
  refine W.eq (g2 := F0 m 19 ls [.int (iI 1)]) rfl ?_
  refine lz_if_eq hx hb (a := 1) (off := 22) (tgt := 41) (by decide +kernel) (by decide) ⟨by decide, by decide⟩ (fun h9 => absurd h9 (by decide)) (fun _ => ?_)
  refine lv_aload_n hx hb (k := 0) (i := 0) (x := q) (by decide +kernel) rfl (lv_at hl 2 rfl) ?_
  refine lv_iconst hx hb (n := 0) (v := iI 0) (by decide +kernel) rfl ?_
  refine js_putF (k := 2) (i := 1) (fs := [.null, .int (iI 0), .int (iI 0), .int (iI 0)]) F hw rfl (by decide) hmn rfl rfl rfl rfl rfl (by show 1 < 4; decide) (jw74 58 rfl) (by decide +kernel) (fun H locs hw => ?_)
  have hw : WV D A s (BW cA b v n L ++ [(q, .inr (9, [.null, .int (iI 0), .int (iI 0), .int (iI 0)]))]) H locs := hw
  refine lv_aload_n hx hb (k := 0) (i := 0) (x := q) (by decide +kernel) rfl (lv_at hl 2 rfl) ?_
  refine lv_aload_n hx hb (k := 3) (i := 3) (x := v) (by decide +kernel) rfl (lv_at hl 1 rfl) ?_
  refine lv_iconst hx hb (n := 0) (v := iI 0) (by decide +kernel) rfl ?_
  refine lv_iload hx hb (i := 4) (x := iI (L.length : Int)) (by decide +kernel) (lv_at hl 0 rfl) ?_
  refine jm_S (x := 54) (n := 3) (as := [.ref v, .int (iI 0), .int (iI (L.length : Int))]) (rest := [.ref q]) F hw hl.1 (j_cpr (j := 1) rfl hn hc) (jw74 59 rfl) (jw74 60 rfl) (jw74 34 rfl) (jw74 61 rfl) ⟨by decide, by decide, by decide +kernel⟩ rfl ⟨Nat.le_of_ble_eq_true rfl, Nat.le_of_ble_eq_true rfl, by show _ ≤ 1; omega, by show _ ≤ 34; omega⟩ (Nat.le_of_ble_eq_true rfl) (by decide +kernel) rfl (fun v9 V9 hG H locs hw => ?_)
  obtain ⟨q2, rfl, e9⟩ := hG
  rw [e9] at hw
  refine W.eq (g2 := F0 m 35 ls [.ref q2, .ref q]) rfl ?_
  refine js_putF (k := 2) (i := 0) (fs := [.null, .int (iI 0), .int (iI 0), .int (iI 0)]) F hw rfl (by decide) hmn rfl rfl rfl rfl rfl (by show 0 < 4; decide) (jw74 62 rfl) (by decide +kernel) (fun H locs hw => ?_)
  have hw : WV D A s (BW cA b v n L ++ SW cA q q2 L) H locs := hw
  refine lv_goto hx hb (off := 59) (tgt := 97) (by decide +kernel) (by decide) ?_
  exact jm_vret F hlk hrt hw ⟨rfl, q2, rfl⟩ (by omega) (by omega) (by decide +kernel)
theorem j_sini {b v n q : Nat} {L : List Int} (hn : L.length < n ∧ n ≤ 34) (hc : ∀ x ∈ L, 0 ≤ x ∧ x < 128) : JM l D A ad adV cA S jy33_ini prog_27_method_53_code 2 (none) 4 1 34 [.ref q, .ref b] ((BW cA b v n L ++ [(q, .inr (9, [.null, .int (iI 0), .int (iI 0), .int (iI 0)]))])) (fun r V' => r = none ∧ ∃ q2, V' = BW cA b v n L ++ SW cA q q2 L) := by
  refine jm_of (by decide) ?_ (Nat.le_of_ble_eq_true rfl)
  rintro p e s m args below meth c F hlk hrt hmn hw ls hl
  have hl : lv_has ls 2 [(0, .ref q), (1, .ref b)] := hl
  obtain ⟨hx, hb, hml, hown, hts, hK, hWX, hA, hDG, hSS⟩ := id F
  refine lv_aload_n hx hb (k := 0) (i := 0) (x := q) (by decide +kernel) rfl (lv_at hl 0 rfl) ?_
  refine lv_aload_n hx hb (k := 1) (i := 1) (x := b) (by decide +kernel) rfl (lv_at hl 1 rfl) ?_
  refine lv_null hx hb (by decide +kernel) ?_
  refine jm_I (b := q) (x := 489) (n := 2) (as := [.ref b, .null]) (rest := []) F hw hl.1 (j_sini0 hn hc) rfl (jw74 63 rfl) (jw74 64 rfl) (jw74 65 rfl) (jw74 66 rfl) ⟨by decide, by decide, by decide +kernel⟩ rfl ⟨Nat.le_of_ble_eq_true rfl, Nat.le_of_ble_eq_true rfl, by show _ ≤ 1; omega, by show _ ≤ 34; omega⟩ (Nat.le_of_ble_eq_true rfl) (by decide +kernel) rfl (fun v9 V9 hG H locs hw => ?_)
  obtain ⟨rfl, q2, e9⟩ := hG
  rw [e9] at hw
  refine W.eq (g2 := F0 m 6 ls []) rfl ?_
  exact jm_vret F hlk hrt hw ⟨rfl, q2, rfl⟩ (by omega) (by omega) (by decide +kernel)
theorem j_toS {b v n : Nat} {L : List Int} (hn : L.length < n ∧ n ≤ 34) (hc : ∀ x ∈ L, 0 ≤ x ∧ x < 128) : JM l D A ad adV cA S jy34_toString prog_28_method_42_code 1 (some (.object "java/lang/String")) 5 2 38 [.ref b] ((BW cA b v n L)) (fun r V' => ∃ q q2, r = some (.ref q) ∧ V' = BW cA b v n L ++ SW cA q q2 L) := by
  refine jm_of (by decide) ?_ (Nat.le_of_ble_eq_true rfl)
  rintro p e s m args below meth c F hlk hrt hmn hw ls hl
  have hl : lv_has ls 1 [(0, .ref b)] := hl
  obtain ⟨hx, hb, hml, hown, hts, hK, hWX, hA, hDG, hSS⟩ := id F
  refine jb_new (ci := 9) (C := RX9s) (T := TX9s) (fs := [.null, .int (iI 0), .int (iI 0), .int (iI 0)]) (N := 4) (ty := ty9s) ty9s_ok (uw_B (Or.inr rfl)) F hw (jw74 67 rfl) (jw74 68 rfl) (jw74 69 rfl) rfl df9s (by show _ ≤ 2; omega) (by show _ ≤ 38; omega) (by decide +kernel) (fun q H hw => ?_)
  refine lv_dup hx hb (by decide +kernel) rfl ?_
  refine lv_aload_n hx hb (k := 0) (i := 0) (x := b) (by decide +kernel) rfl (lv_at hl 0 rfl) ?_
  refine jm_I (b := q) (x := 137) (n := 1) (as := [.ref b]) (rest := [.ref q]) F hw hl.1 (j_sini hn hc) rfl (jw74 70 rfl) (jw74 71 rfl) (jw74 65 rfl) (jw74 72 rfl) ⟨by decide, by decide, by decide +kernel⟩ rfl ⟨Nat.le_of_ble_eq_true rfl, Nat.le_of_ble_eq_true rfl, by show _ ≤ 2; omega, by show _ ≤ 38; omega⟩ (Nat.le_of_ble_eq_true rfl) (by decide +kernel) rfl (fun v9 V9 hG H locs hw => ?_)
  obtain ⟨rfl, q2, e9⟩ := hG
  rw [e9] at hw
  refine W.eq (g2 := F0 m 8 ls [.ref q]) rfl ?_
  exact jm_aret (Or.inl ⟨_, rfl⟩) F hlk hrt hw ⟨q, q2, rfl, rfl⟩ (by omega) (by omega) (by decide +kernel)
end JB4
