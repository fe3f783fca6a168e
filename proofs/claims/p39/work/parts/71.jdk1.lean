/-! the library's methods of strings: printed by wip/p39/db70.py -/
section JB1
variable {p : Program} {l : Launch} {e : Env} {R : Room} {s : State} {m : MethodId} {args : Array Value} {below : List Frame} {meth : Method} {c : Code} {H : Heap} {locs : List Loc} {cells slots : Nat} {Q : State → Prop}
variable {D : va_G} {A : Nat → Prop} {ad adV : Nat → Nat} {cA : Nat → ClassId} {S : List (Nat × Nat × List Int)} {own : String} {cc : ByteArray} {nL0 : Nat}
abbrev jy0_isLatin1 : MethodName := ⟨RAS, "isLatin1", "()Z"⟩
abbrev jy1_newLength : MethodName := ⟨"jdk/internal/util/ArraysSupport", "newLength", "(III)I"⟩
abbrev jy2_newCapacity : MethodName := ⟨RAS, "newCapacity", "(I)I"⟩
abbrev jy3_copyOf : MethodName := ⟨"java/util/Arrays", "copyOf", "([BI)[B"⟩
abbrev jy4_ensureCapacityInternal : MethodName := ⟨RAS, "ensureCapacityInternal", "(I)V"⟩
abbrev jy5_coder : MethodName := ⟨RST, "coder", "()B"⟩
abbrev jy6_isLatin1 : MethodName := ⟨RST, "isLatin1", "()Z"⟩
abbrev jy7_length : MethodName := ⟨RST, "length", "()I"⟩
abbrev jy8_charAt : MethodName := ⟨RST, "charAt", "(I)C"⟩
abbrev jy9_checkIndex : MethodName := ⟨RST, "checkIndex", "(II)V"⟩
abbrev jy10_charAt : MethodName := ⟨"java/lang/StringLatin1", "charAt", "([BI)C"⟩
abbrev jy11_checkIndex : MethodName := ⟨"jdk/internal/util/Preconditions", "checkIndex", "(IILjava/util/function/BiFunction;)I"⟩
abbrev jy12_inflateIfNeededFor : MethodName := ⟨RAS, "inflateIfNeededFor", "(Ljava/lang/String;)V"⟩
abbrev jy13_getBytes : MethodName := ⟨RST, "getBytes", "([BIB)V"⟩
abbrev jy14_putStringAt : MethodName := ⟨RAS, "putStringAt", "(ILjava/lang/String;)V"⟩
abbrev jy15_append : MethodName := ⟨RAS, "append", "(Ljava/lang/String;)Ljava/lang/AbstractStringBuilder;"⟩
abbrev jy16_append : MethodName := ⟨RX9b, "append", "(Ljava/lang/String;)Ljava/lang/StringBuilder;"⟩
abbrev jy17_canEncode : MethodName := ⟨"java/lang/StringLatin1", "canEncode", "(C)Z"⟩
abbrev jy18_append : MethodName := ⟨RAS, "append", "(C)Ljava/lang/AbstractStringBuilder;"⟩
abbrev jy19_append : MethodName := ⟨RX9b, "append", "(C)Ljava/lang/StringBuilder;"⟩
abbrev jy20_stringSize : MethodName := ⟨"java/lang/Integer", "stringSize", "(I)I"⟩
abbrev jy21_getChars : MethodName := ⟨"java/lang/Integer", "getChars", "(II[B)I"⟩
abbrev jy22_append : MethodName := ⟨RAS, "append", "(I)Ljava/lang/AbstractStringBuilder;"⟩
abbrev jy23_append : MethodName := ⟨RX9b, "append", "(I)Ljava/lang/StringBuilder;"⟩
abbrev jy24_ini : MethodName := ⟨RAS, "<init>", "(I)V"⟩
abbrev jy25_ini : MethodName := ⟨RX9b, "<init>", "()V"⟩
abbrev jy26_checkLength : MethodName := ⟨"java/util/Arrays", "checkLength", "(II)V"⟩
abbrev jy27_copyOfRangeByte : MethodName := ⟨"java/util/Arrays", "copyOfRangeByte", "([BII)[B"⟩
abbrev jy28_copyOfRange : MethodName := ⟨"java/util/Arrays", "copyOfRange", "([BII)[B"⟩
abbrev jy29_getValue : MethodName := ⟨RAS, "getValue", "()[B"⟩
abbrev jy30_length : MethodName := ⟨RAS, "length", "()I"⟩
abbrev jy31_length : MethodName := ⟨RX9b, "length", "()I"⟩
abbrev jy32_ini : MethodName := ⟨RST, "<init>", "(Ljava/lang/AbstractStringBuilder;Ljava/lang/Void;)V"⟩
abbrev jy33_ini : MethodName := ⟨RST, "<init>", "(Ljava/lang/StringBuilder;)V"⟩
abbrev jy34_toString : MethodName := ⟨RX9b, "toString", "()Ljava/lang/String;"⟩
theorem jsh_l {x : Int32} : x <<< (iI 0 &&& 31) = x := by
  have h : iI 0 &&& 31 = 0 := by decide
  rw [h]
  apply Int32.toBitVec_inj.mp
  simp
theorem jsh_r {x : Int32} : x >>> (iI 0 &&& 31) = x := by
  have h : iI 0 &&& 31 = 0 := by decide
  rw [h]
  apply Int32.toBitVec_inj.mp
  simp
theorem jz_max {a b : Int} {x pc : Nat} {ls : Array Slot} {rest : List Value} (F : FJ own D A ad adV cA S p s m args c cc nL0) (hl : ls.size = nL0) (hlink : Jvm.Cond.methodLink own x Lib.Math.max.name ∈ lw_tbl) (hf : 1 ≤ R.frames) (hlo : (rest.map fun v => v.category).sum + 13 ≤ R.locals) (hc : cells ≤ R.cells) (hs : slots ≤ R.slots) (ha : Rng a) (hb : Rng b) (hd : decode cc pc = .ok (.invokestatic x, 3))
    (kk : W p l e R s m args below meth c H locs cells slots Q (F0 m (pc + 3) ls (.int (iI (if a < b then b else a)) :: rest))) : W p l e R s m args below meth c H locs cells slots Q (F0 m pc ls (.int (iI b) :: .int (iI a) :: rest)) := by
  have e1 : (if iI a < iI b then iI b else iI a) = iI (if a < b then b else a) := by
    by_cases h : a < b
    · rw [if_pos h, if_pos ((iI_lt ha hb).mpr h)]
    · rw [if_neg h, if_neg (fun z => h ((iI_lt ha hb).mp z))]
  refine va_mmax F.1 F.2.1 (F.2.2.1.trans hl.symm) F.2.2.2.1 (ts_of' F.2.2.2.2.1 hlink rfl) (ts_of' F.2.2.2.2.1 (lib_in _ (by decide)) rfl) (ts_of' F.2.2.2.2.1 (lib_in _ (by decide)) rfl) (ts_of' F.2.2.2.2.1 (lib_in _ (by decide)) rfl) hf hlo hc hs hd ?_
  rw [e1]
  exact kk
theorem jz_min {a b : Int} {x pc : Nat} {ls : Array Slot} {rest : List Value} (F : FJ own D A ad adV cA S p s m args c cc nL0) (hl : ls.size = nL0) (hlink : Jvm.Cond.methodLink own x Lib.Math.min.name ∈ lw_tbl) (hf : 1 ≤ R.frames) (hlo : (rest.map fun v => v.category).sum + 13 ≤ R.locals) (hc : cells ≤ R.cells) (hs : slots ≤ R.slots) (ha : Rng a) (hb : Rng b) (hd : decode cc pc = .ok (.invokestatic x, 3))
    (kk : W p l e R s m args below meth c H locs cells slots Q (F0 m (pc + 3) ls (.int (iI (if b < a then b else a)) :: rest))) : W p l e R s m args below meth c H locs cells slots Q (F0 m pc ls (.int (iI b) :: .int (iI a) :: rest)) := by
  have e1 : (if iI b < iI a then iI b else iI a) = iI (if b < a then b else a) := by
    by_cases h : b < a
    · rw [if_pos h, if_pos ((iI_lt hb ha).mpr h)]
    · rw [if_neg h, if_neg (fun z => h ((iI_lt hb ha).mp z))]
  refine va_mmin F.1 F.2.1 (F.2.2.1.trans hl.symm) F.2.2.2.1 (ts_of' F.2.2.2.2.1 hlink rfl) (ts_of' F.2.2.2.2.1 (lib_in _ (by decide)) rfl) (ts_of' F.2.2.2.2.1 (lib_in _ (by decide)) rfl) (ts_of' F.2.2.2.2.1 (lib_in _ (by decide)) rfl) hf hlo hc hs hd ?_
  rw [e1]
  exact kk
theorem chs_out {L : List Int} {i : Nat} (h : L.length ≤ i) : chs L i = iI 0 := by
  unfold chs
  rw [List.getD_eq_getElem?_getD, List.getElem?_eq_none h]
  rfl
theorem chs_fit {L : List Int} (hc : ∀ x ∈ L, 0 ≤ x ∧ x < 128) {i : Nat} : fits .byte (.int (chs L i)) = true := by
  by_cases h : i < L.length
  · exact (asc' (hc _ (getD_in h))).2.2.2.2
  · rw [chs_out (by omega)]
    decide
theorem chs_cpy {L : List Int} {n : Nat} (h : L.length ≤ n) : va_cpy (chs L) (fun _ => (0 : Int32)) 0 0 n = chs L := by
  funext i
  unfold va_cpy
  by_cases q : 0 ≤ i ∧ i < 0 + n
  · rw [if_pos q, Nat.zero_add, Nat.sub_zero]
  · rw [if_neg q, chs_out (by omega)]
    rfl
theorem ap_new {V : va_W} {x : Nat × va_E} : (V ++ [x])[V.length]? = some x := by
  rw [List.getElem?_append_right (Nat.le_refl _), Nat.sub_self]; rfl
theorem jb_copy {k0 k1 a b n0 n1 x pc sp' dp' n' : Nat} {f g : Nat → Int32} {sp dp n : Int} {ls : Array Slot} {rest : List Value} {V : va_W} (F : FJ own D A ad adV cA S p s m args c cc nL0) (hw : WV D A s V H locs) (hl : ls.size = nL0) (h0 : V[k0]? = some (a, .inl (cA 4, n0, .inl f))) (h1 : V[k1]? = some (b, .inl (cA 4, n1, .inl g))) (e1 : sp = (sp' : Int)) (e2 : dp = (dp' : Int)) (e3 : n = (n' : Int))
    (hlink : Jvm.Cond.methodLink own x arraycopyName ∈ lw_tbl) (q0 : sp' < 1000 ∧ dp' < 1000 ∧ n' < 1000) (q1 : sp' + n' ≤ n0) (q2 : dp' + n' ≤ n1) (hfit : ∀ i, i < n' → fits .byte (.int (f (sp' + i))) = true) (hf : 1 ≤ R.frames) (hlo : (rest.map fun v => v.category).sum + (nativeFrameWords "java/lang/System" "arraycopy" 5 + 11) ≤ R.locals) (hd : decode cc pc = .ok (.invokestatic x, 3))
    (kk : ∀ (H1 : Heap) (locs1 : List Loc), WV D A s (V.set k1 (b, .inl (cA 4, n1, .inl (va_cpy f g sp' dp' n')))) H1 locs1 → W p l e R s m args below meth c H1 locs1 cells slots Q (F0 m (pc + 3) ls rest)) : W p l e R s m args below meth c H locs cells slots Q (F0 m pc ls (.int (iI n) :: .int (iI dp) :: .ref b :: .int (iI sp) :: .ref a :: rest)) := by
  subst e1 e2 e3
  obtain ⟨u1, v1⟩ := iI_clamp (z := (sp' : Int)) ⟨by omega, by omega⟩
  obtain ⟨u2, v2⟩ := iI_clamp (z := (dp' : Int)) ⟨by omega, by omega⟩
  obtain ⟨u3, v3⟩ := iI_clamp (z := (n' : Int)) ⟨by omega, by omega⟩
  rw [Int.toNat_natCast] at u1 u2 u3
  refine va_copyi F.1 F.2.1 (F.2.2.1.trans hl.symm) F.2.2.2.1 (ts_of' F.2.2.2.2.1 hlink rfl) (ts_of' F.2.2.2.2.1 (lib_in _ (by decide)) rfl) (ts_of' F.2.2.2.2.1 (lib_in _ (by decide)) rfl) (ts_of' F.2.2.2.2.1 (lib_in _ (by decide)) rfl) F.2.2.2.2.2.1 hw.1 hw.2.1 hw.2.2 k0 k1 4 4 h0 h1 rfl rfl rfl v1 v2 v3 (by rw [u1, u3]; exact q1) (by rw [u2, u3]; exact q2) (by rw [u1, u3]; exact hfit) hf hlo hd (fun H1 locs1 a1 a2 a3 => ?_)
  rw [u1, u2, u3] at a1 a2
  exact kk H1 locs1 ⟨a1, a2, a3⟩
def jw71W : List Jvm.Cond := [.fieldLink RAS 18 RST "COMPACT_STRINGS" "Z",
  .fieldLink RAS 22 (TX9b 1).1 (TX9b 1).2.1 (TX9b 1).2.2.1,
  .methodLink "jdk/internal/util/ArraysSupport" 194 Lib.Math.max.name,
  .constant "jdk/internal/util/ArraysSupport" 200 (iI 2147483639),
  .fieldLink RAS 15 (TX9b 0).1 (TX9b 0).2.1 (TX9b 0).2.2.1,
  .methodLink RAS 114 jy1_newLength,
  .static jy1_newLength,
  .initialized "jdk/internal/util/ArraysSupport",
  .code jy1_newLength prog_38_method_27_code 4 (some .int),
  .constant RAS 39 (iI 2147483647),
  .methodLink "java/util/Arrays" 304 Lib.Math.min.name,
  .methodLink "java/util/Arrays" 150 arraycopyName]
theorem jw71_in : ∀ w ∈ jw71W, w ∈ lw_tbl := by decide +kernel
theorem jw71 (k : Nat) {w : Jvm.Cond} (h : jw71W[k]? = some w) : w ∈ lw_tbl := jw71_in w (List.mem_of_getElem? h)
theorem j_latB {V : va_W} {k b v : Nat} {x y : Value} (hk : V[k]? = some (b, .inr (8, [.ref v, .int (iI 0), x, y]))) : JM l D A ad adV cA S jy0_isLatin1 prog_12_method_68_code 1 (some .boolean) 0 0 0 [.ref b] V (fun r V' => r = some (.int (iI 1)) ∧ V' = V) := by
  refine jm_of (by decide) ?_ (Nat.le_of_ble_eq_true rfl)
  rintro p e s m args below meth c F hlk hrt hmn hw ls hl
  have hl : lv_has ls 1 [(0, .ref b)] := hl
  obtain ⟨hx, hb, hml, hown, hts, hK, hWX, hA, hDG, hSS⟩ := id F
  refine jb_cs F hw (jw71 0 rfl) (by decide +kernel) ?_
  refine lz_if_eq hx hb (a := 1) (off := 14) (tgt := 17) (by decide +kernel) (by decide) ⟨by decide, by decide⟩ (fun h9 => absurd h9 (by decide)) (fun _ => ?_)
  refine lv_aload_n hx hb (k := 0) (i := 0) (x := b) (by decide +kernel) rfl (lv_at hl 0 rfl) ?_
  refine jb_get (k := k) (i := 1) (v := .int (iI 0)) F hw hk (by decide) rfl (jw71 1 rfl) (by decide +kernel) ?_
  refine lz_if_ne hx hb (a := 0) (off := 7) (tgt := 17) (by decide +kernel) (by decide) ⟨by decide, by decide⟩ (fun h9 => absurd h9 (by decide)) (fun _ => ?_)
  refine lv_iconst hx hb (n := 1) (v := iI 1) (by decide +kernel) rfl ?_
  refine lv_goto hx hb (off := 4) (tgt := 18) (by decide +kernel) (by decide) ?_
  exact jm_zret F hlk hrt hw rfl ⟨rfl, rfl⟩ (by omega) (by omega) (by decide +kernel)
theorem j_newLen {V : va_W} {a b g : Int} (h : 0 ≤ a ∧ a ≤ 100 ∧ 0 ≤ b ∧ b ≤ g ∧ 0 < g ∧ g ≤ 102) : JM l D A ad adV cA S jy1_newLength prog_38_method_27_code 4 (some .int) 1 0 0 [.int (iI a), .int (iI b), .int (iI g)] V (fun r V' => r = some (.int (iI (a + g))) ∧ V' = V) := by
  refine jm_of (by decide) ?_ (Nat.le_of_ble_eq_true rfl)
  rintro p e s m args below meth c F hlk hrt hmn hw ls hl
  have hl : lv_has ls 4 [(0, .int (iI a)), (1, .int (iI b)), (2, .int (iI g))] := hl
  obtain ⟨hx, hb, hml, hown, hts, hK, hWX, hA, hDG, hSS⟩ := id F
  refine lv_iload_n hx hb (k := 0) (i := 0) (x := iI a) (by decide +kernel) rfl (lv_at hl 0 rfl) ?_
  refine lv_iload_n hx hb (k := 1) (i := 1) (x := iI b) (by decide +kernel) rfl (lv_at hl 1 rfl) ?_
  refine lv_iload_n hx hb (k := 2) (i := 2) (x := iI g) (by decide +kernel) rfl (lv_at hl 2 rfl) ?_
  refine jz_max (x := 194) F hl.1 (a := b) (b := g) (rest := [.int (iI a)]) (jw71 2 rfl) (by show 1 ≤ 1; decide) (Nat.le_of_ble_eq_true rfl) (by show _ ≤ 0; omega) (by show _ ≤ 0; omega) ⟨by omega, by omega⟩ ⟨by omega, by omega⟩ (by decide +kernel) ?_
  rw [show (if b < g then g else b) = g by split <;> omega]
  refine lz_iadd hx hb (a := a) (b := g) (by decide +kernel) ?_
  refine lv_istore_n hx hb (k := 3) (i := 3) (lv' := [(3, .int (iI (a + g))), (0, .int (iI a)), (1, .int (iI b)), (2, .int (iI g))]) (by decide +kernel) rfl hl (by decide) rfl (fun ls hl => ?_)
  refine lv_iconst hx hb (n := 0) (v := iI 0) (by decide +kernel) rfl ?_
  refine lv_iload_n hx hb (k := 3) (i := 3) (x := iI (a + g)) (by decide +kernel) rfl (lv_at hl 0 rfl) ?_
  refine lz_icmp_ge hx hb (a := 0) (b := (a + g)) (off := 11) (tgt := 21) (by decide +kernel) (by decide) ⟨by decide, by decide⟩ ⟨by omega, by omega⟩ (fun h9 => absurd h9 (by omega)) (fun _ => ?_)
  refine lv_iload_n hx hb (k := 3) (i := 3) (x := iI (a + g)) (by decide +kernel) rfl (lv_at hl 0 rfl) ?_
  refine lv_ldc hx hb hown (v := iI 2147483639) (ts_of' hts (jw71 3 rfl) rfl) (by decide +kernel) ?_
  refine lz_icmp_gt hx hb (a := (a + g)) (b := 2147483639) (off := 5) (tgt := 21) (by decide +kernel) (by decide) ⟨by omega, by omega⟩ ⟨by decide, by decide⟩ (fun h9 => absurd h9 (by omega)) (fun _ => ?_)
  refine lv_iload_n hx hb (k := 3) (i := 3) (x := iI (a + g)) (by decide +kernel) rfl (lv_at hl 0 rfl) ?_
  exact jm_zret F hlk hrt hw rfl ⟨rfl, rfl⟩ (by omega) (by omega) (by decide +kernel)
theorem j_newCap {V : va_W} {k j b v n : Nat} {x y : Value} {f : Nat → Int32} {z : Int} (hk : V[k]? = some (b, .inr (8, [.ref v, .int (iI 0), x, y]))) (hj : V[j]? = some (v, .inl (cA 4, n, .inl f))) (hz : (n : Int) < z ∧ z ≤ 2 * (n : Int) + 2 ∧ n ≤ 100) : JM l D A ad adV cA S jy2_newCapacity prog_12_method_10_code 6 (some .int) 2 0 0 [.ref b, .int (iI z)] V (fun r V' => r = some (.int (iI (2 * (n : Int) + 2))) ∧ V' = V) := by
  refine jm_of (by decide) ?_ (Nat.le_of_ble_eq_true rfl)
  rintro p e s m args below meth c F hlk hrt hmn hw ls hl
  have hl : lv_has ls 6 [(0, .ref b), (1, .int (iI z))] := hl
  obtain ⟨hx, hb, hml, hown, hts, hK, hWX, hA, hDG, hSS⟩ := id F
  refine lv_aload_n hx hb (k := 0) (i := 0) (x := b) (by decide +kernel) rfl (lv_at hl 0 rfl) ?_
  refine jb_get (k := k) (i := 0) (v := .ref v) F hw hk (by decide) rfl (jw71 4 rfl) (by decide +kernel) ?_
  refine jb_alen (k := j) F hw hj (by decide +kernel) ?_
  refine lv_istore_n hx hb (k := 2) (i := 2) (lv' := [(2, .int (iI (n : Int))), (0, .ref b), (1, .int (iI z))]) (by decide +kernel) rfl hl (by decide) rfl (fun ls hl => ?_)
  refine lv_iload_n hx hb (k := 1) (i := 1) (x := iI z) (by decide +kernel) rfl (lv_at hl 2 rfl) ?_
  refine lv_aload_n hx hb (k := 0) (i := 0) (x := b) (by decide +kernel) rfl (lv_at hl 1 rfl) ?_
  refine jb_get (k := k) (i := 1) (v := .int (iI 0)) F hw hk (by decide) rfl (jw71 1 rfl) (by decide +kernel) ?_
  refine lv_ishl hx hb (x := iI z) (y := iI 0) (by decide +kernel) ?_
  rw [jsh_l]
  refine lv_istore_n hx hb (k := 3) (i := 3) (lv' := [(3, .int (iI z)), (2, .int (iI (n : Int))), (0, .ref b), (1, .int (iI z))]) (by decide +kernel) rfl hl (by decide) rfl (fun ls hl => ?_)
  refine lv_iload_n hx hb (k := 3) (i := 3) (x := iI z) (by decide +kernel) rfl (lv_at hl 0 rfl) ?_
  refine lv_iload_n hx hb (k := 2) (i := 2) (x := iI (n : Int)) (by decide +kernel) rfl (lv_at hl 1 rfl) ?_
  refine lz_isub hx hb (a := z) (b := (n : Int)) (by decide +kernel) ?_
  refine lv_istore hx hb (i := 4) (lv' := [(4, .int (iI (z - (n : Int)))), (3, .int (iI z)), (2, .int (iI (n : Int))), (0, .ref b), (1, .int (iI z))]) (by decide +kernel) hl (by decide) rfl (fun ls hl => ?_)
  refine lv_iload_n hx hb (k := 2) (i := 2) (x := iI (n : Int)) (by decide +kernel) rfl (lv_at hl 2 rfl) ?_
  refine lv_iload hx hb (i := 4) (x := iI (z - (n : Int))) (by decide +kernel) (lv_at hl 0 rfl) ?_
  refine lv_iload_n hx hb (k := 2) (i := 2) (x := iI (n : Int)) (by decide +kernel) rfl (lv_at hl 2 rfl) ?_
  refine lv_iconst hx hb (n := 2) (v := iI 2) (by decide +kernel) rfl ?_
  refine lv_aload_n hx hb (k := 0) (i := 0) (x := b) (by decide +kernel) rfl (lv_at hl 3 rfl) ?_
  refine jb_get (k := k) (i := 1) (v := .int (iI 0)) F hw hk (by decide) rfl (jw71 1 rfl) (by decide +kernel) ?_
  refine lv_ishl hx hb (x := iI 2) (y := iI 0) (by decide +kernel) ?_
  rw [jsh_l]
  refine lz_iadd hx hb (a := (n : Int)) (b := 2) (by decide +kernel) ?_
  refine jm_S (x := 114) (n := 3) (as := [.int (iI (n : Int)), .int (iI (z - (n : Int))), .int (iI ((n : Int) + 2))]) (rest := []) F hw hl.1 (j_newLen (V := V) (a := (n : Int)) (b := (z - (n : Int))) (g := ((n : Int) + 2)) ⟨by omega, by omega, by omega, by omega, by omega, by omega⟩) (jw71 5 rfl) (jw71 6 rfl) (jw71 7 rfl) (jw71 8 rfl) ⟨by decide, by decide, by decide +kernel⟩ rfl ⟨Nat.le_of_ble_eq_true rfl, Nat.le_of_ble_eq_true rfl, by show _ ≤ 0; omega, by show _ ≤ 0; omega⟩ (Nat.le_of_ble_eq_true rfl) (by decide +kernel) rfl (fun v9 V9 hG H locs hw => ?_)
  rw [show (n : Int) + ((n : Int) + 2) = 2 * (n : Int) + 2 by omega] at hG
  obtain ⟨rfl, e9⟩ := hG
  rw [e9] at hw
  refine W.eq (g2 := F0 m 32 ls [.int (iI (2 * (n : Int) + 2))]) rfl ?_
  refine lv_istore hx hb (i := 5) (lv' := [(5, .int (iI (2 * (n : Int) + 2))), (4, .int (iI (z - (n : Int)))), (3, .int (iI z)), (2, .int (iI (n : Int))), (0, .ref b), (1, .int (iI z))]) (by decide +kernel) hl (by decide) rfl (fun ls hl => ?_)
  refine lv_iload hx hb (i := 5) (x := iI (2 * (n : Int) + 2)) (by decide +kernel) (lv_at hl 0 rfl) ?_
  refine lv_ldc hx hb hown (v := iI 2147483647) (ts_of' hts (jw71 9 rfl) rfl) (by decide +kernel) ?_
  refine lz_icmp_ne hx hb (a := (2 * (n : Int) + 2)) (b := 2147483647) (off := 13) (tgt := 51) (by decide +kernel) (by decide) ⟨by omega, by omega⟩ ⟨by decide, by decide⟩ (fun _ => ?_) (fun h9 => absurd (by omega) h9)
  refine lv_iload hx hb (i := 5) (x := iI (2 * (n : Int) + 2)) (by decide +kernel) (lv_at hl 0 rfl) ?_
  refine lv_aload_n hx hb (k := 0) (i := 0) (x := b) (by decide +kernel) rfl (lv_at hl 4 rfl) ?_
  refine jb_get (k := k) (i := 1) (v := .int (iI 0)) F hw hk (by decide) rfl (jw71 1 rfl) (by decide +kernel) ?_
  refine lv_ishr hx hb (x := iI (2 * (n : Int) + 2)) (y := iI 0) (by decide +kernel) ?_
  rw [jsh_r]
  exact jm_zret F hlk hrt hw rfl ⟨rfl, rfl⟩ (by omega) (by omega) (by decide +kernel)
theorem set_last {V : va_W} {x y : Nat × va_E} : (V ++ [x]).set V.length y = V ++ [y] := by
  rw [List.set_append_right _ _ (Nat.le_refl _), Nat.sub_self]; rfl
theorem j_copyOf {V : va_W} {j a n N : Nat} {L : List Int} (hj : V[j]? = some (a, .inl (cA 4, n, .inl (chs L)))) (hn : L.length ≤ n ∧ n < N ∧ N ≤ 34) (hc : ∀ x ∈ L, 0 ≤ x ∧ x < 128) : JM l D A ad adV cA S jy3_copyOf prog_36_method_121_code 3 (some (.array .byte)) 1 1 34 [.ref a, .int (iI (N : Int))] V (fun r V' => ∃ q, r = some (.ref q) ∧ V' = V ++ [(q, .inl (cA 4, N, .inl (chs L)))]) := by
  refine jm_of (by decide) ?_ (Nat.le_of_ble_eq_true rfl)
  rintro p e s m args below meth c F hlk hrt hmn hw ls hl
  have hl : lv_has ls 3 [(0, .ref a), (1, .int (iI (N : Int)))] := hl
  obtain ⟨hx, hb, hml, hown, hts, hK, hWX, hA, hDG, hSS⟩ := id F
  have hfit := fun i => chs_fit (L := L) hc (i := i)
  refine lv_iload_n hx hb (k := 1) (i := 1) (x := iI (N : Int)) (by decide +kernel) rfl (lv_at hl 1 rfl) ?_
  refine lv_aload_n hx hb (k := 0) (i := 0) (x := a) (by decide +kernel) rfl (lv_at hl 0 rfl) ?_
  refine jb_alen (k := _) F hw (by first | exact hj | exact ap_l hj) (by decide +kernel) ?_
  refine lz_icmp_ne hx hb (a := (N : Int)) (b := (n : Int)) (off := 11) (tgt := 14) (by decide +kernel) (by decide) ⟨by omega, by omega⟩ ⟨by omega, by omega⟩ (fun _ => ?_) (fun h9 => absurd (by omega) h9)
  refine lv_iload_n hx hb (k := 1) (i := 1) (x := iI (N : Int)) (by decide +kernel) rfl (lv_at hl 1 rfl) ?_
  refine jb_newb (N := N) F hw (by omega) (by omega) (by show _ ≤ 1; omega) (by show _ ≤ 34; omega) (by decide +kernel) (fun q H hw => ?_)
  refine lv_astore_n hx hb (k := 2) (i := 2) (lv' := [(2, .ref q), (0, .ref a), (1, .int (iI (N : Int)))]) (by decide +kernel) rfl hl (by decide) rfl (fun ls hl => ?_)
  refine lv_aload_n hx hb (k := 0) (i := 0) (x := a) (by decide +kernel) rfl (lv_at hl 1 rfl) ?_
  refine lv_iconst hx hb (n := 0) (v := iI 0) (by decide +kernel) rfl ?_
  refine lv_aload_n hx hb (k := 2) (i := 2) (x := q) (by decide +kernel) rfl (lv_at hl 0 rfl) ?_
  refine lv_iconst hx hb (n := 0) (v := iI 0) (by decide +kernel) rfl ?_
  refine lv_aload_n hx hb (k := 0) (i := 0) (x := a) (by decide +kernel) rfl (lv_at hl 1 rfl) ?_
  refine jb_alen (k := _) F hw (by first | exact hj | exact ap_l hj) (by decide +kernel) ?_
  refine lv_iload_n hx hb (k := 1) (i := 1) (x := iI (N : Int)) (by decide +kernel) rfl (lv_at hl 2 rfl) ?_
  refine jz_min (x := 304) F hl.1 (a := (n : Int)) (b := (N : Int)) (rest := [.int (iI 0), .ref q, .int (iI 0), .ref a]) (jw71 10 rfl) (by show 1 ≤ 1; decide) (Nat.le_of_ble_eq_true rfl) (by show _ ≤ 1; omega) (by show _ ≤ 34; omega) ⟨by omega, by omega⟩ ⟨by omega, by omega⟩ (by decide +kernel) ?_
  rw [show (if (N : Int) < (n : Int) then (N : Int) else (n : Int)) = (n : Int) by split <;> omega]
  refine jb_copy (k0 := j) (k1 := V.length) F hw hl.1 (ap_l hj) (ap_new) (sp := 0) (dp := 0) (n := (n : Int)) (sp' := 0) (dp' := 0) (n' := n) (rest := []) rfl rfl rfl (jw71 11 rfl) (by omega) (by omega) (by omega) (fun i hi => hfit _) (by show 1 ≤ 1; decide) (Nat.le_of_ble_eq_true rfl) (by decide +kernel) (fun H locs hw => ?_)
  rw [set_last, chs_cpy hn.1] at hw
  refine lv_aload_n hx hb (k := 2) (i := 2) (x := q) (by decide +kernel) rfl (lv_at hl 0 rfl) ?_
  exact jm_aret (Or.inr ⟨_, rfl⟩) F hlk hrt hw ⟨q, rfl, rfl⟩ (by omega) (by omega) (by decide +kernel)
end JB1
