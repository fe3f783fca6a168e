/-! a constant's length and chars: the walks -/
section JDW
variable {l : Launch} {A : Nat → Prop} {ad adV : Nat → Nat}
theorem jin (k : Nat) {w : Jvm.Cond} (h : [Jvm.Cond.instanceMethod yLen, .selects yLen.cls yLen yLen, .initialized yLen.cls, .code yLen prog_27_method_54_code 1 (some .int),
    .instanceMethod yCod, .selects yCod.cls yCod yCod, .code yCod prog_27_method_152_code 1 (some .byte), .methodLink "java/lang/String" 335 yCod,
    .instanceMethod yLat, .selects yLat.cls yLat yLat, .code yLat prog_27_method_154_code 1 (some .boolean), .methodLink "java/lang/String" 492 yLat,
    .instanceMethod yChr, .selects yChr.cls yChr yChr, .code yChr prog_27_method_56_code 2 (some .char),
    .static yChl, .initialized yChl.cls, .code yChl prog_29_method_2_code 2 (some .char), .methodLink "java/lang/String" 495 yChl,
    .static yChk, .code yChk prog_27_method_155_code 2 none, .methodLink "java/lang/StringLatin1" 9 yChk,
    .static yPck, .initialized yPck.cls, .code yPck prog_39_method_11_code 3 (some .int), .methodLink "java/lang/String" 1059 yPck,
    sfl 38 "COMPACT_STRINGS" "Z", sfl 9 "value" "[B", sfl 15 "coder" "B",
    .fieldLink "java/lang/String" 1053 "jdk/internal/util/Preconditions" "SIOOBE_FORMATTER" "Ljava/util/function/BiFunction;"][k]? = some w) : w ∈ lw_tbl := jdk_in w (List.mem_of_getElem? h)
theorem jmem {L : List Int32} {k : Nat} (h : k < L.length) : L.getD k 0 ∈ L := by
  rw [List.getD_eq_getElem?_getD, List.getElem?_eq_getElem h]
  exact List.getElem_mem h
theorem jlt {i : Int32} {n : Nat} (hi : vp_in i n) (hn : n < 2 ^ 31) : i < Int32.ofNat n := by
  rw [Int32.lt_iff_toInt_lt, show (Int32.ofNat n).toInt = (n : Int) from nI_toInt hn]
  exact (vp_in_iff.mp hi).2
theorem j_coder {q : Nat} (hq : q < 19) : JC l A ad adV yCod prog_27_method_152_code 1 (some .byte) 0 [.ref (ad (100 + q))] (some (.int 0)) := by
  refine jc_of (by decide) ?_
  rintro p e R s m args below meth c rfl hx hb hml hown hts hlk hrt hWX
  have hc := hWX.2.2.2.1
  have hs := (hWX.2.2.1.1.1 q hq).2.1
  refine va_gets (C := "java/lang/String") (ref := "java/lang/String") hx hb hc va_S.rf hown (ts_of' hts (jin 26 rfl) rfl) (fun _ h => h) (by decide +kernel) ?_
  refine lv_if_eq hx hb (off := 10) (tgt := 13) (by decide +kernel) (by decide) (fun h => absurd h (by decide)) (fun _ => ?_)
  refine lv_aload_n hx hb (k := 0) (i := 0) (x := ad (100 + q)) (by decide +kernel) rfl rfl ?_
  refine vk_getf (o := "java/lang/String") (ref := "java/lang/String") hx hb hs va_S.rf hown (ts_of' hts (jin 28 rfl) rfl) (fun _ h => h) (by decide +kernel) ?_
  refine lv_goto hx hb (off := 4) (tgt := 14) (by decide +kernel) (by decide) ?_
  exact vx_ret (W.zret hx hb hrt rfl (fun t ht _ => ⟨rfl, ht⟩) (fun _ h => by cases h) (by decide +kernel) hlk)
theorem j_lat {q : Nat} (hq : q < 19) : JC l A ad adV yLat prog_27_method_154_code 1 (some .boolean) 0 [.ref (ad (100 + q))] (some (.int 1)) := by
  refine jc_of (by decide) ?_
  rintro p e R s m args below meth c rfl hx hb hml hown hts hlk hrt hWX
  have hc := hWX.2.2.2.1
  have hs := (hWX.2.2.1.1.1 q hq).2.1
  refine va_gets (C := "java/lang/String") (ref := "java/lang/String") hx hb hc va_S.rf hown (ts_of' hts (jin 26 rfl) rfl) (fun _ h => h) (by decide +kernel) ?_
  refine lv_if_eq hx hb (off := 14) (tgt := 17) (by decide +kernel) (by decide) (fun h => absurd h (by decide)) (fun _ => ?_)
  refine lv_aload_n hx hb (k := 0) (i := 0) (x := ad (100 + q)) (by decide +kernel) rfl rfl ?_
  refine vk_getf (o := "java/lang/String") (ref := "java/lang/String") hx hb hs va_S.rf hown (ts_of' hts (jin 28 rfl) rfl) (fun _ h => h) (by decide +kernel) ?_
  refine lv_if_ne hx hb (off := 7) (tgt := 17) (by decide +kernel) (by decide) (fun h => absurd rfl h) (fun _ => ?_)
  refine lv_iconst hx hb (n := 1) (v := 1) (by decide +kernel) rfl ?_
  refine lv_goto hx hb (off := 4) (tgt := 18) (by decide +kernel) (by decide) ?_
  exact vx_ret (W.zret hx hb hrt rfl (fun t ht _ => ⟨rfl, ht⟩) (fun _ h => by cases h) (by decide +kernel) hlk)
theorem jc_fact : ∀ q, q < 19 → (lnS.getD q 0 = (byS.getD q []).length ∧ (byS.getD q []).length < 2 ^ 31 ∧ ∀ b ∈ byS.getD q [], ((b &&& 255).toUInt32 % 65536).toInt32 = b ∧ vp_nar .char b = b) := by decide +kernel
theorem j_len {q : Nat} (hq : q < 19) : JC l A ad adV yLen prog_27_method_54_code 1 (some .int) 1 [.ref (ad (100 + q))] (some (.int (Int32.ofNat (byS.getD q []).length))) := by
  refine jc_of (by decide) ?_
  rintro p e R s m args below meth c rfl hx hb hml hown hts hlk hrt hWX
  obtain ⟨ho, -, hv, ht9⟩ := hWX.2.2.1.1.1 q hq
  obtain ⟨f1, f2, -⟩ := jc_fact q hq
  rw [f1] at ht9
  refine lv_aload_n hx hb (k := 0) (i := 0) (x := ad (100 + q)) (by decide +kernel) rfl rfl ?_
  refine vk_getf (o := "java/lang/String") (ref := "java/lang/String") hx hb hv va_S.rf hown (ts_of' hts (jin 27 rfl) rfl) (fun _ h => h) (by decide +kernel) ?_
  refine va_tlen hx hb ht9 va_S.rf rfl (by decide +kernel) ?_
  refine lv_aload_n hx hb (k := 0) (i := 0) (x := ad (100 + q)) (by decide +kernel) rfl rfl ?_
  obtain ⟨cell, g1, g2, g3, -⟩ := ho
  refine jc_V (n := 0) (As := []) (x := 335) (j_coder hq) hx hts hb hown hWX va_S.rf (by rw [hml]; rfl) (ts_of' hts (jin 7 rfl) rfl) (jin 4 rfl) (jin 5 rfl) (jin 2 rfl) (jin 6 rfl) ⟨by decide, by decide, by decide +kernel⟩ rfl ⟨by decide, by decide, by decide, by decide⟩ ⟨cell, g1, g2, g3⟩ (by show (1 : Nat) ≤ 8; decide) (by decide +kernel) rfl ?_
  refine lv_ishr hx hb (x := Int32.ofNat (byS.getD q []).length) (y := 0) (by decide +kernel) ?_
  have e9 : Int32.ofNat (byS.getD q []).length >>> ((0 : Int32) &&& 31) = Int32.ofNat (byS.getD q []).length := sc_shr0 f2
  rw [e9]
  exact vx_ret (W.zret hx hb hrt rfl (fun t ht _ => ⟨rfl, ht⟩) (fun _ h => by cases h) (by decide +kernel) hlk)
theorem j_pck {i : Int32} {n : Nat} {w : Value} (hw : w = .null ∨ ∃ t : Nat, w = .ref t) (hi : vp_in i n) (hn : n < 2 ^ 31) : JC l A ad adV yPck prog_39_method_11_code 3 (some .int) 0 [.int i, .int (Int32.ofNat n), w] (some (.int i)) := by
  refine jc_of (by decide) ?_
  rintro p e R s m args below meth c rfl hx hb hml hown hts hlk hrt hWX
  have hL : ∃ ls : Array Slot, (lg_sl [.int i, .int (Int32.ofNat n), w] ++ List.replicate (3 - (lg_sl [.int i, .int (Int32.ofNat n), w]).length) Slot.unset).toArray = ls ∧ ls[0]? = some (.val (.int i)) ∧ ls[1]? = some (.val (.int (Int32.ofNat n))) := by
    rcases hw with rfl | ⟨t, rfl⟩ <;> exact ⟨_, rfl, rfl, rfl⟩
  obtain ⟨ls, hls, l0, l1⟩ := hL
  rw [hls]
  have i0 : ¬ i < 0 := fun h => hi (Or.inl h)
  have i1 : i < Int32.ofNat n := jlt hi hn
  refine lv_iload_n hx hb (k := 0) (i := 0) (by decide +kernel) rfl l0 ?_
  refine lv_if_lt hx hb (off := 8) (tgt := 9) (by decide +kernel) (by decide) (fun h => absurd h i0) (fun _ => ?_)
  refine lv_iload_n hx hb (k := 0) (i := 0) (by decide +kernel) rfl l0 ?_
  refine lv_iload_n hx hb (k := 1) (i := 1) (by decide +kernel) rfl l1 ?_
  refine lv_icmp_lt hx hb (off := 10) (tgt := 16) (by decide +kernel) (by decide) (fun _ => ?_) (fun h => absurd i1 h)
  refine lv_iload_n hx hb (k := 0) (i := 0) (by decide +kernel) rfl l0 ?_
  exact vx_ret (W.zret hx hb hrt rfl (fun t ht _ => ⟨rfl, ht⟩) (fun _ h => by cases h) (by decide +kernel) hlk)
theorem j_chk {i : Int32} {n : Nat} (hi : vp_in i n) (hn : n < 2 ^ 31) : JC l A ad adV yChk prog_27_method_155_code 2 none 1 [.int i, .int (Int32.ofNat n)] none := by
  refine jc_of (by decide) ?_
  rintro p e R s m args below meth c rfl hx hb hml hown hts hlk hrt hWX
  have hz : ∃ w : Value, (w = .null ∨ ∃ t : Nat, w = .ref t) ∧ va_Z "jdk/internal/util/Preconditions" "SIOOBE_FORMATTER" "Ljava/util/function/BiFunction;" w A s s.heap := by
    rcases hWX.2.2.2.2 with h | ⟨t, h⟩
    · exact ⟨_, Or.inl rfl, h⟩
    · exact ⟨_, Or.inr ⟨t, rfl⟩, h⟩
  obtain ⟨w, hw, hz⟩ := hz
  refine lv_iload_n hx hb (k := 0) (i := 0) (by decide +kernel) rfl (x := i) rfl ?_
  refine lv_iload_n hx hb (k := 1) (i := 1) (by decide +kernel) rfl (x := Int32.ofNat n) rfl ?_
  refine va_gets (C := "jdk/internal/util/Preconditions") (ref := "jdk/internal/util/Preconditions") hx hb hz va_S.rf hown (ts_of' hts (jin 29 rfl) rfl) (fun _ h => h) (by decide +kernel) ?_
  refine jc_S (n := 3) (As := [.int i, .int (Int32.ofNat n), w]) (rest := []) (x := 1059) (j_pck hw hi hn) hx hts hb hown hWX va_S.rf (by rw [hml]; rfl) (ts_of' hts (jin 25 rfl) rfl) (jin 22 rfl) (jin 23 rfl) (jin 24 rfl) ⟨by decide, by decide, by decide +kernel⟩ rfl ⟨by decide, by decide, by decide, by decide⟩ (by decide) (by decide +kernel) rfl ?_
  refine lv_pop hx hb (va := .int i) (by decide +kernel) rfl ?_
  exact vx_ret (W.vret hx hb hrt (fun t ht _ => ⟨rfl, ht⟩) (fun _ h => by cases h) (by decide +kernel) hlk)
theorem j_chl {q : Nat} {i : Int32} (hq : q < 19) (hi : vp_in i (byS.getD q []).length) : JC l A ad adV yChl prog_29_method_2_code 2 (some .char) 2 [.ref (adV q), .int i] (some (.int ((byS.getD q []).getD i.toNatClampNeg 0))) := by
  refine jc_of (by decide) ?_
  rintro p e R s m args below meth c rfl hx hb hml hown hts hlk hrt hWX
  obtain ⟨ho, -, hv, ht9⟩ := hWX.2.2.1.1.1 q hq
  obtain ⟨f1, f2, f3⟩ := jc_fact q hq
  rw [f1] at ht9
  have hm : (byS.getD q []).getD i.toNatClampNeg 0 ∈ byS.getD q [] := by
    have hlt : i.toNatClampNeg < (byS.getD q []).length := Nat.not_le.mp fun z => hi (Or.inr z)
    exact jmem hlt
  obtain ⟨f4, f5⟩ := f3 _ hm
  refine lv_iload_n hx hb (k := 1) (i := 1) (by decide +kernel) rfl (x := i) rfl ?_
  refine lv_aload_n hx hb (k := 0) (i := 0) (x := adV q) (by decide +kernel) rfl rfl ?_
  refine va_tlen hx hb ht9 va_S.rf rfl (by decide +kernel) ?_
  refine jc_S (n := 2) (As := [.int i, .int (Int32.ofNat (byS.getD q []).length)]) (rest := []) (x := 9) (j_chk hi f2) hx hts hb hown hWX va_S.rf (by rw [hml]; rfl) (ts_of' hts (jin 21 rfl) rfl) (jin 19 rfl) (jin 2 rfl) (jin 20 rfl) ⟨by decide, by decide, by decide +kernel⟩ rfl ⟨by decide, by decide, by decide, by decide⟩ (by decide) (by decide +kernel) rfl ?_
  refine lv_aload_n hx hb (k := 0) (i := 0) (x := adV q) (by decide +kernel) rfl rfl ?_
  refine lv_iload_n hx hb (k := 1) (i := 1) (by decide +kernel) rfl (x := i) rfl ?_
  refine va_tb hx hb ht9 va_S.rf hi rfl (by decide +kernel) ?_
  refine lv_sipush hx hb (n := 255) (v := 255) (by decide +kernel) rfl ?_
  refine lv_iand hx hb (by decide +kernel) ?_
  refine lv_i2c hx hb (by decide +kernel) f4 ?_
  exact vx_ret (W.zret hx hb hrt (show narrow .char (.int ((byS.getD q []).getD i.toNatClampNeg 0)) = .int ((byS.getD q []).getD i.toNatClampNeg 0) from congrArg Value.int f5) (fun t ht _ => ⟨rfl, ht⟩) (fun _ h => by cases h) (by decide +kernel) hlk)
theorem j_chr {q : Nat} {i : Int32} (hq : q < 19) (hi : vp_in i (byS.getD q []).length) : JC l A ad adV yChr prog_27_method_56_code 2 (some .char) 3 [.ref (ad (100 + q)), .int i] (some (.int ((byS.getD q []).getD i.toNatClampNeg 0))) := by
  refine jc_of (by decide) ?_
  rintro p e R s m args below meth c rfl hx hb hml hown hts hlk hrt hWX
  obtain ⟨ho, -, hv, ht9⟩ := hWX.2.2.1.1.1 q hq
  obtain ⟨f1, f2, f3⟩ := jc_fact q hq
  have hm : (byS.getD q []).getD i.toNatClampNeg 0 ∈ byS.getD q [] := by
    have hlt : i.toNatClampNeg < (byS.getD q []).length := Nat.not_le.mp fun z => hi (Or.inr z)
    exact jmem hlt
  obtain ⟨f4, f5⟩ := f3 _ hm
  obtain ⟨cell, g1, g2, g3, -⟩ := ho
  refine lv_aload_n hx hb (k := 0) (i := 0) (x := ad (100 + q)) (by decide +kernel) rfl rfl ?_
  refine jc_V (n := 0) (As := []) (x := 492) (j_lat hq) hx hts hb hown hWX va_S.rf (by rw [hml]; rfl) (ts_of' hts (jin 11 rfl) rfl) (jin 8 rfl) (jin 9 rfl) (jin 2 rfl) (jin 10 rfl) ⟨by decide, by decide, by decide +kernel⟩ rfl ⟨by decide, by decide, by decide, by decide⟩ ⟨cell, g1, g2, g3⟩ (by decide) (by decide +kernel) rfl ?_
  refine lv_if_eq hx hb (off := 12) (tgt := 16) (by decide +kernel) (by decide) (fun h => absurd h (by decide)) (fun _ => ?_)
  refine lv_aload_n hx hb (k := 0) (i := 0) (x := ad (100 + q)) (by decide +kernel) rfl rfl ?_
  refine vk_getf (o := "java/lang/String") (ref := "java/lang/String") hx hb hv va_S.rf hown (ts_of' hts (jin 27 rfl) rfl) (fun _ h => h) (by decide +kernel) ?_
  refine lv_iload_n hx hb (k := 1) (i := 1) (by decide +kernel) rfl (x := i) rfl ?_
  refine jc_S (n := 2) (As := [.ref (adV q), .int i]) (rest := []) (x := 495) (j_chl hq hi) hx hts hb hown hWX va_S.rf (by rw [hml]; rfl) (ts_of' hts (jin 18 rfl) rfl) (jin 15 rfl) (jin 16 rfl) (jin 17 rfl) ⟨by decide, by decide, by decide +kernel⟩ rfl ⟨by decide, by decide, by decide, by decide⟩ (by decide) (by decide +kernel) rfl ?_
  exact vx_ret (W.zret hx hb hrt (show narrow .char (.int ((byS.getD q []).getD i.toNatClampNeg 0)) = .int ((byS.getD q []).getD i.toNatClampNeg 0) from congrArg Value.int f5) (fun t ht _ => ⟨rfl, ht⟩) (fun _ h => by cases h) (by decide +kernel) hlk)
variable {p : Program} {e : Env} {R : Room} {s : State} {m : MethodId} {args : Array Value} {below : List Frame} {meth : Method} {c : Code} {H : Heap} {locs : List Loc} {cells slots : Nat} {Q : State → Prop}
/-- a call of String.length over a constant -/
theorem sle_row (F : p.tables.exec = Jvm.exec ∧ (∀ w ∈ TS, w.before args s = true)) {cc : ByteArray} {own : String} {x pc q : Nat} {ls : Array Slot} {rest : List Value} (hb : c.code = cc) (hown : s.vm.findClass own = some m.cls) (hW : WX A ad adV s s.heap) (hS : va_S A s.heap H locs) (hl : ls.size = c.maxLocals)
    (hlink : (Jvm.Cond.methodLink own x ⟨"java/lang/String", "length", "()I"⟩).before args s = true) (hq : q < 19) (hrest : (rest.map fun v => v.category).sum ≤ 8) (hR : 200 ≤ R.locals ∧ 8 ≤ R.frames ∧ cells ≤ R.cells ∧ slots ≤ R.slots) (hd : decode cc pc = .ok (.invokevirtual x, 3))
    (kk : ∀ H1 locs1, (∀ a : Nat, a < H.size → H1[a]? = H[a]?) → H.size ≤ H1.size → va_S A s.heap H1 locs1 → W p l e R s m args below meth c H1 locs1 cells slots Q (F0 m (pc + 3) ls (.int (Int32.ofNat (byS.getD q []).length) :: rest))) : W p l e R s m args below meth c H locs cells slots Q (F0 m pc ls (.ref (ad (100 + q)) :: rest)) := by
  obtain ⟨cell, g1, g2, g3, -⟩ := ((hW.kept hS.2.1).2.2.1.1.1 q hq).1
  exact jc_V (n := 0) (As := []) (j_len hq) F.1 F.2 hb hown hW hS hl hlink (jin 0 rfl) (jin 1 rfl) (jin 2 rfl) (jin 3 rfl) ⟨by decide, by decide, by decide +kernel⟩ rfl ⟨by omega, by omega, hR.2.2.1, hR.2.2.2⟩ ⟨cell, g1, g2, g3⟩ hrest hd rfl (kk H locs (fun _ _ => rfl) (Nat.le_refl _) hS)
/-- a call of String.charAt over a constant -/
theorem sch_row (F : p.tables.exec = Jvm.exec ∧ (∀ w ∈ TS, w.before args s = true)) {cc : ByteArray} {own : String} {x pc q : Nat} {i : Int32} {ls : Array Slot} {rest : List Value} (hb : c.code = cc) (hown : s.vm.findClass own = some m.cls) (hW : WX A ad adV s s.heap) (hS : va_S A s.heap H locs) (hl : ls.size = c.maxLocals)
    (hlink : (Jvm.Cond.methodLink own x ⟨"java/lang/String", "charAt", "(I)C"⟩).before args s = true) (hq : q < 19) (hi : vp_in i (byS.getD q []).length) (hrest : (rest.map fun v => v.category).sum ≤ 8) (hR : 200 ≤ R.locals ∧ 8 ≤ R.frames ∧ cells ≤ R.cells ∧ slots ≤ R.slots) (hd : decode cc pc = .ok (.invokevirtual x, 3))
    (kk : ∀ H1 locs1, (∀ a : Nat, a < H.size → H1[a]? = H[a]?) → H.size ≤ H1.size → va_S A s.heap H1 locs1 → W p l e R s m args below meth c H1 locs1 cells slots Q (F0 m (pc + 3) ls (.int ((byS.getD q []).getD i.toNatClampNeg 0) :: rest))) : W p l e R s m args below meth c H locs cells slots Q (F0 m pc ls (.int i :: .ref (ad (100 + q)) :: rest)) := by
  obtain ⟨cell, g1, g2, g3, -⟩ := ((hW.kept hS.2.1).2.2.1.1.1 q hq).1
  exact jc_V (n := 1) (As := [.int i]) (j_chr hq hi) F.1 F.2 hb hown hW hS hl hlink (jin 12 rfl) (jin 13 rfl) (jin 2 rfl) (jin 14 rfl) ⟨by decide, by decide, by decide +kernel⟩ rfl ⟨by omega, by omega, hR.2.2.1, hR.2.2.2⟩ ⟨cell, g1, g2, g3⟩ hrest hd rfl (kk H locs (fun _ _ => rfl) (Nat.le_refl _) hS)
end JDW
