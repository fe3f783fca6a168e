/-! strings in the law's frames -/
section LST
variable {p : Program} {l : Launch} {e : Env} {R : Room} {s : State} {m : MethodId} {args : Array Value} {below : List Frame} {meth : Method} {c : Code} {H : Heap} {locs : List Loc} {cells slots : Nat} {Q : State → Prop}
variable {D : va_G} {A A' : Nat → Prop} {ad adV : Nat → Nat} {cA : Nat → ClassId} {S : List (Nat × Nat × List Int)} {bc0 : ByteArray} {nL0 : Nat}
theorem not_inV {W0 V : va_W} {q : Nat × va_E} {k : Nat} (hw : WV D A s (W0 ++ V) H locs) (hk : W0[k]? = some q) : ¬ va_A V H.size q.1 := by
  rintro (⟨j, e, hj⟩ | h)
  · exact vD_x hw.2.1 hk hj rfl
  · have := (vP_l hw.1 k q hk).lt
    omega
theorem vS_of {W : va_W} {k k2 q v : Nat} {L : List Int} (hts : ∀ w ∈ TS, w.before args s = true) (hK : va_K D cls9 (tyL cA) s) (hP : va_P D cls9 W H) (h1 : W[k]? = some (q, .inr (9, [.ref v, .int (iI 0), .int (iI 0), .int (iI 0)]))) (h2 : W[k2]? = some (v, .inl (cA 4, L.length, .inl (chs L)))) (n1 : ¬ A' q) (n2 : ¬ A' v) (hc : ∀ x ∈ L, 0 ≤ x ∧ x < 128) (hl : L.length ≤ 100) : vS A' (q, v, L) s H := by
  obtain ⟨r, hr, cell, q1, q2, q3, q4⟩ := hP k _ h1
  have hr2 : r = (RX9s, TX9s, 4) := Option.some.inj (hr.symm.trans rfl)
  subst hr2
  obtain ⟨hS, hfc, kC, hkC, hkind⟩ := hK.1 9 _ rfl
  have fld : ∀ i, i < 4 → va_OF (TX9s i).1 (TX9s i).2.1 (TX9s i).2.2.1 (vp_V [.ref v, .int (iI 0), .int (iI 0), .int (iI 0)] i) q A' s H := by
    intro i hi
    obtain ⟨cf, kf, fi, f, hif, hsl⟩ := hS i hi
    exact ⟨cf, kf, fi, f, cell, hif, (u_facts hfc hkC (u_lays hts (uw_B (Or.inr rfl)) hi) hif).1, q1, (by rw [q3]; exact fun h => (by cases h)), (by rw [hsl]; exact q4 i hi), n1⟩
  have a1 : H[v]? = some (arrV (cA 4) L.length (fun j => .int (chs L j))) := hP k2 _ h2
  refine ⟨⟨cell, q1, by rw [q3]; rfl, by rw [q2]; exact hfc, n1⟩, fld 1 (by decide), fld 0 (by decide), ⟨_, a1, (hK.2 4 _ rfl).1 _ _, (fun h => (by cases h)), ?_, ?_, fun j hj => arrV_read _ _ hj, n2⟩, hc, hl⟩
  · rw [arrV_size]; exact Nat.le_refl _
  · rw [arrV_size]
/-- a constant's chars -/
def chL (q : Nat) : List Int := (byS.getD q []).map Int32.toInt
theorem chL_in : ∀ q, q < 19 → (∀ x ∈ chL q, 0 ≤ x ∧ x < 128) ∧ (chL q).length ≤ 100 := by decide +kernel
theorem chL_at (q j : Nat) : chs (chL q) j = (byS.getD q []).getD j 0 := by
  unfold chs chL
  generalize byS.getD q [] = bs
  rw [List.getD_eq_getElem?_getD, List.getElem?_map, List.getD_eq_getElem?_getD]
  cases bs[j]? with
  | none => rfl
  | some x => exact Int32.ofInt_toInt x
theorem vS_cs {q : Nat} (hq : q < 19) (hW : WX A' ad adV s H) : vS A' (ad (100 + q), adV q, chL q) s H := by
  obtain ⟨h1, h2, h3, h4⟩ := hW.2.2.1.1.1 q hq
  obtain ⟨f1, -, -⟩ := jc_fact q hq
  obtain ⟨g1, g2⟩ := chL_in q hq
  refine ⟨h1, h2, h3, ?_, g1, g2⟩
  have e1 : (fun j => Value.int (chs (chL q) j)) = fun j => .int ((byS.getD q []).getD j 0) := funext fun j => by rw [chL_at]
  show va_T .byte (adV q) (chL q).length (fun j => Value.int (chs (chL q) j)) A' s H
  rw [e1, show (chL q).length = lnS.getD q 0 by rw [f1]; exact List.length_map _]
  exact h4
/-- a text: a constant, or one that was built -/
def TX (ad adV : Nat → Nat) (cA : Nat → ClassId) (T : va_W) (q v : Nat) (L : List Int) : Prop :=
  (T = [] ∧ ∃ k, k < 19 ∧ q = ad (100 + k) ∧ v = adV k ∧ L = chL k) ∨ (T = SW cA q v L ∧ (∀ x ∈ L, 0 ≤ x ∧ x < 128) ∧ L.length ≤ 100)
theorem TX.ok {T : va_W} {q v : Nat} {L : List Int} (h : TX ad adV cA T q v L) : (∀ x ∈ L, 0 ≤ x ∧ x < 128) ∧ L.length ≤ 100 := by
  rcases h with ⟨-, k, hk, -, -, rfl⟩ | ⟨-, h1, h2⟩
  · exact chL_in k hk
  · exact ⟨h1, h2⟩
theorem TX.cs {k : Nat} (hk : k < 19) : TX ad adV cA [] (ad (100 + k)) (adV k) (chL k) := Or.inl ⟨rfl, k, hk, rfl, rfl, rfl⟩
theorem TX.built {q v : Nat} {L : List Int} (h : ∀ x ∈ L, 0 ≤ x ∧ x < 128) (hl : L.length ≤ 100) : TX ad adV cA (SW cA q v L) q v L := Or.inr ⟨rfl, h, hl⟩
theorem TX.vS {W0 V T : va_W} {q v : Nat} {L : List Int} (ht : TX ad adV cA T q v L) (F : FL D A ad adV cA p l s m args c bc0 nL0) (hw : WV D A s (W0 ++ V) H locs) (hT : ∀ x ∈ T, x ∈ W0) : vS (va_A V H.size) (q, v, L) s H := by
  obtain ⟨hx, hb, hml, hown, hts, hK, hWX, hA, hN, hJ, hl0⟩ := F
  have hsub := subA (vD_r hw.2.1) hA hw.2.2
  rcases ht with ⟨-, k, hk, rfl, rfl, rfl⟩ | ⟨rfl, h1, h2⟩
  · exact vS_cs hk ((hWX.kept hw.2.2.2.1).narrow hsub)
  · obtain ⟨i, hi⟩ := List.getElem?_of_mem (hT _ List.mem_cons_self)
    obtain ⟨j, hj⟩ := List.getElem?_of_mem (hT _ (List.mem_cons_of_mem _ List.mem_cons_self))
    exact vS_of hts hK (vP_l hw.1) hi hj (not_inV hw hi) (not_inV hw hj) h1 h2
theorem DG_of {U : State} (h : JX A ad U H) : DG A U H := ⟨h.2.1, h.2.2.1, h.1.2⟩
theorem fj_pre {V W0 : va_W} {as : List Value} (F : FL D A ad adV cA p l s m args c bc0 nL0) (hw : WV D A s (W0 ++ V) H locs) (hSS : ∀ z ∈ S, vS (va_A V H.size) z s H) : ∀ U : State, U.heap = H → s.WarmedH U.vm → va_Pc as (IJ D (va_A V H.size) ad adV cA S V) as.toArray U := by
  intro U hU hW
  obtain ⟨hx, hb, hml, hown, hts, hK, hWX, hA, hN, hJ, hl0⟩ := F
  have hsub := subA (vD_r hw.2.1) hA hw.2.2
  refine ⟨rfl, by rw [hU]; exact vP_r hw.1, va_K.moved hW.alike hK, (vD_r hw.2.1).self, ?_, fun q hq => Or.inr (by rw [hU] at hq; exact hq), ?_, ?_⟩
  · rw [hU]
    exact (WX.warm hW (hWX.kept hw.2.2.2.1)).narrow hsub
  · rw [hU]
    exact DG.warm hW (((DG_of hJ).kept hw.2.2.2.1).narrow hsub)
  · rw [hU]
    exact fun z hz => vS.warm hW (hSS z hz)
theorem fj_ran {mc ms pc : Nat} {W0 V : va_W} {ls : Array Slot} {st0 rest : List Value} {a : Array Value} {G : Option Value → va_W → Prop} (hr : va_Run p l e R s m args below meth c H locs cells slots mc ms (F0 m pc ls st0) rest (JQ9 D (va_A V H.size) G a) (va_A V H.size)) (hw : WV D A s (W0 ++ V) H locs) (hA : ∀ q, s.heap.size ≤ q → A q)
    (kk : ∀ (v : Option Value) (V' : va_W), G v V' → ∀ (H1 : Heap) (locs1 : List Loc), WV D A s (W0 ++ V') H1 locs1 → W p l e R s m args below meth c H1 locs1 (cells + mc) (slots + ms) Q (F0 m (pc + 3) ls (v.toList ++ rest))) : W p l e R s m args below meth c H locs cells slots Q (F0 m pc ls st0) := by
  have hsub := subA (vD_r hw.2.1) hA hw.2.2
  intro T hT X
  obtain ⟨v, st₀, t, T', L, h0, X', hL, e1, e2, ⟨k, V', hv, hGk, hP, hD', hF⟩, st⟩ := hr T hT X
  cases hv
  obtain ⟨k1, k2, k3⟩ := vx_keep (A1 := va_A V H.size) (free := va_A V H.size) h0 e1 hw.2.2 (fun q _ h => hsub q h) hsub hL hF
  have hP0 : va_P D cls9 W0 T'.heap := (vP_l hw.1).kept fun k q hq => k2 q.1 ((vP_l hw.1 k q hq).lt) (not_inV hw hq)
  have hw1 : WV D A s (W0 ++ V') T'.heap (locs ++ L) := by
    refine ⟨hP0.app (by rw [e1]; exact hP), va_D.app (vD_l hw.2.1) (hD'.weaken fun k q _ h => hsub q.1 h) (fun i j p q hi hj e => ?_), k3⟩
    exact not_inV hw hi (by rw [e]; exact hD'.2 j q hj)
  obtain ⟨t2, a1, b1⟩ := kk _ V' hGk T'.heap (locs ++ L) hw1 T' rfl X'
  exact ⟨t2, st t2 a1, b1⟩
theorem fj_V {C : String} {y : MethodName} {bc : ByteArray} {nL n f mc ms x pc b : Nat} {ret : Option FieldType} {as rest st0 : List Value} {ls : Array Slot} {W0 V : va_W} {G : Option Value → va_W → Prop} (F : FL D A ad adV cA p l s m args c bc0 nL0) (hw : WV D A s (W0 ++ V) H locs) (hl : ls.size = nL0) (hM : JM l D (va_A V H.size) ad adV cA S y bc nL ret f mc ms (.ref b :: as) V G) (hSS : ∀ z ∈ S, vS (va_A V H.size) z s H)
    (hr : ∃ cellB : Cell, H[b]? = some cellB ∧ cellB.vm.isStatics = false ∧ s.vm.findClass C = some cellB.cls) (hsel : Jvm.Cond.selects C y y ∈ lw_tbl)
    (hlink : Jvm.Cond.methodLink RL x y ∈ lw_tbl) (h1 : Jvm.Cond.instanceMethod y ∈ lw_tbl) (h3 : Jvm.Cond.initialized y.cls ∈ lw_tbl) (h4 : Jvm.Cond.code y bc nL ret ∈ lw_tbl)
    (hy : y.cls ≠ "java/lang/invoke/MethodHandle" ∧ y.cls ≠ "java/lang/invoke/VarHandle" ∧ (parseMethodDescriptor y.desc).map (fun d => d.parameters.length) = some n) (hn : as.length = n)
    (hR : f + 1 ≤ R.frames ∧ 8 + (nL + 11) + 60 * f ≤ R.locals ∧ cells + mc ≤ R.cells ∧ slots + ms ≤ R.slots) (h8 : (rest.map fun v => v.category).sum ≤ 8) (hd : decode bc0 pc = .ok (.invokevirtual x, 3)) (hst : st0 = as.reverse ++ .ref b :: rest)
    (kk : ∀ (v : Option Value) (V' : va_W), G v V' → ∀ (H1 : Heap) (locs1 : List Loc), WV D A s (W0 ++ V') H1 locs1 → W p l e R s m args below meth c H1 locs1 (cells + mc) (slots + ms) Q (F0 m (pc + 3) ls (v.toList ++ rest))) : W p l e R s m args below meth c H locs cells slots Q (F0 m pc ls st0) := by
  have hp := fj_pre (as := .ref b :: as) F hw hSS
  obtain ⟨hx, hb, hml, hown, hts, hK, hWX, hA, hN, hJ, hl0⟩ := F
  exact fj_ran (va_runV (own := RL) (C := C) (Ts := TS) (b := b) (As := as) ⟨hx, hb, rfl, hown, hts⟩ hM ⟨callB_of n hts (good_B h4) rfl rfl rfl (ts_of' hts h3 rfl) (ts_of' hts hlink rfl) hy ⟨hR.1, hR.2.1⟩, ts_of' hts h1 rfl, ts_of' hts hsel rfl⟩ ⟨IJ_blind, hr, hp⟩ rfl hn (hl.trans hml.symm) hst (lv_room h8) hd hR.2.2) hw hA kk
theorem fj_I {y : MethodName} {bc : ByteArray} {nL n f mc ms x pc b : Nat} {as rest st0 : List Value} {ls : Array Slot} {W0 V : va_W} {G : Option Value → va_W → Prop} (F : FL D A ad adV cA p l s m args c bc0 nL0) (hw : WV D A s (W0 ++ V) H locs) (hl : ls.size = nL0) (hM : JM l D (va_A V H.size) ad adV cA S y bc nL none f mc ms (.ref b :: as) V G) (hSS : ∀ z ∈ S, vS (va_A V H.size) z s H)
    (hy1 : y.name = "<init>") (hlink : Jvm.Cond.methodLink RL x y ∈ lw_tbl) (h1 : Jvm.Cond.instanceMethod y ∈ lw_tbl) (h3 : Jvm.Cond.initialized y.cls ∈ lw_tbl) (h4 : Jvm.Cond.code y bc nL none ∈ lw_tbl)
    (hy : y.cls ≠ "java/lang/invoke/MethodHandle" ∧ y.cls ≠ "java/lang/invoke/VarHandle" ∧ (parseMethodDescriptor y.desc).map (fun d => d.parameters.length) = some n) (hn : as.length = n)
    (hR : f + 1 ≤ R.frames ∧ 8 + (nL + 11) + 60 * f ≤ R.locals ∧ cells + mc ≤ R.cells ∧ slots + ms ≤ R.slots) (h8 : (rest.map fun v => v.category).sum ≤ 8) (hd : decode bc0 pc = .ok (.invokespecial x, 3)) (hst : st0 = as.reverse ++ .ref b :: rest)
    (kk : ∀ (v : Option Value) (V' : va_W), G v V' → ∀ (H1 : Heap) (locs1 : List Loc), WV D A s (W0 ++ V') H1 locs1 → W p l e R s m args below meth c H1 locs1 (cells + mc) (slots + ms) Q (F0 m (pc + 3) ls (v.toList ++ rest))) : W p l e R s m args below meth c H locs cells slots Q (F0 m pc ls st0) := by
  have hp := fj_pre (as := .ref b :: as) F hw hSS
  obtain ⟨hx, hb, hml, hown, hts, hK, hWX, hA, hN, hJ, hl0⟩ := F
  exact fj_ran (va_runI (own := RL) (Ts := TS) (b := b) (As := as) ⟨hx, hb, rfl, hown, hts⟩ hM ⟨callB_of n hts (good_B h4) rfl rfl rfl (ts_of' hts h3 rfl) (ts_of' hts hlink rfl) hy ⟨hR.1, hR.2.1⟩, hy1, ts_of' hts h1 rfl⟩ ⟨IJ_blind, hp⟩ rfl hn (hl.trans hml.symm) hst (lv_room h8) hd hR.2.2) hw hA kk
/-! rows of the law -/
def lr75W : List Jvm.Cond := [.selects RST jy7_length jy7_length,
  .methodLink RL 115 jy7_length,
  .instanceMethod jy7_length,
  .initialized RST,
  .code jy7_length prog_27_method_54_code 1 (some .int),
  .selects RST jy8_charAt jy8_charAt,
  .methodLink RL 120 jy8_charAt,
  .instanceMethod jy8_charAt,
  .code jy8_charAt prog_27_method_56_code 2 (some .char),
  .classLink RL 253 RX9b,
  .instantiable RX9b 4,
  .initialized RX9b,
  .methodLink RL 255 jy25_ini,
  .instanceMethod jy25_ini,
  .code jy25_ini prog_28_method_1_code 1 (none),
  .selects RX9b jy16_append jy16_append,
  .methodLink RL 256 jy16_append,
  .instanceMethod jy16_append,
  .code jy16_append prog_28_method_7_code 2 (some (.object "java/lang/StringBuilder")),
  .selects RX9b jy19_append jy19_append,
  .methodLink RL 263 jy19_append,
  .instanceMethod jy19_append,
  .code jy19_append prog_28_method_14_code 2 (some (.object "java/lang/StringBuilder")),
  .selects RX9b jy23_append jy23_append,
  .methodLink RL 276 jy23_append,
  .instanceMethod jy23_append,
  .code jy23_append prog_28_method_15_code 2 (some (.object "java/lang/StringBuilder")),
  .selects RX9b jy34_toString jy34_toString,
  .methodLink RL 266 jy34_toString,
  .instanceMethod jy34_toString,
  .code jy34_toString prog_28_method_42_code 1 (some (.object "java/lang/String"))]
theorem lr75_in : ∀ w ∈ lr75W, w ∈ lw_tbl := by decide +kernel
theorem lr75 (k : Nat) {w : Jvm.Cond} (h : lr75W[k]? = some w) : w ∈ lw_tbl := lr75_in w (List.mem_of_getElem? h)

theorem nil_in {W0 V : va_W} : ∀ z ∈ ([] : List (Nat × Nat × List Int)), vS (va_A V H.size) z s H := fun _ h => absurd h List.not_mem_nil
/-- String.length, String.charAt -/
theorem sl_len {W0 T : va_W} {q v pc : Nat} {L : List Int} {ls : Array Slot} {rest : List Value} (F : FL D A ad adV cA p l s m args c bc0 nL0) (hw : WV D A s W0 H locs) (hl : ls.size = nL0) (ht : TX ad adV cA T q v L) (hT : ∀ x ∈ T, x ∈ W0) (hR : 2 ≤ R.frames ∧ 200 ≤ R.locals ∧ cells ≤ R.cells ∧ slots ≤ R.slots) (h8 : (rest.map fun v => v.category).sum ≤ 8) (hd : decode bc0 pc = .ok (.invokevirtual 115, 3))
    (kk : ∀ (H1 : Heap) (locs1 : List Loc), WV D A s W0 H1 locs1 → W p l e R s m args below meth c H1 locs1 cells slots Q (F0 m (pc + 3) ls (.int (iI (L.length : Int)) :: rest))) : W p l e R s m args below meth c H locs cells slots Q (F0 m pc ls (.ref q :: rest)) := by
  have hw' : WV D A s (W0 ++ []) H locs := by rw [List.append_nil]; exact hw
  have hs := ht.vS F hw' hT
  refine fj_V (S := [(q, v, L)]) (C := RST) (V := []) (x := 115) (n := 0) (as := []) F hw' hl (j_slen (V := []) (List.mem_singleton.mpr rfl)) (fun z hz => by rw [List.mem_singleton.mp hz]; exact hs) (by obtain ⟨cell, g1, g2, g3, -⟩ := hs.parts.1; exact ⟨cell, g1, g2, g3⟩) (lr75 0 rfl) (lr75 1 rfl) (lr75 2 rfl) (lr75 3 rfl) (lr75 4 rfl) ⟨by decide, by decide, by decide +kernel⟩ rfl ⟨by omega, by omega, by omega, by omega⟩ h8 hd rfl (fun v9 V9 hG H1 locs1 hw1 => ?_)
  obtain ⟨rfl, e9⟩ := hG
  rw [e9, List.append_nil] at hw1
  exact kk H1 locs1 hw1
theorem sl_chr {W0 T : va_W} {q v pc i : Nat} {L : List Int} {z : Int} {ls : Array Slot} {rest : List Value} (F : FL D A ad adV cA p l s m args c bc0 nL0) (hw : WV D A s W0 H locs) (hl : ls.size = nL0) (ht : TX ad adV cA T q v L) (hT : ∀ x ∈ T, x ∈ W0) (hz : z = (i : Int)) (hi : i < L.length) (hR : 4 ≤ R.frames ∧ 300 ≤ R.locals ∧ cells ≤ R.cells ∧ slots ≤ R.slots) (h8 : (rest.map fun v => v.category).sum ≤ 8) (hd : decode bc0 pc = .ok (.invokevirtual 120, 3))
    (kk : ∀ (H1 : Heap) (locs1 : List Loc), WV D A s W0 H1 locs1 → W p l e R s m args below meth c H1 locs1 cells slots Q (F0 m (pc + 3) ls (.int (iI (L.getD i 0)) :: rest))) : W p l e R s m args below meth c H locs cells slots Q (F0 m pc ls (.int (iI z) :: .ref q :: rest)) := by
  subst hz
  have hw' : WV D A s (W0 ++ []) H locs := by rw [List.append_nil]; exact hw
  have hs := ht.vS F hw' hT
  refine fj_V (S := [(q, v, L)]) (C := RST) (V := []) (x := 120) (n := 1) (as := [.int (iI (i : Int))]) F hw' hl (j_schr (V := []) (List.mem_singleton.mpr rfl) hi) (fun z hz => by rw [List.mem_singleton.mp hz]; exact hs) (by obtain ⟨cell, g1, g2, g3, -⟩ := hs.parts.1; exact ⟨cell, g1, g2, g3⟩) (lr75 5 rfl) (lr75 6 rfl) (lr75 7 rfl) (lr75 3 rfl) (lr75 8 rfl) ⟨by decide, by decide, by decide +kernel⟩ rfl ⟨by omega, by omega, by omega, by omega⟩ h8 hd rfl (fun v9 V9 hG H1 locs1 hw1 => ?_)
  obtain ⟨rfl, e9⟩ := hG
  rw [e9, List.append_nil] at hw1
  exact kk H1 locs1 hw1
/-- new StringBuilder() -/
theorem bl_new {W1 X1 : va_W} {pc : Nat} {ls : Array Slot} {rest : List Value} (F : FL D A ad adV cA p l s m args c bc0 nL0) (hw : WV D A s (W1 ++ X1) H locs) (hl : ls.size = nL0) (hR : 3 ≤ R.frames ∧ 200 ≤ R.locals ∧ cells + 2 ≤ R.cells ∧ slots + 20 ≤ R.slots) (h8 : (rest.map fun v => v.category).sum ≤ 6) (hd : decode bc0 pc = .ok (.new 253, 3)) (hd2 : decode bc0 (pc + 3) = .ok (.dup, 1)) (hd3 : decode bc0 (pc + 4) = .ok (.invokespecial 255, 3))
    (kk : ∀ (b v : Nat) (L : List Int) (H1 : Heap) (locs1 : List Loc), L = [] → L.length = 0 → (∀ x ∈ L, 0 ≤ x ∧ x < 128) → WV D A s (W1 ++ (X1 ++ BW cA b v 16 L)) H1 locs1 → W p l e R s m args below meth c H1 locs1 (cells + 2) (slots + 20) Q (F0 m (pc + 7) ls (.ref b :: rest))) : W p l e R s m args below meth c H locs cells slots Q (F0 m pc ls rest) := by
  refine va_new (D := D) (ci := 8) (C := RX9b) (T := TX9b) (N := 4) (fs := [.null, .int (iI 0), .int (iI 0), .int (iI 0)]) F.1 F.2.1 F.2.2.2.2.1 (uw_B (Or.inl rfl)) ty9b ty9b_ok F.2.2.2.1 (ts_of' F.2.2.2.2.1 (lr75 9 rfl) rfl) (ts_of' F.2.2.2.2.1 (lr75 10 rfl) rfl) (ts_of' F.2.2.2.2.1 (lr75 11 rfl) rfl) F.2.2.2.2.2.1 hw.1 hw.2.1 hw.2.2 F.2.2.2.2.2.2.2.1 rfl df9b (by omega) (by omega) hd (fun b H1 k1 k2 k3 => ?_)
  have hw1 : WV D A s ((W1 ++ X1) ++ [(b, .inr (8, [.null, .int (iI 0), .int (iI 0), .int (iI 0)]))]) H1 locs := ⟨k1, k2, k3⟩
  refine lv_dup F.1 F.2.1 hd2 rfl ?_
  refine fj_I (S := []) (x := 255) (n := 0) (as := []) (rest := .ref b :: rest) F hw1 hl j_ini (fun _ h => absurd h List.not_mem_nil) rfl (lr75 12 rfl) (lr75 13 rfl) (lr75 11 rfl) (lr75 14 rfl) ⟨by decide, by decide, by decide +kernel⟩ rfl ⟨by omega, by omega, by omega, by omega⟩ (by rw [List.map_cons, List.sum_cons]; show 1 + _ ≤ 8; omega) hd3 rfl (fun v9 V9 hG H2 locs2 hw2 => ?_)
  obtain ⟨rfl, v, e9⟩ := hG
  rw [e9, List.append_assoc] at hw2
  refine W.widen (k := cells + 2) (n := slots + 20) (by omega) (by omega) ?_
  exact kk b v [] H2 locs2 rfl rfl (fun _ h => absurd h List.not_mem_nil) hw2
theorem app_in {L M : List Int} (h1 : ∀ x ∈ L, 0 ≤ x ∧ x < 128) (h2 : ∀ x ∈ M, 0 ≤ x ∧ x < 128) : ∀ x ∈ L ++ M, 0 ≤ x ∧ x < 128 := fun x hx => (List.mem_append.mp hx).elim (h1 x) (h2 x)
theorem bl_recv {W1 X1 : va_W} {b v n : Nat} {L : List Int} (F : FL D A ad adV cA p l s m args c bc0 nL0) (hw : WV D A s (W1 ++ (X1 ++ BW cA b v n L)) H locs) : ∃ cellB : Cell, H[b]? = some cellB ∧ cellB.vm.isStatics = false ∧ s.vm.findClass RX9b = some cellB.cls :=
  va_recv (q := (RX9b, TX9b, 4)) F.2.2.2.2.2.1 (vP_r (vP_r hw.1)) rfl (show (BW cA b v n L)[0]? = _ from rfl)
/-- append(String) -/
theorem bl_S {W1 X1 T : va_W} {b v n q v9 pc : Nat} {L M : List Int} {ls : Array Slot} {rest : List Value} (F : FL D A ad adV cA p l s m args c bc0 nL0) (hw : WV D A s (W1 ++ (X1 ++ BW cA b v n L)) H locs) (hl : ls.size = nL0) (ht : TX ad adV cA T q v9 M) (hT : ∀ x ∈ T, x ∈ X1) (hL : L.length ≤ n ∧ n ≤ 34) (hc : ∀ x ∈ L, 0 ≤ x ∧ x < 128) (hk9 : L.length + M.length ≤ n ∨ (n = 16 ∧ L.length + M.length ≤ 34))
    {n' : Nat} (hcap : capn n ((L.length : Int) + (M.length : Int)) = n') (hR : 6 ≤ R.frames ∧ 400 ≤ R.locals ∧ cells + 1 ≤ R.cells ∧ slots + 34 ≤ R.slots) (h8 : (rest.map fun v => v.category).sum ≤ 8) (hd : decode bc0 pc = .ok (.invokevirtual 256, 3))
    (kk : ∀ (v' : Nat) (L' : List Int) (H1 : Heap) (locs1 : List Loc), L' = L ++ M → L'.length = L.length + (M).length → (∀ x ∈ L', 0 ≤ x ∧ x < 128) → WV D A s (W1 ++ (X1 ++ BW cA b v' n' L')) H1 locs1 → W p l e R s m args below meth c H1 locs1 (cells + 1) (slots + 34) Q (F0 m (pc + 3) ls (.ref b :: rest))) : W p l e R s m args below meth c H locs cells slots Q (F0 m pc ls (.ref q :: .ref b :: rest)) := by
  have hr := bl_recv F hw
  rw [← List.append_assoc] at hw
  have hs := ht.vS F hw (fun x hx => List.mem_append_right _ (hT x hx))
  refine fj_V (S := [(q, v9, M)]) (C := RX9b) (x := 256) (n := 1) (as := [.ref q]) F hw hl (j_sappS (List.mem_singleton.mpr rfl) hL hc hk9) (fun z hz => by rw [List.mem_singleton.mp hz]; exact hs) hr (lr75 15 rfl) (lr75 16 rfl) (lr75 17 rfl) (lr75 11 rfl) (lr75 18 rfl) ⟨by decide, by decide, by decide +kernel⟩ rfl ⟨by omega, by omega, by omega, by omega⟩ h8 hd rfl (fun v9 V9 hG H1 locs1 hw1 => ?_)
  obtain ⟨rfl, v', e9⟩ := hG
  rw [e9, List.append_assoc, hcap] at hw1
  exact kk v' (L ++ M) H1 locs1 rfl List.length_append (app_in hc ht.ok.1) hw1
/-- append(char) -/
theorem bl_C {W1 X1 : va_W} {b v n pc : Nat} {L : List Int} {x9 : Int} {ls : Array Slot} {rest : List Value} (F : FL D A ad adV cA p l s m args c bc0 nL0) (hw : WV D A s (W1 ++ (X1 ++ BW cA b v n L)) H locs) (hl : ls.size = nL0) (hx9 : 0 ≤ x9 ∧ x9 < 128) (hL : L.length ≤ n ∧ n ≤ 34) (hc : ∀ x ∈ L, 0 ≤ x ∧ x < 128) (hk9 : L.length + 1 ≤ n ∨ (n = 16 ∧ L.length + 1 ≤ 34))
    {n' : Nat} (hcap : capn n ((L.length : Int) + 1) = n') (hR : 6 ≤ R.frames ∧ 400 ≤ R.locals ∧ cells + 1 ≤ R.cells ∧ slots + 34 ≤ R.slots) (h8 : (rest.map fun v => v.category).sum ≤ 8) (hd : decode bc0 pc = .ok (.invokevirtual 263, 3))
    (kk : ∀ (v' : Nat) (L' : List Int) (H1 : Heap) (locs1 : List Loc), L' = L ++ [x9] → L'.length = L.length + 1 → (∀ x ∈ L', 0 ≤ x ∧ x < 128) → WV D A s (W1 ++ (X1 ++ BW cA b v' n' L')) H1 locs1 → W p l e R s m args below meth c H1 locs1 (cells + 1) (slots + 34) Q (F0 m (pc + 3) ls (.ref b :: rest))) : W p l e R s m args below meth c H locs cells slots Q (F0 m pc ls (.int (iI x9) :: .ref b :: rest)) := by
  have hr := bl_recv F hw
  rw [← List.append_assoc] at hw
  refine fj_V (S := []) (C := RX9b) (x := 263) (n := 1) (as := [.int (iI x9)]) F hw hl (j_sappC hx9 hL hc hk9) (fun _ h => absurd h List.not_mem_nil) hr (lr75 19 rfl) (lr75 20 rfl) (lr75 21 rfl) (lr75 11 rfl) (lr75 22 rfl) ⟨by decide, by decide, by decide +kernel⟩ rfl ⟨by omega, by omega, by omega, by omega⟩ h8 hd rfl (fun v9 V9 hG H1 locs1 hw1 => ?_)
  obtain ⟨rfl, v', e9⟩ := hG
  rw [e9, List.append_assoc, hcap] at hw1
  exact kk v' (L ++ [x9]) H1 locs1 rfl List.length_append (app_in hc (fun x hx => by rw [List.mem_singleton.mp hx]; exact hx9)) hw1
/-- append(int) -/
theorem bl_I {W1 X1 : va_W} {b v n k pc : Nat} {L : List Int} {z : Int} {ls : Array Slot} {rest : List Value} (F : FL D A ad adV cA p l s m args c bc0 nL0) (hw : WV D A s (W1 ++ (X1 ++ BW cA b v n L)) H locs) (hl : ls.size = nL0) (hz : z = (k : Int)) (hk : k < 100) (hL : L.length ≤ n ∧ n ≤ 34) (hc : ∀ x ∈ L, 0 ≤ x ∧ x < 128) (hk9 : L.length + (dgs k).length ≤ n ∨ (n = 16 ∧ L.length + (dgs k).length ≤ 34))
    {n' : Nat} (hcap : capn n ((L.length : Int) + ((dgs k).length : Int)) = n') (hR : 6 ≤ R.frames ∧ 400 ≤ R.locals ∧ cells + 1 ≤ R.cells ∧ slots + 34 ≤ R.slots) (h8 : (rest.map fun v => v.category).sum ≤ 8) (hd : decode bc0 pc = .ok (.invokevirtual 276, 3))
    (kk : ∀ (v' : Nat) (L' : List Int) (H1 : Heap) (locs1 : List Loc), L' = L ++ dgs k → L'.length = L.length + (dgs k).length → (∀ x ∈ L', 0 ≤ x ∧ x < 128) → WV D A s (W1 ++ (X1 ++ BW cA b v' n' L')) H1 locs1 → W p l e R s m args below meth c H1 locs1 (cells + 1) (slots + 34) Q (F0 m (pc + 3) ls (.ref b :: rest))) : W p l e R s m args below meth c H locs cells slots Q (F0 m pc ls (.int (iI z) :: .ref b :: rest)) := by
  subst hz
  have hr := bl_recv F hw
  rw [← List.append_assoc] at hw
  refine fj_V (S := []) (C := RX9b) (x := 276) (n := 1) (as := [.int (iI (k : Int))]) F hw hl (j_sappI hk hL hc hk9) (fun _ h => absurd h List.not_mem_nil) hr (lr75 23 rfl) (lr75 24 rfl) (lr75 25 rfl) (lr75 11 rfl) (lr75 26 rfl) ⟨by decide, by decide, by decide +kernel⟩ rfl ⟨by omega, by omega, by omega, by omega⟩ h8 hd rfl (fun v9 V9 hG H1 locs1 hw1 => ?_)
  obtain ⟨rfl, v', e9⟩ := hG
  rw [e9, List.append_assoc, hcap] at hw1
  exact kk v' (L ++ dgs k) H1 locs1 rfl List.length_append (app_in hc (dgs_in hk)) hw1
theorem wv_cut {W0 U V : va_W} (hw : WV D A s (W0 ++ (U ++ V)) H locs) : WV D A s (W0 ++ V) H locs := by
  have hd := hw.2.1
  refine ⟨(vP_l hw.1).app (vP_r (vP_r hw.1)), va_D.app (vD_l hd) (vD_r (vD_r hd)) (fun i j p q hi hj => ?_), hw.2.2⟩
  exact vD_x hd hi (ap_r hj)
/-- toString() -/
theorem bl_T {W1 X1 : va_W} {b v n pc : Nat} {L : List Int} {ls : Array Slot} {rest : List Value} (F : FL D A ad adV cA p l s m args c bc0 nL0) (hw : WV D A s (W1 ++ (X1 ++ BW cA b v n L)) H locs) (hl : ls.size = nL0) (hn : L.length < n ∧ n ≤ 34) (hc : ∀ x ∈ L, 0 ≤ x ∧ x < 128)
    (hR : 6 ≤ R.frames ∧ 400 ≤ R.locals ∧ cells + 2 ≤ R.cells ∧ slots + 38 ≤ R.slots) (h8 : (rest.map fun v => v.category).sum ≤ 8) (hd : decode bc0 pc = .ok (.invokevirtual 266, 3))
    (kk : ∀ (q q2 : Nat) (H1 : Heap) (locs1 : List Loc), TX ad adV cA (SW cA q q2 L) q q2 L → WV D A s (W1 ++ (X1 ++ SW cA q q2 L)) H1 locs1 → W p l e R s m args below meth c H1 locs1 (cells + 2) (slots + 38) Q (F0 m (pc + 3) ls (.ref q :: rest))) : W p l e R s m args below meth c H locs cells slots Q (F0 m pc ls (.ref b :: rest)) := by
  have hr := bl_recv F hw
  rw [← List.append_assoc] at hw
  refine fj_V (S := []) (C := RX9b) (x := 266) (n := 0) (as := []) F hw hl (j_toS hn hc) (fun _ h => absurd h List.not_mem_nil) hr (lr75 27 rfl) (lr75 28 rfl) (lr75 29 rfl) (lr75 11 rfl) (lr75 30 rfl) ⟨by decide, by decide, by decide +kernel⟩ rfl ⟨by omega, by omega, by omega, by omega⟩ h8 hd rfl (fun v9 V9 hG H1 locs1 hw1 => ?_)
  obtain ⟨q, q2, rfl, e9⟩ := hG
  rw [e9] at hw1
  have hw2 := wv_cut hw1
  rw [List.append_assoc] at hw2
  exact kk q q2 H1 locs1 (TX.built hc (by omega)) hw2
/-- constants -/
theorem vk_of {idx q : Nat} (F : FL D A ad adV cA p l s m args c bc0 nL0) (h : (idx, q) ∈ lawS) : vk_R RL idx (STT.getD q "") (ad (100 + q)) s := F.2.2.2.2.2.2.2.2.2.1.1.1 (idx, q) h
theorem sl_ldc {pc idx q : Nat} {ls : Array Slot} {rest : List Value} (F : FL D A ad adV cA p l s m args c bc0 nL0) (h : (idx, q) ∈ lawS) (hd : decode bc0 pc = .ok (.ldc idx, 2)) (k : W p l e R s m args below meth c H locs cells slots Q (F0 m (pc + 2) ls (.ref (ad (100 + q)) :: rest))) : W p l e R s m args below meth c H locs cells slots Q (F0 m pc ls rest) := va_ldcS F.1 F.2.1 F.2.2.2.1 (vk_of F h) hd k
theorem sl_ldcw {pc idx q : Nat} {ls : Array Slot} {rest : List Value} (F : FL D A ad adV cA p l s m args c bc0 nL0) (h : (idx, q) ∈ lawS) (hd : decode bc0 pc = .ok (.ldc_w idx, 3)) (k : W p l e R s m args below meth c H locs cells slots Q (F0 m (pc + 3) ls (.ref (ad (100 + q)) :: rest))) : W p l e R s m args below meth c H locs cells slots Q (F0 m pc ls rest) := by
  have hZ := vk_of F h
  have hb := F.2.1
  intro T hT X
  obtain ⟨t, a1, b1⟩ := k T hT X
  exact ⟨t, X.ldcStringW F.1 F.2.2.2.1 (text := STT.getD q "") (a := ad (100 + q)) hZ.1 hZ.2 (g := F0 m pc ls rest) rfl (by rw [hb]; exact hd) t a1, b1⟩
theorem wv_cut2 {W1 X U V : va_W} (hw : WV D A s (W1 ++ ((X ++ U) ++ V)) H locs) : WV D A s (W1 ++ (X ++ V)) H locs := by
  have e1 : W1 ++ ((X ++ U) ++ V) = (W1 ++ X) ++ (U ++ V) := by simp only [List.append_assoc]
  rw [e1] at hw
  have h := wv_cut hw
  rw [List.append_assoc] at h
  exact h
theorem wv_end {W1 X V : va_W} (hw : WV D A s (W1 ++ (X ++ V)) H locs) : WV D A s (W1 ++ X) H locs := by
  rw [← List.append_assoc] at hw
  exact wv_drop hw
theorem wv_nil {W1 X : va_W} (hw : WV D A s (W1 ++ X) H locs) : WV D A s (W1 ++ (X ++ [])) H locs := by
  rw [List.append_nil]
  exact hw
theorem wv_swap {W1 X U V : va_W} (hw : WV D A s (W1 ++ ((X ++ U) ++ V)) H locs) : WV D A s (W1 ++ ((X ++ V) ++ U)) H locs := by
  have e1 : W1 ++ ((X ++ U) ++ V) = ((W1 ++ X) ++ U) ++ V := by simp only [List.append_assoc]
  have e2 : W1 ++ ((X ++ V) ++ U) = ((W1 ++ X) ++ V) ++ U := by simp only [List.append_assoc]
  rw [e1] at hw
  rw [e2]
  exact ⟨hw.1.swap, hw.2.1.swap, hw.2.2⟩
end LST
