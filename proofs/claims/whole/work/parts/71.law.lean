/-! THE CLAIM OUT OF ONE WALK OF THE LAW'S BODY. Your part is whole_start (and what it stands on); all else here is the same for every law, but numbers. -/
def R_law : String := "FerryDraughtsLaw"
def lw_P (b : Addr) (xs : List Int32) (args : Array Value) (s : State) : Prop := args = #[.ref b] ∧ s.IntsAt b xs ∧ xs.length ≤ 2560 ∧ (Jvm.Cond.and given_1 narrow_1).before args s = true
/-- what a walk over the start with the record d0 says of its end, said of the start itself -/
theorem lw_closed {s t : State} {o : Outcome} {d0 : Drawn} {L : List Loc} {k n : Nat} (hd0 : s.drawn.sameBut d0 lw_cs) (hv : ∃ v, o = .returned v) (hW : (s.setDrawn d0).WarmedH t.vm) (hs : (s.setDrawn d0).sameButNew ({ t with vm := s.vm } : State) L k n) : State.butDraws s t lw_cs (fun t1 => Framed s o t1 L k n) := by
  have h2 : t.drawn = d0 := congrArg State.drawn hs.1
  refine ⟨⟨hv, hW, State.sameButNew.setDrawn hs s.drawn⟩, ?_, by decide⟩
  rw [h2]
  exact hd0
def lw_Q (_ : Array Value) (s : State) (o : Outcome) (t : State) : Prop := o = .returned (some (.int 1)) ∧ State.butDraws s t lw_cs (fun t1 => Framed s o t1 [] 603072 7202922)
def lw_Z (below : List Frame) (a : Array Value) (s : State) : State → Prop := fun t => ∃ o, t.status = .running ∧ Ended t below o ∧ lw_Q a s o t
/-- the law's own end, with 1 on the stack, nothing written that was there before, its room as the claim has it; d0: the record of draws at this point (at the entry s.drawn: begin with 'refine W.base ?_' and 'have hd0 := Drawn.sameBut.refl s.drawn lw_cs') -/
theorem lw_ret {p : Program} {l : Launch} {e : Env} {s : State} {m : MethodId} {below : List Frame} {meth : Method} {c : Code} {b : Nat} {d0 : Drawn} (hd0 : s.drawn.sameBut d0 lw_cs) (hx : p.tables.exec = Jvm.exec) (hb : c.code = code) (hr : meth.sig.returnType = ret) (hlocks : meth.locks = false) {pc : Nat} {H : Heap} {ls : Array Slot} (hdg : decode code pc = .ok (.ireturn, 1)) : W p l e room_1 (s.setDrawn d0) m #[Value.ref b] below meth c H [] 603072 7202922 (lw_Z below #[Value.ref b] s) (F0 m pc ls [.int 1]) := by
  intro T hT X
  obtain ⟨fs, hret, hrun, hended, hW, hframe⟩ := X.leave (v := some (.int 1)) (hlocks := hlocks) (fun h => by rw [hr] at h; cases h)
  have hmeth' : T.vm.method? m = some meth := X.method'
  refine ⟨T.setFrames fs, ?_, .returned (some (.int 1)), hrun, hended, rfl, lw_closed hd0 ⟨_, rfl⟩ hW hframe⟩
  jvm_step X.here [X.here.top, hx, hb, hdg, hmeth', hr, ret, narrow_b1]
  (try refine ⟨rfl, ?_⟩); (try refine ⟨rfl, ?_⟩)
  first | (intro acts; rw [hret _ acts rfl rfl rfl]) | rw [hret _ _ rfl rfl rfl]
  exact Steps.refl _
/-- what holds at the law's entry: the machine, the code, the tables' words (any of lw_tbl by 'hts w (by decide +kernel)'), the script of L ints xs at the cell b, what the Statement gives of the start (any of its parts by flat_of_before) -/
def lw_At (p : Program) (s : State) (m : MethodId) (meth : Method) (c : Code) (b L : Nat) (xs : Nat → Int32) : Prop :=
  p.tables.exec = Jvm.exec ∧ c.code = code ∧ meth.sig.returnType = ret ∧ c.maxLocals = 9 ∧ s.vm.findClass R_law = some m.cls ∧ (∀ w ∈ lw_tbl, w.before #[Value.ref b] s = true) ∧ va_X b L xs s s.heap ∧ b < s.heap.size ∧ meth.locks = false ∧ (Jvm.Cond.and given_1 narrow_1).before #[Value.ref b] s = true
/-! the law: from its start to its end -/
section LAW
variable {p : Program} {l : Launch} {e : Env} {R : Room} {s : State} {m : MethodId} {args : Array Value} {below : List Frame} {meth : Method} {c : Code} {H : Heap} {locs : List Loc} {cells slots : Nat} {Q : State → Prop}
variable {D : va_G} {A : Nat → Prop} {ad adV : Nat → Nat} {cA : Nat → ClassId} {b L : Nat} {xs : Nat → Int32}
/-- the places of the cells, once all are made -/
def adL (qs : List Nat) (ad : Nat → Nat) : Nat → Nat := fun k => if k < 31 then qs.getD k 0 else ad k
theorem WX_adL {U : State} {qs : List Nat} (h : WX A ad adV U H) : WX A (adL qs ad) adV U H := by
  have e : (fun i => adL qs ad (100 + i)) = fun i => ad (100 + i) := funext fun i => if_neg (by omega)
  refine ⟨h.1, h.2.1, ⟨by rw [e]; exact h.2.2.1.1, fun c ix q hc hq => ?_⟩, h.2.2.2⟩
  rw [show adL qs ad (100 + q) = ad (100 + q) from if_neg (by omega)]
  exact h.2.2.1.2 c ix q hc hq
def sg0 : Sg := fun a => if a = 4 ∨ a = 5 ∨ a = 6 then f48 72 else if a = 16 then (fun k => if k = 4 then -1 else 0) else if a = 21 then (fun k => if k = 17 then -1 else 0) else fun _ => 0
theorem sz_0 : sz tau0 = sg0 := by
  funext a k
  show iI (tau0 a k) = sg0 a k
  unfold tau0 sg0
  split
  · unfold row0 f48
    split <;> rfl
  · split
    · show iI (if k = 4 then -1 else 0) = if k = 4 then -1 else 0
      split <;> rfl
    · split
      · show iI (if k = 17 then -1 else 0) = if k = 17 then -1 else 0
        split <;> rfl
      · rfl
theorem wO_0 {q0 q1 q2 q3 q4 q5 q6 q7 q8 q9 q10 q11 q12 q13 q14 q15 q16 q17 q18 q19 q20 h1 m1 m2 m3 m4 m5 m6 m7 m8 m9 : Nat} :
    wO (adL [q0, q1, q4, q14, q2, q5, q15, q3, q6, q7, q8, q9, q10, q11, q12, q13, q16, q17, q18, q19, q20, h1, m1, m2, m3, m4, m5, m6, m7, m8, m9] ad) cA sg0 =
    [(q0, .inr (7, [.ref q1, .ref q3, .ref q4, .ref q6, .ref q7, .ref q10, .ref q11, .ref q12, .ref q14, .int 0, .ref q16, .ref q19])), (q1, .inr (5, [.ref q2])), (q4, .inr (5, [.ref q5])), (q14, .inr (5, [.ref q15])), (q2, .inl (cA 0, 109, .inl (f48 72))), (q5, .inl (cA 0, 109, .inl (f48 72))), (q15, .inl (cA 0, 109, .inl (f48 72))), (q3, .inr (1, [.ref q1])), (q6, .inr (1, [.ref q4])), (q7, .inr (4, [.ref q8, .ref q9, .int 0])), (q8, .inl (cA 0, 3, .inl (fun _ => 0))), (q9, .inl (cA 0, 3, .inl (fun _ => 0))), (q10, .inr (0, [.ref q1, .ref q3, .ref q7])), (q11, .inr (0, [.ref q4, .ref q6, .ref q7])), (q12, .inr (2, [.ref q13, .int 0, .int 0])), (q13, .inl (cA 0, 872, .inl (fun _ => 0))), (q16, .inr (6, [.ref q17, .int 0, .ref q18, .int 0, .int (-1)])), (q17, .inl (cA 1, 60, .inl (fun _ => 0))), (q18, .inl (cA 0, 52, .inl (fun _ => 0))), (q19, .inr (3, [.ref q20, .int 0])), (q20, .inl (cA 1, 12, .inl (fun _ => 0))),
     (h1, .inr (8, [.ref m1, .ref m2, .ref m3, .ref m4, .int 0, .ref m5, .int 0, .int 0, .ref m6, .int 0, .int 0, .ref m7, .int 0, .ref m8, .int 0, .int 0, .int 0, .int (-1), .ref m9, .int 0])), (m1, .inl (cA 0, 109, .inl (fun _ => 0))), (m2, .inl (cA 0, 109, .inl (fun _ => 0))), (m3, .inl (cA 0, 109, .inl (fun _ => 0))), (m4, .inl (cA 0, 109, .inl (fun _ => 0))), (m5, .inl (cA 0, 872, .inl (fun _ => 0))), (m6, .inl (cA 0, 6, .inl (fun _ => 0))), (m7, .inl (cA 1, 20, .inl (fun _ => 0))), (m8, .inl (cA 1, 60, .inl (fun _ => 0))), (m9, .inl (cA 0, 240, .inl (fun _ => 0)))] := rfl
theorem LF.dr (F : LF D A ad adV cA p l s m args c b L xs) (d : Drawn) : LF D A ad adV cA p l (s.setDrawn d) m args c b L xs := by
  obtain ⟨hx, hb, hml, hown, hts, hK, hWX, hA, hN, hX, hbl, hbA, hl0⟩ := F
  exact ⟨hx, hb, hml, hown, dr_words hts d, hK, WX.warm (s := s) (U := s.setDrawn d) (State.WarmedH.refl s) hWX, hA, hN, hX, hbl, hbA, hl0⟩
theorem dc0 {x : UInt64} (h : vf_n64 x) : Op.cmpValue (FP.dcmp x x) .l = 0 := by
  have h2 : FP.dcmp x x = some .eq := Jvm.FP.Core.dcmp_refl (Jvm.Free.Fl.noNaN64_no.mp h)
  rw [h2]
  rfl
def xW : List (Nat × Jvm.Cond) := [(1153, .methodLink RL 244 ⟨RL, "meanJumps", "(LFerryDraughts;[D)I"⟩), (1154, .static ⟨RL, "meanJumps", "(LFerryDraughts;[D)I"⟩), (1155, .codeWith ⟨RL, "meanJumps", "(LFerryDraughts;[D)I"⟩ method_31_code 3 (some .int) [(0, 7, 10, 118)]), (75, .initialized RL),
  (1615, .methodLink RL 247 yX8_meanJumps), (1616, .instanceMethod yX8_meanJumps), (1617, .selects yX8_meanJumps.cls yX8_meanJumps yX8_meanJumps), (1618, .code yX8_meanJumps cX8_meanJumps 4 (some .double)),
  (1275, .methodLink RL 140 (mY m8_thrown)), (1276, .instanceMethod (mY m8_thrown)), (1277, .selects (mY m8_thrown).cls (mY m8_thrown) (mY m8_thrown)),
  (1179, .methodLink RL 248 ⟨RL, "kingShare", "(LFerryDraughts;[D)I"⟩), (1180, .static ⟨RL, "kingShare", "(LFerryDraughts;[D)I"⟩), (1181, .codeWith ⟨RL, "kingShare", "(LFerryDraughts;[D)I"⟩ method_32_code 3 (some .int) [(0, 8, 11, 118)]), (1619, .methodLink RL 250 yX8_kingShare), (1620, .instanceMethod yX8_kingShare), (1621, .selects yX8_kingShare.cls yX8_kingShare yX8_kingShare), (1622, .code yX8_kingShare cX8_kingShare 2 (some .float))]
theorem xW_in : xW.all (fun q => decide (lw_tbl[q.1]? = some q.2)) = true := by decide +kernel
theorem xq (k : Nat) {n : Nat} {w : Jvm.Cond} (h : xW[k]? = some (n, w)) : w ∈ lw_tbl := List.mem_of_getElem? (of_decide_eq_true (List.all_eq_true.mp xW_in _ (List.mem_of_getElem? h)))
theorem cs_meanJumps {d0 : Drawn} (hd0 : s.drawn.sameBut d0 lw_cs) (F : LF D A ad adV cA p l s m args c b L xs) {B : Int} {τ : SZ} (hW : WL B τ) (hB : B + 400 ≤ 100000000) {i : Nat} (hi : i + 5 ≤ L) (hL : L ≤ 2560) {qo qd : Nat} {fo : Nat → Int64} {fd : Nat → UInt64} (hP : va_P D cls9 (LV ad cA qo qd (sz τ) fo fd) H) (hD : va_D A (LV ad cA qo qd (sz τ) fo fd)) (hS : va_S A s.heap H locs) (hc : cells + 4 ≤ 603072) (hs : slots + 24 ≤ 7202922) {ls : Array Slot} (hl : lv_has ls 9 [(0, .ref b), (1, .ref (ad 0)), (2, .ref (ad 21)), (3, .ref qo), (4, .ref qd), (5, .int (nI i))])
    (kk : ∀ (d1 : Drawn) (τ' : SZ) (fo' : Nat → Int64) (fd' : Nat → UInt64) (H' : Heap) (locs' : List Loc) (ls' : Array Slot), s.drawn.sameBut d1 lw_cs → WL (B + 200) τ' → va_P D cls9 (LV ad cA qo qd (sz τ') fo' fd') H' → va_D A (LV ad cA qo qd (sz τ') fo' fd') → va_S A s.heap H' locs' → lv_has ls' 9 [(0, .ref b), (1, .ref (ad 0)), (2, .ref (ad 21)), (3, .ref qo), (4, .ref qd), (5, .int (nI i))] → W p l e room_1 (s.setDrawn d1) m args below meth c H' locs' (cells + 4) (slots + 24) Q (F0 m 2491 ls' [])) : W p l e room_1 (s.setDrawn d0) m args below meth c H locs cells slots Q (F0 m 2259 ls []) := by
  obtain ⟨hx, hb, hml, hown, hts, hK, hWX, hA, hN9, hX, hbl, hbA, hl0⟩ := F.dr d0
  have hI := hW.1.1
  have hR := hW.1.2.2
  have hn := hI.1.n
  obtain ⟨N, hN⟩ : ∃ N : Nat, cel (τ 4) 107 = (N : Int) := ⟨(cel (τ 4) 107).toNat, by omega⟩
  have h8 : N ≤ 8 := by omega
  refine lv_aload_n hx hb (k := 1) (i := 1) (x := ad 0) (by decide +kernel) rfl (lv_at hl 1 rfl) ?_
  refine lv_aload hx hb (i := 4) (x := qd) (by decide +kernel) (lv_at hl 4 rfl) ?_
  refine lm_call (s := s.setDrawn d0) (own := RL) (x := 244) (n := 2) (rest := []) (w_mean (qo := qo) (qd := qd) (fo := fo) (fd := fd) hl0 hN h8 hI.1.bd) hx hts hb hown hP hD hK hWX hA hN9 hS (hl.1.trans hml.symm) (xq 0 rfl) (xq 1 rfl) (xq 2 rfl) (xq 3 rfl) ⟨by decide, by decide, by decide +kernel⟩ rfl ⟨by decide, by decide, by show cells + 2 ≤ 603072; omega, by show slots + 12 ≤ 7202922; omega⟩ (by decide) (by decide +kernel) rfl (fun k W' hG H locs hP hD hS => ?_)
  obtain ⟨fd', rfl, hk, hv⟩ : ∃ fd', W' = LV ad cA qo qd (sz τ) fo fd' ∧ iI (if N = 0 then 1 else 0) = k ∧ (k = 0 → ¬ N = 0 ∧ fd' 0 = FP.ddiv (FP.i2d (iI (sm (fun k => cel (τ 4) (0 + (k : Int) * 6 + 4)) N))) (FP.i2d (iI (N : Int)))) := by
    rcases hG with ⟨h1, rfl, rfl⟩ | ⟨h1, rfl, f, h2, rfl⟩
    · exact ⟨fd, rfl, by rw [if_pos h1]; rfl, fun h => absurd h (by decide)⟩
    · exact ⟨f, rfl, by rw [if_neg h1]; rfl, fun _ => ⟨h1, h2⟩⟩
  refine lv_istore hx hb (i := 6) (lv' := [(6, .int k), (0, .ref b), (1, .ref (ad 0)), (2, .ref (ad 21)), (3, .ref qo), (4, .ref qd), (5, .int (nI i))]) (by decide +kernel) hl (by decide) rfl (fun ls hl => ?_)
  refine lv_aload_n hx hb (k := 2) (i := 2) (x := ad 21) (by decide +kernel) rfl (lv_at hl 3 rfl) ?_
  refine W.widen (k := cells + 2) (n := slots + 12) (Nat.le_refl _) (Nat.le_refl _) ?_
  refine dc_call (s := s.setDrawn d0) (n := 0) (a := 21) (j := 0) (x := 247) (own := RL) (rest := []) (ci := 8) (dm_mean (X := [(qo, .inl (cA 2, 1, .inr (.inl fo))), (qd, .inl (cA 3, 1, .inr (.inr (.inr (.inl fd')))))]) hl0 hI hR hN h8) rfl (by decide) rfl rfl hx hts hb hown hP hD hK hWX hA hN9 hS (hl.1.trans hml.symm) (xq 4 rfl) (xq 5 rfl) (xq 6 rfl) (xq 7 rfl) (by decide +kernel) ⟨by decide, by decide, by show cells + 2 + 1 ≤ 603072; omega, by show slots + 12 + 6 ≤ 7202922; omega⟩ (by decide) (by decide +kernel) rfl (fun hX => hX.elim) (fun v V' hG H locs hP hD hS => ?_)
  obtain ⟨⟨x, rfl, hxv⟩, rfl⟩ := hG
  refine lv_dstore hx hb (i := 7) (lv' := [(7, .double x), (6, .int k), (0, .ref b), (1, .ref (ad 0)), (2, .ref (ad 21)), (3, .ref qo), (4, .ref qd), (5, .int (nI i))]) (by decide +kernel) hl (by decide) rfl (fun ls hl => ?_)
  have t3 : RR 2 m8_thrown [.inl 21] (sz (thn τ N)) (.inl (some (.inr (iI (if N = 0 then 1 else 0))), sz (thn τ N))) := RZ_ok _ _ _ _ _ (d_thrown (τ := thn τ N))
  refine lv_aload_n hx hb (k := 2) (i := 2) (x := ad 21) (by decide +kernel) rfl (lv_at hl 4 rfl) ?_
  refine lcall (s := s.setDrawn d0) (d := 2) (j := m8_thrown) (a := 21) (as := []) (X := [(qo, .inl (cA 2, 1, .inr (.inl fo))), (qd, .inl (cA 3, 1, .inr (.inr (.inr (.inl fd')))))]) (own := RL) (x := 140) (rest := []) hl0 t3 (by decide) rfl rfl hx hts hb hown hP hD hK hWX hA hS (hl.1.trans hml.symm) (xq 8 rfl) (xq 9 rfl) (xq 10 rfl) ⟨by decide, by decide, r0 rfl (by show cells + 2 + 1 ≤ 603072; omega), r6 rfl (by show slots + 12 + 6 ≤ 7202922; omega)⟩ (by decide) (by decide +kernel) rfl (fun E τ e => by cases e) (fun v τ9 e H locs hP hS => ?_)
  cases e
  refine W.widen (k := cells + 4) (n := slots + 24) (r0 rfl (by omega)) (r6 rfl (by omega)) ?_
  refine W.eq (g2 := F0 m 2277 ls [.int (iI (if N = 0 then 1 else 0))]) rfl ?_
  have hW2 : WL (B + 200) (thn τ N) := (hW.th (k := if N = 0 then 1 else 0)).mono (by omega) (by omega)
  have fin : ∀ pc9 : Nat, pc9 = 2321 → W p l e room_1 (s.setDrawn d0) m args below meth c H locs (cells + 4) (slots + 24) Q (F0 m pc9 ls []) := by
    rintro _ rfl
    refine lv_goto hx hb (off := 170) (tgt := 2491) (by decide +kernel) (by decide) ?_
    exact kk d0 (thn τ N) fo fd' H locs ls hd0 hW2 hP hD hS (lv_sub hl [2, 3, 4, 5, 6, 7] rfl)
  refine lv_iload hx hb (i := 6) (x := k) (by decide +kernel) (lv_at hl 1 rfl) ?_
  refine lv_icmp_eq hx hb (off := 5) (tgt := 2284) (by decide +kernel) (by decide) (fun _ => ?_) (fun h => absurd hk h)
  refine lv_iload hx hb (i := 6) (x := k) (by decide +kernel) (lv_at hl 1 rfl) ?_
  refine lv_if_ne hx hb (off := 35) (tgt := 2321) (by decide +kernel) (by decide) (fun _ => fin _ rfl) (fun hk0 => ?_)
  obtain ⟨hN0, hv0⟩ := hv hk0
  have hx9 := hxv hN0
  have hz : iI (N : Int) ≠ 0 := fun h => by
    have h9 := congrArg Int32.toInt h
    rw [iI_toInt ⟨by omega, by omega⟩, show (0 : Int32).toInt = 0 from rfl] at h9
    omega
  refine lv_aload hx hb (i := 4) (x := qd) (by decide +kernel) (lv_at hl 6 rfl) ?_
  refine lv_iconst hx hb (n := 0) (v := 0) (by decide +kernel) rfl ?_
  refine va_dald hx hb hK hP (31 + 1) 3 (wOX_get (j := 1) rfl) rfl vp01 (by decide +kernel) ?_
  refine W.eq (g2 := F0 m 2293 ls [.double x]) (by rw [hx9, ← hv0]; rfl) ?_
  refine lv_dload hx hb (i := 7) (x := x) (by decide +kernel) (lv_at hl 0 rfl) ?_
  refine lv_dcmp hx hb (op := .l) (by decide +kernel) ?_
  refine lv_if_eq hx hb (off := 25) (tgt := 2321) (by decide +kernel) (by decide) (fun _ => fin _ rfl) (fun h => absurd (dc0 (by rw [hx9]; exact Jvm.Free.Fl.ddiv_out (Jvm.Free.Fl.i2d_fin _).noNaN (Jvm.Free.Fl.i2d_fin _) (Jvm.Free.Fl.i2d_nz hz))) h)
theorem cs_kingShare {d0 : Drawn} (hd0 : s.drawn.sameBut d0 lw_cs) (F : LF D A ad adV cA p l s m args c b L xs) {B : Int} {τ : SZ} (hW : WL B τ) (hB : B + 400 ≤ 100000000) {i : Nat} (hi : i + 5 ≤ L) (hL : L ≤ 2560) {qo qd : Nat} {fo : Nat → Int64} {fd : Nat → UInt64} (hP : va_P D cls9 (LV ad cA qo qd (sz τ) fo fd) H) (hD : va_D A (LV ad cA qo qd (sz τ) fo fd)) (hS : va_S A s.heap H locs) (hc : cells + 4 ≤ 603072) (hs : slots + 24 ≤ 7202922) {ls : Array Slot} (hl : lv_has ls 9 [(0, .ref b), (1, .ref (ad 0)), (2, .ref (ad 21)), (3, .ref qo), (4, .ref qd), (5, .int (nI i))])
    (kk : ∀ (d1 : Drawn) (τ' : SZ) (fo' : Nat → Int64) (fd' : Nat → UInt64) (H' : Heap) (locs' : List Loc) (ls' : Array Slot), s.drawn.sameBut d1 lw_cs → WL (B + 200) τ' → va_P D cls9 (LV ad cA qo qd (sz τ') fo' fd') H' → va_D A (LV ad cA qo qd (sz τ') fo' fd') → va_S A s.heap H' locs' → lv_has ls' 9 [(0, .ref b), (1, .ref (ad 0)), (2, .ref (ad 21)), (3, .ref qo), (4, .ref qd), (5, .int (nI i))] → W p l e room_1 (s.setDrawn d1) m args below meth c H' locs' (cells + 4) (slots + 24) Q (F0 m 2491 ls' [])) : W p l e room_1 (s.setDrawn d0) m args below meth c H locs cells slots Q (F0 m 2324 ls []) := by
  obtain ⟨hx, hb, hml, hown, hts, hK, hWX, hA, hN9, hX, hbl, hbA, hl0⟩ := F.dr d0
  have hI := hW.1.1
  have hR := hW.1.2.2
  have hn := hI.1.n
  obtain ⟨N, hN⟩ : ∃ N : Nat, cel (τ 4) 107 = (N : Int) := ⟨(cel (τ 4) 107).toNat, by omega⟩
  have h8 : N ≤ 8 := by omega
  refine lv_aload_n hx hb (k := 1) (i := 1) (x := ad 0) (by decide +kernel) rfl (lv_at hl 1 rfl) ?_
  refine lv_aload hx hb (i := 4) (x := qd) (by decide +kernel) (lv_at hl 4 rfl) ?_
  refine lm_call (s := s.setDrawn d0) (own := RL) (x := 248) (n := 2) (rest := []) (w_king (qo := qo) (qd := qd) (fo := fo) (fd := fd) hl0 hN h8 hI.1.bd) hx hts hb hown hP hD hK hWX hA hN9 hS (hl.1.trans hml.symm) (xq 11 rfl) (xq 12 rfl) (xq 13 rfl) (xq 3 rfl) ⟨by decide, by decide, by decide +kernel⟩ rfl ⟨by decide, by decide, by show cells + 2 ≤ 603072; omega, by show slots + 12 ≤ 7202922; omega⟩ (by decide) (by decide +kernel) rfl (fun k W' hG H locs hP hD hS => ?_)
  obtain ⟨fd', rfl, hk, hv⟩ : ∃ fd', W' = LV ad cA qo qd (sz τ) fo fd' ∧ iI (if N = 0 then 1 else 0) = k ∧ (k = 0 → ¬ N = 0 ∧ fd' 0 = FP.f2d (FP.fdiv (FP.i2f (iI (sm (fun k => cel (τ 4) (0 + (k : Int) * 6 + 3)) N))) (FP.i2f (iI (N : Int))))) := by
    rcases hG with ⟨h1, rfl, rfl⟩ | ⟨h1, rfl, f, h2, rfl⟩
    · exact ⟨fd, rfl, by rw [if_pos h1]; rfl, fun h => absurd h (by decide)⟩
    · exact ⟨f, rfl, by rw [if_neg h1]; rfl, fun _ => ⟨h1, h2⟩⟩
  refine lv_istore hx hb (i := 6) (lv' := [(6, .int k), (0, .ref b), (1, .ref (ad 0)), (2, .ref (ad 21)), (3, .ref qo), (4, .ref qd), (5, .int (nI i))]) (by decide +kernel) hl (by decide) rfl (fun ls hl => ?_)
  refine lv_aload_n hx hb (k := 2) (i := 2) (x := ad 21) (by decide +kernel) rfl (lv_at hl 3 rfl) ?_
  refine W.widen (k := cells + 2) (n := slots + 12) (Nat.le_refl _) (Nat.le_refl _) ?_
  refine dc_call (s := s.setDrawn d0) (n := 0) (a := 21) (j := 0) (x := 250) (own := RL) (rest := []) (ci := 8) (dm_king (X := [(qo, .inl (cA 2, 1, .inr (.inl fo))), (qd, .inl (cA 3, 1, .inr (.inr (.inr (.inl fd')))))]) hl0 hI hR hN h8) rfl (by decide) rfl rfl hx hts hb hown hP hD hK hWX hA hN9 hS (hl.1.trans hml.symm) (xq 14 rfl) (xq 15 rfl) (xq 16 rfl) (xq 17 rfl) (by decide +kernel) ⟨by decide, by decide, by show cells + 2 + 1 ≤ 603072; omega, by show slots + 12 + 6 ≤ 7202922; omega⟩ (by decide) (by decide +kernel) rfl (fun hX => hX.elim) (fun v V' hG H locs hP hD hS => ?_)
  obtain ⟨⟨x, rfl, hxv⟩, rfl⟩ := hG
  refine lv_fstore hx hb (i := 7) (lv' := [(7, .float x), (6, .int k), (0, .ref b), (1, .ref (ad 0)), (2, .ref (ad 21)), (3, .ref qo), (4, .ref qd), (5, .int (nI i))]) (by decide +kernel) hl (by decide) rfl (fun ls hl => ?_)
  have t3 : RR 2 m8_thrown [.inl 21] (sz (thn τ N)) (.inl (some (.inr (iI (if N = 0 then 1 else 0))), sz (thn τ N))) := RZ_ok _ _ _ _ _ (d_thrown (τ := thn τ N))
  refine lv_aload_n hx hb (k := 2) (i := 2) (x := ad 21) (by decide +kernel) rfl (lv_at hl 4 rfl) ?_
  refine lcall (s := s.setDrawn d0) (d := 2) (j := m8_thrown) (a := 21) (as := []) (X := [(qo, .inl (cA 2, 1, .inr (.inl fo))), (qd, .inl (cA 3, 1, .inr (.inr (.inr (.inl fd')))))]) (own := RL) (x := 140) (rest := []) hl0 t3 (by decide) rfl rfl hx hts hb hown hP hD hK hWX hA hS (hl.1.trans hml.symm) (xq 8 rfl) (xq 9 rfl) (xq 10 rfl) ⟨by decide, by decide, r0 rfl (by show cells + 2 + 1 ≤ 603072; omega), r6 rfl (by show slots + 12 + 6 ≤ 7202922; omega)⟩ (by decide) (by decide +kernel) rfl (fun E τ e => by cases e) (fun v τ9 e H locs hP hS => ?_)
  cases e
  refine W.widen (k := cells + 4) (n := slots + 24) (r0 rfl (by omega)) (r6 rfl (by omega)) ?_
  refine W.eq (g2 := F0 m 2342 ls [.int (iI (if N = 0 then 1 else 0))]) rfl ?_
  have hW2 : WL (B + 200) (thn τ N) := (hW.th (k := if N = 0 then 1 else 0)).mono (by omega) (by omega)
  have fin : ∀ pc9 : Nat, pc9 = 2387 → W p l e room_1 (s.setDrawn d0) m args below meth c H locs (cells + 4) (slots + 24) Q (F0 m pc9 ls []) := by
    rintro _ rfl
    refine lv_goto hx hb (off := 104) (tgt := 2491) (by decide +kernel) (by decide) ?_
    exact kk d0 (thn τ N) fo fd' H locs ls hd0 hW2 hP hD hS (lv_sub hl [2, 3, 4, 5, 6, 7] rfl)
  refine lv_iload hx hb (i := 6) (x := k) (by decide +kernel) (lv_at hl 1 rfl) ?_
  refine lv_icmp_eq hx hb (off := 5) (tgt := 2349) (by decide +kernel) (by decide) (fun _ => ?_) (fun h => absurd hk h)
  refine lv_iload hx hb (i := 6) (x := k) (by decide +kernel) (lv_at hl 1 rfl) ?_
  refine lv_if_ne hx hb (off := 36) (tgt := 2387) (by decide +kernel) (by decide) (fun _ => fin _ rfl) (fun hk0 => ?_)
  obtain ⟨hN0, hv0⟩ := hv hk0
  have hx9 := hxv hN0
  have hz : iI (N : Int) ≠ 0 := fun h => by
    have h9 := congrArg Int32.toInt h
    rw [iI_toInt ⟨by omega, by omega⟩, show (0 : Int32).toInt = 0 from rfl] at h9
    omega
  refine lv_aload hx hb (i := 4) (x := qd) (by decide +kernel) (lv_at hl 6 rfl) ?_
  refine lv_iconst hx hb (n := 0) (v := 0) (by decide +kernel) rfl ?_
  refine va_dald hx hb hK hP (31 + 1) 3 (wOX_get (j := 1) rfl) rfl vp01 (by decide +kernel) ?_
  have hnn : Jvm.Free.Fl.NoNaN64 (FP.f2d x) := by
    rw [hx9]
    exact Jvm.Free.Fl.f2d_out (Jvm.Free.Fl.fdiv_out (Jvm.Free.Fl.i2f_fin _).noNaN (Jvm.Free.Fl.i2f_fin _) (Jvm.Free.Fl.i2f_nz hz))
  have e9 : fd' 0 = FP.f2d x := by rw [hv0, hx9, kng hI hN]
  refine W.eq (g2 := F0 m 2358 ls [.double (FP.f2d x)]) (by rw [← e9]; rfl) ?_
  refine lv_fload hx hb (i := 7) (x := x) (by decide +kernel) (lv_at hl 0 rfl) ?_
  refine lv_f2d hx hb (by decide +kernel) hnn ?_
  refine lv_dcmp hx hb (op := .l) (by decide +kernel) ?_
  refine lv_if_eq hx hb (off := 25) (tgt := 2387) (by decide +kernel) (by decide) (fun _ => fin _ rfl) (fun h => absurd (dc0 hnn) h)
theorem sub5 {L : Nat} (hL : L ≤ 2560) : (nI L - 5).toInt = (L : Int) - 5 := by
  have e : nI L - 5 = iI ((L : Int) - 5) := by
    rw [← iI_nI, show (5 : Int32) = iI 5 from rfl, iI_sub]
  rw [e, iI_toInt ⟨by omega, by omega⟩]
theorem and63 (x : Int32) : ∃ n : Nat, n ≤ 63 ∧ x &&& 63 = nI n := by
  obtain ⟨j, hj, e⟩ := pk_andE x (m := 63) 6 (by decide)
  exact ⟨j, by omega, e⟩
def offs36 : Array Int := #[160, 240, 308, 388, 468, 564, 608, 676, 744, 812, 887, 900, 996, 1120, 1216, 1300, 1384, 1447, 1543, 1599, 1667, 1723, 1779, 1835, 1891, 1947, 2005, 2049, 2062, 2146, 2202, 2215, 2280, 2346, 2390, 2403]
theorem dsw : decode code 44 = .ok (.tableswitch 2447 0 35 offs36, 160) := by decide +kernel
set_option maxHeartbeats 4000000 in
theorem law_loop {d0 : Drawn} (hd0 : s.drawn.sameBut d0 lw_cs) (F : LF D A ad adV cA p l s m #[.ref b] c b L xs) (hr : meth.sig.returnType = ret) (hlocks : meth.locks = false) (hAl : ∀ q, A q ↔ s.heap.size ≤ q) (hL : L ≤ 2560) {qo qd : Nat} : ∀ (n j : Nat) (d0 : Drawn) (τ : SZ) (fo : Nat → Int64) (fd : Nat → UInt64) (H : Heap) (locs : List Loc) (ls : Array Slot) (i : Nat), n + j = 513 → i = 5 * j → i ≤ L → s.drawn.sameBut d0 lw_cs → WL (100 + 200 * (j : Int)) τ → va_P D cls9 (LV ad cA qo qd (sz τ) fo fd) H → va_D A (LV ad cA qo qd (sz τ) fo fd) → va_S A s.heap H locs →
    lv_has ls 9 [(0, .ref b), (1, .ref (ad 0)), (2, .ref (ad 21)), (3, .ref qo), (4, .ref qd), (5, .int (nI i))] → W p l e room_1 (s.setDrawn d0) m #[.ref b] below meth c H locs (33 + 4 * j) (8000 + 24 * j) (lw_Z below #[.ref b] s) (F0 m 28 ls []) := by
  obtain ⟨hx, hb, hml, hown, hts, hK, hWX, hA, hN, hX, hbl, hbA, hl0⟩ := id F
  intro n
  induction n with
  | zero =>
    intro j d0 τ fo fd H locs ls i hn hi hiL
    omega
  | succ n ih =>
    intro j d0 τ fo fd H locs ls i hn hi hiL hd0 hW hP hD hS hl
    refine lv_iload hx hb (i := 5) (x := nI i) (by decide +kernel) (lv_at hl 5 rfl) ?_
    refine lv_aload_n hx hb (k := 0) (i := 0) (x := b) (by decide +kernel) rfl (lv_at hl 0 rfl) ?_
    refine va_slen hx hb hX hbl hbA hS (by decide +kernel) ?_
    refine lv_iconst hx hb (n := 5) (v := 5) (by decide +kernel) rfl ?_
    refine lv_isub hx hb (x := nI L) (y := 5) (by decide +kernel) ?_
    refine lv_icmp_gt hx hb (off := 2463) (tgt := 2497) (by decide +kernel) (by decide) (fun _ => ?_) (fun hlt => ?_)
    · refine lv_iconst hx hb (n := 1) (v := 1) (by decide +kernel) rfl ?_
      refine va_forget (fun q hq => (hAl _).mp (hS.2.2 q hq)) ?_
      refine W.widen (k := 603072) (n := 7202922) (by omega) (by omega) ?_
      exact lw_ret hd0 hx hb hr hlocks (by decide +kernel)
    · have hi5 : i + 5 ≤ L := by
        rw [Int32.lt_iff_toInt_lt, sub5 hL, nI_toInt (by omega)] at hlt
        omega
      have fin : ∀ (d1 : Drawn) (τ' : SZ) (fo' : Nat → Int64) (fd' : Nat → UInt64) (H' : Heap) (locs' : List Loc) (ls' : Array Slot), s.drawn.sameBut d1 lw_cs → WL (100 + 200 * (j : Int) + 200) τ' → va_P D cls9 (LV ad cA qo qd (sz τ') fo' fd') H' → va_D A (LV ad cA qo qd (sz τ') fo' fd') → va_S A s.heap H' locs' → lv_has ls' 9 [(0, .ref b), (1, .ref (ad 0)), (2, .ref (ad 21)), (3, .ref qo), (4, .ref qd), (5, .int (nI i))] → W p l e room_1 (s.setDrawn d1) m #[.ref b] below meth c H' locs' (33 + 4 * j + 4) (8000 + 24 * j + 24) (lw_Z below #[.ref b] s) (F0 m 2491 ls' []) := by
        intro d1 τ' fo' fd' H' locs' ls' hd1 hW' hP' hD' hS' hl'
        refine lv_iinc hx hb (i := 5) (n := 5) (x := nI i) (v := nI (i + 5)) (k := 5) (by decide +kernel) hl' rfl (ia5 i) (by decide) rfl (fun ls9 hl9 => ?_)
        refine lv_goto hx hb (off := -2466) (tgt := 28) (by decide +kernel) (by decide) ?_
        have e1 : 33 + 4 * j + 4 = 33 + 4 * (j + 1) := by omega
        have e2 : 8000 + 24 * j + 24 = 8000 + 24 * (j + 1) := by omega
        rw [e1, e2]
        refine ih (j + 1) d1 τ' fo' fd' H' locs' ls9 (i + 5) (by omega) (by omega) (by omega) hd1 ?_ hP' hD' hS' (lv_sub hl9 [1, 2, 3, 4, 5, 0] rfl)
        rw [show (100 : Int) + 200 * ((j + 1 : Nat) : Int) = 100 + 200 * (j : Int) + 200 from by omega]
        exact hW'
      have hc : 33 + 4 * j + 2 ≤ room_1.cells := by show 33 + 4 * j + 2 ≤ 603072; omega
      have hc4 : 33 + 4 * j + 4 ≤ 603072 := by omega
      have hs4 : 8000 + 24 * j + 24 ≤ 7202922 := by omega
      have hs : 8000 + 24 * j + 12 ≤ room_1.slots := by show 8000 + 24 * j + 12 ≤ 7202922; omega
      have hB : 100 + 200 * (j : Int) + 400 ≤ 100000000 := by omega
      refine lv_aload_n hx hb (k := 0) (i := 0) (x := b) (by decide +kernel) rfl (lv_at hl 0 rfl) ?_
      refine lv_iload hx hb (i := 5) (x := nI i) (by decide +kernel) (lv_at hl 5 rfl) ?_
      refine va_sld (s := s.setDrawn d0) hx hb hX hbl hbA hS (vp_in_nI (n := i) (by omega) (by omega)) (by decide +kernel) ?_
      refine lv_bipush hx hb (n := 63) (v := 63) (by decide +kernel) rfl ?_
      refine lv_iand hx hb (by decide +kernel) ?_
      obtain ⟨z, hz, ez⟩ := and63 (xs (nI i).toNatClampNeg)
      rw [ez]
      have hzt : (nI z).toInt = (z : Int) := nI_toInt (by omega)
      by_cases h36 : z < 36
      · have sel : ∀ (k off tgt : Nat), z = k → k < 36 → offs36[k]? = some (off : Int) → 44 + off = tgt → W p l e room_1 (s.setDrawn d0) m #[.ref b] below meth c H locs (33 + 4 * j) (8000 + 24 * j) (lw_Z below #[.ref b] s) (F0 m tgt ls []) → W p l e room_1 (s.setDrawn d0) m #[.ref b] below meth c H locs (33 + 4 * j) (8000 + 24 * j) (lw_Z below #[.ref b] s) (F0 m 44 ls [.int (nI z)]) := by
          intro k off tgt h1 h2 h3 h4 h5
          refine lv_tableIn hx hb dsw (off := (off : Int)) (tgt := tgt) (by omega) (by omega) ?_ (by omega) h5
          rw [hzt, h1, show ((k : Int) - 0).toNat = k by omega]
          exact h3
        have Fd := F.dr d0
        match z, h36 with
        | 0, _ => exact sel 0 160 204 rfl (by decide) rfl rfl (cs_ferry Fd hW hB hi5 hL hP hD hS hc hs hl (fun τ1 fo1 H1 l1 s1 h1 h2 h3 h4 h5 => W.widen (by omega) (by omega) (fin d0 τ1 fo1 fd H1 l1 s1 hd0 h1 h2 h3 h4 h5)))
        | 1, _ => exact sel 1 240 284 rfl (by decide) rfl rfl (cs_tug Fd hW hB hi5 hL hP hD hS hc hs hl (fun τ1 fo1 H1 l1 s1 h1 h2 h3 h4 h5 => W.widen (by omega) (by omega) (fin d0 τ1 fo1 fd H1 l1 s1 hd0 h1 h2 h3 h4 h5)))
        | 2, _ => exact sel 2 308 352 rfl (by decide) rfl rfl (cs_lock Fd hW hB hi5 hL hP hD hS hc hs hl (fun τ1 fo1 H1 l1 s1 h1 h2 h3 h4 h5 => W.widen (by omega) (by omega) (fin d0 τ1 fo1 fd H1 l1 s1 hd0 h1 h2 h3 h4 h5)))
        | 3, _ => exact sel 3 388 432 rfl (by decide) rfl rfl (cs_fog Fd hW hB hi5 hL hP hD hS hc hs hl (fun τ1 fo1 H1 l1 s1 h1 h2 h3 h4 h5 => W.widen (by omega) (by omega) (fin d0 τ1 fo1 fd H1 l1 s1 hd0 h1 h2 h3 h4 h5)))
        | 4, _ => exact sel 4 468 512 rfl (by decide) rfl rfl (cs_move Fd hW hB hi5 hL hP hD hS hc hs hl (fun τ1 fo1 H1 l1 s1 h1 h2 h3 h4 h5 => W.widen (by omega) (by omega) (fin d0 τ1 fo1 fd H1 l1 s1 hd0 h1 h2 h3 h4 h5)))
        | 5, _ => exact sel 5 564 608 rfl (by decide) rfl rfl (cs_pass Fd hW hB hi5 hL hP hD hS hc hs hl (fun τ1 fo1 H1 l1 s1 h1 h2 h3 h4 h5 => W.widen (by omega) (by omega) (fin d0 τ1 fo1 fd H1 l1 s1 hd0 h1 h2 h3 h4 h5)))
        | 6, _ => exact sel 6 608 652 rfl (by decide) rfl rfl (cs_ferryOf Fd hW hB hi5 hL hP hD hS hc hs hl (fun τ1 fo1 H1 l1 s1 h1 h2 h3 h4 h5 => W.widen (by omega) (by omega) (fin d0 τ1 fo1 fd H1 l1 s1 hd0 h1 h2 h3 h4 h5)))
        | 7, _ => exact sel 7 676 720 rfl (by decide) rfl rfl (cs_at Fd hW hB hi5 hL hP hD hS hc hs hl (fun τ1 fo1 H1 l1 s1 h1 h2 h3 h4 h5 => W.widen (by omega) (by omega) (fin d0 τ1 fo1 fd H1 l1 s1 hd0 h1 h2 h3 h4 h5)))
        | 8, _ => exact sel 8 744 788 rfl (by decide) rfl rfl (cs_lockAt Fd hW hB hi5 hL hP hD hS hc hs hl (fun τ1 fo1 H1 l1 s1 h1 h2 h3 h4 h5 => W.widen (by omega) (by omega) (fin d0 τ1 fo1 fd H1 l1 s1 hd0 h1 h2 h3 h4 h5)))
        | 9, _ => exact sel 9 812 856 rfl (by decide) rfl rfl (cs_isFog Fd hW hB hi5 hL hP hD hS hc hs hl (fun τ1 fo1 H1 l1 s1 h1 h2 h3 h4 h5 => W.widen (by omega) (by omega) (fin d0 τ1 fo1 fd H1 l1 s1 hd0 h1 h2 h3 h4 h5)))
        | 10, _ => exact sel 10 887 931 rfl (by decide) rfl rfl (cs_turn Fd hW hB hi5 hL hP hD hS hc hs hl (fun τ1 fo1 H1 l1 s1 h1 h2 h3 h4 h5 => W.widen (by omega) (by omega) (fin d0 τ1 fo1 fd H1 l1 s1 hd0 h1 h2 h3 h4 h5)))
        | 11, _ => exact sel 11 900 944 rfl (by decide) rfl rfl (cs_would Fd hW hB hi5 hL hP hD hS hc hs hl (fun τ1 fo1 H1 l1 s1 h1 h2 h3 h4 h5 => W.widen (by omega) (by omega) (fin d0 τ1 fo1 fd H1 l1 s1 hd0 h1 h2 h3 h4 h5)))
        | 12, _ => exact sel 12 996 1040 rfl (by decide) rfl rfl (cs_why Fd hW hB hi5 hL hP hD hS hc hs hl (fun τ1 fo1 H1 l1 s1 h1 h2 h3 h4 h5 => W.widen (by omega) (by omega) (fin d0 τ1 fo1 fd H1 l1 s1 hd0 h1 h2 h3 h4 h5)))
        | 13, _ => exact sel 13 1120 1164 rfl (by decide) rfl rfl (cs_to Fd hW hB hi5 hL hP hD hS hc hs hl (fun τ1 fo1 H1 l1 s1 h1 h2 h3 h4 h5 => W.widen (by omega) (by omega) (fin d0 τ1 fo1 fd H1 l1 s1 hd0 h1 h2 h3 h4 h5)))
        | 14, _ => exact sel 14 1216 1260 rfl (by decide) rfl rfl (cs_moves Fd hW hB hi5 hL hP hD hS hc hs hl (fun τ1 fo1 H1 l1 s1 h1 h2 h3 h4 h5 => W.widen (by omega) (by omega) (fin d0 τ1 fo1 fd H1 l1 s1 hd0 h1 h2 h3 h4 h5)))
        | 15, _ => exact sel 15 1300 1344 rfl (by decide) rfl rfl (cs_captures Fd hW hB hi5 hL hP hD hS hc hs hl (fun τ1 fo1 H1 l1 s1 h1 h2 h3 h4 h5 => W.widen (by omega) (by omega) (fin d0 τ1 fo1 fd H1 l1 s1 hd0 h1 h2 h3 h4 h5)))
        | 16, _ => exact sel 16 1384 1428 rfl (by decide) rfl rfl (cs_isThreatened Fd hW hB hi5 hL hP hD hS hc hs hl (fun τ1 fo1 H1 l1 s1 h1 h2 h3 h4 h5 => W.widen (by omega) (by omega) (fin d0 τ1 fo1 fd H1 l1 s1 hd0 h1 h2 h3 h4 h5)))
        | 17, _ => exact sel 17 1447 1491 rfl (by decide) rfl rfl (cs_gain Fd hW hB hi5 hL hP hD hS hc hs hl (fun τ1 fo1 H1 l1 s1 h1 h2 h3 h4 h5 => W.widen (by omega) (by omega) (fin d0 τ1 fo1 fd H1 l1 s1 hd0 h1 h2 h3 h4 h5)))
        | 18, _ => exact sel 18 1543 1587 rfl (by decide) rfl rfl (cs_best Fd hW hB hi5 hL hP hD hS hc hs hl (fun τ1 fo1 H1 l1 s1 h1 h2 h3 h4 h5 => W.widen (by omega) (by omega) (fin d0 τ1 fo1 fd H1 l1 s1 hd0 h1 h2 h3 h4 h5)))
        | 19, _ => exact sel 19 1599 1643 rfl (by decide) rfl rfl (cs_toLock Fd hW hB hi5 hL hP hD hS hc hs hl (fun τ1 fo1 H1 l1 s1 h1 h2 h3 h4 h5 => W.widen (by omega) (by omega) (fin d0 τ1 fo1 fd H1 l1 s1 hd0 h1 h2 h3 h4 h5)))
        | 20, _ => exact sel 20 1667 1711 rfl (by decide) rfl rfl (cs_boldest Fd hW hB hi5 hL hP hD hS hc hs hl (fun τ1 fo1 H1 l1 s1 h1 h2 h3 h4 h5 => W.widen (by omega) (by omega) (fin d0 τ1 fo1 fd H1 l1 s1 hd0 h1 h2 h3 h4 h5)))
        | 21, _ => exact sel 21 1723 1767 rfl (by decide) rfl rfl (cs_farthest Fd hW hB hi5 hL hP hD hS hc hs hl (fun τ1 fo1 H1 l1 s1 h1 h2 h3 h4 h5 => W.widen (by omega) (by omega) (fin d0 τ1 fo1 fd H1 l1 s1 hd0 h1 h2 h3 h4 h5)))
        | 22, _ => exact sel 22 1779 1823 rfl (by decide) rfl rfl (cs_riverLine Fd hW hB hi5 hL hP hD hS hc hs hl (fun τ1 fo1 H1 l1 s1 h1 h2 h3 h4 h5 => W.widen (by omega) (by omega) (fin d0 τ1 fo1 fd H1 l1 s1 hd0 h1 h2 h3 h4 h5)))
        | 23, _ => exact sel 23 1835 1879 rfl (by decide) rfl rfl (cs_ferryLine Fd hW hB hi5 hL hP hD hS hc hs hl (fun τ1 fo1 H1 l1 s1 h1 h2 h3 h4 h5 => W.widen (by omega) (by omega) (fin d0 τ1 fo1 fd H1 l1 s1 hd0 h1 h2 h3 h4 h5)))
        | 24, _ => exact sel 24 1891 1935 rfl (by decide) rfl rfl (cs_character Fd hW hB hi5 hL hP hD hS hc hs hl (fun τ1 fo1 H1 l1 s1 h1 h2 h3 h4 h5 => W.widen (by omega) (by omega) (fin d0 τ1 fo1 fd H1 l1 s1 hd0 h1 h2 h3 h4 h5)))
        | 25, _ => exact sel 25 1947 1991 rfl (by decide) rfl rfl (cs_append Fd hW hB hi5 hL hP hD hS hc hs hl (fun τ1 fo1 H1 l1 s1 h1 h2 h3 h4 h5 => W.widen (by omega) (by omega) (fin d0 τ1 fo1 fd H1 l1 s1 hd0 h1 h2 h3 h4 h5)))
        | 26, _ => exact sel 26 2005 2049 rfl (by decide) rfl rfl (cs_run Fd hW hB hi5 hL hP hD hS hc hs hl (fun τ1 fo1 H1 l1 s1 h1 h2 h3 h4 h5 => W.widen (by omega) (by omega) (fin d0 τ1 fo1 fd H1 l1 s1 hd0 h1 h2 h3 h4 h5)))
        | 27, _ => exact sel 27 2049 2093 rfl (by decide) rfl rfl (cs_errorPosition Fd hW hB hi5 hL hP hD hS hc hs hl (fun τ1 fo1 H1 l1 s1 h1 h2 h3 h4 h5 => W.widen (by omega) (by omega) (fin d0 τ1 fo1 fd H1 l1 s1 hd0 h1 h2 h3 h4 h5)))
        | 28, _ => exact sel 28 2062 2106 rfl (by decide) rfl rfl (cs_refusal Fd hW hB hi5 hL hP hD hS hc hs hl (fun τ1 fo1 H1 l1 s1 h1 h2 h3 h4 h5 => W.widen (by omega) (by omega) (fin d0 τ1 fo1 fd H1 l1 s1 hd0 h1 h2 h3 h4 h5)))
        | 29, _ => exact sel 29 2146 2190 rfl (by decide) rfl rfl (cs_account Fd hW hB hi5 hL hP hD hS hc hs hl (fun τ1 fo1 H1 l1 s1 h1 h2 h3 h4 h5 => W.widen (by omega) (by omega) (fin d0 τ1 fo1 fd H1 l1 s1 hd0 h1 h2 h3 h4 h5)))
        | 30, _ => exact sel 30 2202 2246 rfl (by decide) rfl rfl (cs_isWell Fd hW hB hi5 hL hP hD hS hc hs hl (fun τ1 fo1 H1 l1 s1 h1 h2 h3 h4 h5 => W.widen (by omega) (by omega) (fin d0 τ1 fo1 fd H1 l1 s1 hd0 h1 h2 h3 h4 h5)))
        | 31, _ => exact sel 31 2215 2259 rfl (by decide) rfl rfl (cs_meanJumps hd0 F hW hB hi5 hL hP hD hS hc4 hs4 hl (fun d1 τ1 fo1 fd1 H1 l1 s1 h0 h1 h2 h3 h4 h5 => fin d1 τ1 fo1 fd1 H1 l1 s1 h0 h1 h2 h3 h4 h5))
        | 32, _ => exact sel 32 2280 2324 rfl (by decide) rfl rfl (cs_kingShare hd0 F hW hB hi5 hL hP hD hS hc4 hs4 hl (fun d1 τ1 fo1 fd1 H1 l1 s1 h0 h1 h2 h3 h4 h5 => fin d1 τ1 fo1 fd1 H1 l1 s1 h0 h1 h2 h3 h4 h5))
        | 33, _ => exact sel 33 2346 2390 rfl (by decide) rfl rfl (cs_undo Fd hW hB hi5 hL hP hD hS hc hs hl (fun τ1 fo1 H1 l1 s1 h1 h2 h3 h4 h5 => W.widen (by omega) (by omega) (fin d0 τ1 fo1 fd H1 l1 s1 hd0 h1 h2 h3 h4 h5)))
        | 34, _ => exact sel 34 2390 2434 rfl (by decide) rfl rfl (cs_save Fd hW hB hi5 hL hP hD hS hc hs hl (fun τ1 fo1 H1 l1 s1 h1 h2 h3 h4 h5 => W.widen (by omega) (by omega) (fin d0 τ1 fo1 fd H1 l1 s1 hd0 h1 h2 h3 h4 h5)))
        | 35, _ => exact sel 35 2403 2447 rfl (by decide) rfl rfl (cs_restore Fd hW hB hi5 hL hP hD hS hc hs hl (fun τ1 fo1 H1 l1 s1 h1 h2 h3 h4 h5 => W.widen (by omega) (by omega) (fin d0 τ1 fo1 fd H1 l1 s1 hd0 h1 h2 h3 h4 h5)))
        | z + 36, h => exact absurd h (by omega)
      · refine lv_tableOut hx hb dsw (tgt := 2491) (Or.inr (by omega)) (by decide) ?_
        refine W.widen (k := 33 + 4 * j + 4) (n := 8000 + 24 * j + 24) (by omega) (by omega) ?_
        exact fin d0 τ fo fd H locs ls hd0 (hW.mono (by omega) (by omega)) hP hD hS hl
def lawW : List Jvm.Cond := [.classLink RL 8 RX7, .initialized RX7, .methodLink RL 130 yX7_init, .instanceMethod yX7_init, .code yX7_init cX7_init 1 none, .classLink RL 131 RX8, .initialized RX8, .methodLink RL 133 yX8_init, .instanceMethod yX8_init, .code yX8_init cX8_init 1 none]
theorem law_in : ∀ w ∈ lawW, w ∈ lw_tbl := by decide +kernel
theorem la (k : Nat) {w : Jvm.Cond} (h : lawW[k]? = some w) : w ∈ lw_tbl := law_in w (List.mem_of_getElem? h)
theorem cL_is {t : Nat} {ty : FieldType} {c9 : ClassId} (hK : va_K D cls9 (tyL cA) s) (h0 : (tyL cA)[t]? = some (cA t, ty)) (hty : ty = .long ∨ ty = .double) (h : va_K D cls9 (tyL cA ++ [(c9, ty)]) s) : c9 = cA t := by
  have h1 := (h.2 4 (c9, ty) rfl).2
  have h2 := (hK.2 t (cA t, ty) h0).2
  rcases hty with rfl | rfl <;> exact Option.some.inj ((show s.vm.findClass _ = some c9 from h1).symm.trans h2)
set_option maxHeartbeats 4000000 in
theorem whole_start {p : Program} {e : Env} {s : State} {m : MethodId} {below : List Frame} {meth : Method} {c : Code} (l : Launch) (hflags : l.flags = flags0) {b L : Nat} {xs : Nat → Int32} (hL : L ≤ 2560) (C0 : lw_At p s m meth c b L xs) : W p l e room_1 s m #[Value.ref b] below meth c s.heap [] 0 0 (lw_Z below #[Value.ref b] s) (entryFrame m ([Value.ref b] : List Value).toArray 9) := by
  obtain ⟨hx, hb, hr, hml, hown, hts, hX, hbl, hlocks, hgv⟩ := id C0
  have hl0 : l.stackTraces = false := by
    unfold Launch.stackTraces
    rw [hflags]
    decide
  obtain ⟨D, cA, hK⟩ := start_K hts
  obtain ⟨ad, adV, hWX⟩ := start_WX hts hgv
  have hN := start_NC hgv
  have htS : ∀ w ∈ TS, w.before #[Value.ref b] s = true := fun w hw => hts w (TS_sub hw)
  have hK2 : va_K D cls9 (tyW cA) s := hK.sub [0, 1] rfl
  have hA : ∀ q : Nat, s.heap.size ≤ q → (fun q : Nat => s.heap.size ≤ q) q := fun _ h => h
  have hbA : ¬ (fun q : Nat => s.heap.size ≤ q) b := Nat.not_le.mpr hbl
  have hS : va_S (fun q : Nat => s.heap.size ≤ q) s.heap s.heap [] := va_S.rf
  have hP : va_P D cls9 [] s.heap := fun k q h => by simp at h
  have hD : va_D (fun q : Nat => s.heap.size ≤ q) [] := ⟨fun i j p q h => by simp at h, fun k q h => by simp at h⟩
  have hl := lv_entry ([.ref b]) (n := 9) (Nat.le_of_ble_eq_true rfl)
  rw [lg_entry_eq]
  generalize (lg_sl ([.ref b]) ++ List.replicate (9 - (lg_sl ([.ref b])).length) Slot.unset).toArray = ls at hl ⊢
  have hl : lv_has ls 9 [(0, .ref b)] := hl
  refine va_new (ci := 7) (fs := [.null, .null, .null, .null, .null, .null, .null, .null, .null, .int 0, .null, .null]) (C := RX7) (T := TX7) (N := 12) hx hb htS (c_uws (c := 7) (by decide)) tyX7 tyX7_ok hown (hts _ (la 0 rfl)) (hts _ (inst_in 7 (by decide))) (hts _ (la 1 rfl)) hK2 hP hD hS hA rfl (by decide +kernel) (Nat.le_of_ble_eq_true rfl) (Nat.le_of_ble_eq_true rfl) (by decide +kernel) (fun h0 H hP hD hS => ?_)
  have hP : va_P D cls9 [(h0, .inr (7, [.null, .null, .null, .null, .null, .null, .null, .null, .null, .int 0, .null, .null]))] H := hP
  have hD : va_D (fun q : Nat => s.heap.size ≤ q) [(h0, .inr (7, [.null, .null, .null, .null, .null, .null, .null, .null, .null, .int 0, .null, .null]))] := hD
  refine lv_dup hx hb (by decide +kernel) rfl ?_
  refine ci_I (own := RL) (n := 0) (As := []) (rest := [.ref h0]) (k_all (ws := [(h0, .inr (7, [.null, .null, .null, .null, .null, .null, .null, .null, .null, .int 0, .null, .null]))]) (n := 0) (h0 := h0) rfl) hx htS hb hown hP hD hK2 hWX hA hS (hl.1.trans hml.symm) (la 2 rfl) (la 3 rfl) (la 1 rfl) (la 4 rfl) rfl ⟨by decide, by decide, by decide +kernel⟩ rfl ⟨Nat.le_of_ble_eq_true rfl, Nat.le_of_ble_eq_true rfl, Nat.le_of_ble_eq_true rfl, Nat.le_of_ble_eq_true rfl⟩ (Nat.le_of_ble_eq_true rfl) (by decide +kernel) rfl (fun ws' H locs hG hP hD hS => ?_)
  obtain ⟨q1, q2, q3, q4, q5, q6, q7, q8, q9, q10, q11, q12, q13, q14, q15, q16, q17, q18, q19, q20, rfl⟩ := hG
  have hP : va_P D cls9 [(h0, .inr (7, [.ref q1, .ref q3, .ref q4, .ref q6, .ref q7, .ref q10, .ref q11, .ref q12, .ref q14, .int 0, .ref q16, .ref q19])), (q1, .inr (5, [.ref q2])), (q2, .inl (cA 0, 109, .inl (f48 72))), (q3, .inr (1, [.ref q1])), (q4, .inr (5, [.ref q5])), (q5, .inl (cA 0, 109, .inl (f48 72))), (q6, .inr (1, [.ref q4])), (q7, .inr (4, [.ref q8, .ref q9, .int 0])), (q8, .inl (cA 0, 3, .inl (fun _ => 0))), (q9, .inl (cA 0, 3, .inl (fun _ => 0))), (q10, .inr (0, [.ref q1, .ref q3, .ref q7])), (q11, .inr (0, [.ref q4, .ref q6, .ref q7])), (q12, .inr (2, [.ref q13, .int 0, .int 0])), (q13, .inl (cA 0, 872, .inl (fun _ => 0))), (q14, .inr (5, [.ref q15])), (q15, .inl (cA 0, 109, .inl (f48 72))), (q16, .inr (6, [.ref q17, .int 0, .ref q18, .int 0, .int (-1)])), (q17, .inl (cA 1, 60, .inl (fun _ => 0))), (q18, .inl (cA 0, 52, .inl (fun _ => 0))), (q19, .inr (3, [.ref q20, .int 0])), (q20, .inl (cA 1, 12, .inl (fun _ => 0)))] H := hP
  have hD : va_D (fun q : Nat => s.heap.size ≤ q) [(h0, .inr (7, [.ref q1, .ref q3, .ref q4, .ref q6, .ref q7, .ref q10, .ref q11, .ref q12, .ref q14, .int 0, .ref q16, .ref q19])), (q1, .inr (5, [.ref q2])), (q2, .inl (cA 0, 109, .inl (f48 72))), (q3, .inr (1, [.ref q1])), (q4, .inr (5, [.ref q5])), (q5, .inl (cA 0, 109, .inl (f48 72))), (q6, .inr (1, [.ref q4])), (q7, .inr (4, [.ref q8, .ref q9, .int 0])), (q8, .inl (cA 0, 3, .inl (fun _ => 0))), (q9, .inl (cA 0, 3, .inl (fun _ => 0))), (q10, .inr (0, [.ref q1, .ref q3, .ref q7])), (q11, .inr (0, [.ref q4, .ref q6, .ref q7])), (q12, .inr (2, [.ref q13, .int 0, .int 0])), (q13, .inl (cA 0, 872, .inl (fun _ => 0))), (q14, .inr (5, [.ref q15])), (q15, .inl (cA 0, 109, .inl (f48 72))), (q16, .inr (6, [.ref q17, .int 0, .ref q18, .int 0, .int (-1)])), (q17, .inl (cA 1, 60, .inl (fun _ => 0))), (q18, .inl (cA 0, 52, .inl (fun _ => 0))), (q19, .inr (3, [.ref q20, .int 0])), (q20, .inl (cA 1, 12, .inl (fun _ => 0)))] := hD
  refine lv_astore_n hx hb (k := 1) (i := 1) (lv' := [(1, .ref h0), (0, .ref b)]) (by decide +kernel) rfl hl (by decide) rfl (fun ls hl => ?_)
  refine va_new (ci := 8) (fs := [.null, .null, .null, .null, .int 0, .null, .int 0, .int 0, .null, .int 0, .int 0, .null, .int 0, .null, .int 0, .int 0, .int 0, .int 0, .null, .int 0]) (C := RX8) (T := TX8) (N := 20) hx hb htS (c_uws (c := 8) (by decide)) tyX8 tyX8_ok hown (hts _ (la 5 rfl)) (hts _ (inst_in 8 (by decide))) (hts _ (la 6 rfl)) hK2 hP hD hS hA rfl (by decide +kernel) (Nat.le_of_ble_eq_true rfl) (Nat.le_of_ble_eq_true rfl) (by decide +kernel) (fun h1 H hP hD hS => ?_)
  have hP : va_P D cls9 [(h0, .inr (7, [.ref q1, .ref q3, .ref q4, .ref q6, .ref q7, .ref q10, .ref q11, .ref q12, .ref q14, .int 0, .ref q16, .ref q19])), (q1, .inr (5, [.ref q2])), (q2, .inl (cA 0, 109, .inl (f48 72))), (q3, .inr (1, [.ref q1])), (q4, .inr (5, [.ref q5])), (q5, .inl (cA 0, 109, .inl (f48 72))), (q6, .inr (1, [.ref q4])), (q7, .inr (4, [.ref q8, .ref q9, .int 0])), (q8, .inl (cA 0, 3, .inl (fun _ => 0))), (q9, .inl (cA 0, 3, .inl (fun _ => 0))), (q10, .inr (0, [.ref q1, .ref q3, .ref q7])), (q11, .inr (0, [.ref q4, .ref q6, .ref q7])), (q12, .inr (2, [.ref q13, .int 0, .int 0])), (q13, .inl (cA 0, 872, .inl (fun _ => 0))), (q14, .inr (5, [.ref q15])), (q15, .inl (cA 0, 109, .inl (f48 72))), (q16, .inr (6, [.ref q17, .int 0, .ref q18, .int 0, .int (-1)])), (q17, .inl (cA 1, 60, .inl (fun _ => 0))), (q18, .inl (cA 0, 52, .inl (fun _ => 0))), (q19, .inr (3, [.ref q20, .int 0])), (q20, .inl (cA 1, 12, .inl (fun _ => 0))), (h1, .inr (8, [.null, .null, .null, .null, .int 0, .null, .int 0, .int 0, .null, .int 0, .int 0, .null, .int 0, .null, .int 0, .int 0, .int 0, .int 0, .null, .int 0]))] H := hP
  have hD : va_D (fun q : Nat => s.heap.size ≤ q) [(h0, .inr (7, [.ref q1, .ref q3, .ref q4, .ref q6, .ref q7, .ref q10, .ref q11, .ref q12, .ref q14, .int 0, .ref q16, .ref q19])), (q1, .inr (5, [.ref q2])), (q2, .inl (cA 0, 109, .inl (f48 72))), (q3, .inr (1, [.ref q1])), (q4, .inr (5, [.ref q5])), (q5, .inl (cA 0, 109, .inl (f48 72))), (q6, .inr (1, [.ref q4])), (q7, .inr (4, [.ref q8, .ref q9, .int 0])), (q8, .inl (cA 0, 3, .inl (fun _ => 0))), (q9, .inl (cA 0, 3, .inl (fun _ => 0))), (q10, .inr (0, [.ref q1, .ref q3, .ref q7])), (q11, .inr (0, [.ref q4, .ref q6, .ref q7])), (q12, .inr (2, [.ref q13, .int 0, .int 0])), (q13, .inl (cA 0, 872, .inl (fun _ => 0))), (q14, .inr (5, [.ref q15])), (q15, .inl (cA 0, 109, .inl (f48 72))), (q16, .inr (6, [.ref q17, .int 0, .ref q18, .int 0, .int (-1)])), (q17, .inl (cA 1, 60, .inl (fun _ => 0))), (q18, .inl (cA 0, 52, .inl (fun _ => 0))), (q19, .inr (3, [.ref q20, .int 0])), (q20, .inl (cA 1, 12, .inl (fun _ => 0))), (h1, .inr (8, [.null, .null, .null, .null, .int 0, .null, .int 0, .int 0, .null, .int 0, .int 0, .null, .int 0, .null, .int 0, .int 0, .int 0, .int 0, .null, .int 0]))] := hD
  refine lv_dup hx hb (by decide +kernel) rfl ?_
  refine ci_I (own := RL) (n := 0) (As := []) (rest := [.ref h1]) (k_model (ws := [(h0, .inr (7, [.ref q1, .ref q3, .ref q4, .ref q6, .ref q7, .ref q10, .ref q11, .ref q12, .ref q14, .int 0, .ref q16, .ref q19])), (q1, .inr (5, [.ref q2])), (q2, .inl (cA 0, 109, .inl (f48 72))), (q3, .inr (1, [.ref q1])), (q4, .inr (5, [.ref q5])), (q5, .inl (cA 0, 109, .inl (f48 72))), (q6, .inr (1, [.ref q4])), (q7, .inr (4, [.ref q8, .ref q9, .int 0])), (q8, .inl (cA 0, 3, .inl (fun _ => 0))), (q9, .inl (cA 0, 3, .inl (fun _ => 0))), (q10, .inr (0, [.ref q1, .ref q3, .ref q7])), (q11, .inr (0, [.ref q4, .ref q6, .ref q7])), (q12, .inr (2, [.ref q13, .int 0, .int 0])), (q13, .inl (cA 0, 872, .inl (fun _ => 0))), (q14, .inr (5, [.ref q15])), (q15, .inl (cA 0, 109, .inl (f48 72))), (q16, .inr (6, [.ref q17, .int 0, .ref q18, .int 0, .int (-1)])), (q17, .inl (cA 1, 60, .inl (fun _ => 0))), (q18, .inl (cA 0, 52, .inl (fun _ => 0))), (q19, .inr (3, [.ref q20, .int 0])), (q20, .inl (cA 1, 12, .inl (fun _ => 0))), (h1, .inr (8, [.null, .null, .null, .null, .int 0, .null, .int 0, .int 0, .null, .int 0, .int 0, .null, .int 0, .null, .int 0, .int 0, .int 0, .int 0, .null, .int 0]))]) (n := 21) (h0 := h1) rfl) hx htS hb hown hP hD hK2 hWX hA hS (hl.1.trans hml.symm) (la 7 rfl) (la 8 rfl) (la 6 rfl) (la 9 rfl) rfl ⟨by decide, by decide, by decide +kernel⟩ rfl ⟨Nat.le_of_ble_eq_true rfl, Nat.le_of_ble_eq_true rfl, Nat.le_of_ble_eq_true rfl, Nat.le_of_ble_eq_true rfl⟩ (Nat.le_of_ble_eq_true rfl) (by decide +kernel) rfl (fun ws' H locs hG hP hD hS => ?_)
  obtain ⟨m1, m2, m3, m4, m5, m6, m7, m8, m9, rfl⟩ := hG
  have hP : va_P D cls9 [(h0, .inr (7, [.ref q1, .ref q3, .ref q4, .ref q6, .ref q7, .ref q10, .ref q11, .ref q12, .ref q14, .int 0, .ref q16, .ref q19])), (q1, .inr (5, [.ref q2])), (q2, .inl (cA 0, 109, .inl (f48 72))), (q3, .inr (1, [.ref q1])), (q4, .inr (5, [.ref q5])), (q5, .inl (cA 0, 109, .inl (f48 72))), (q6, .inr (1, [.ref q4])), (q7, .inr (4, [.ref q8, .ref q9, .int 0])), (q8, .inl (cA 0, 3, .inl (fun _ => 0))), (q9, .inl (cA 0, 3, .inl (fun _ => 0))), (q10, .inr (0, [.ref q1, .ref q3, .ref q7])), (q11, .inr (0, [.ref q4, .ref q6, .ref q7])), (q12, .inr (2, [.ref q13, .int 0, .int 0])), (q13, .inl (cA 0, 872, .inl (fun _ => 0))), (q14, .inr (5, [.ref q15])), (q15, .inl (cA 0, 109, .inl (f48 72))), (q16, .inr (6, [.ref q17, .int 0, .ref q18, .int 0, .int (-1)])), (q17, .inl (cA 1, 60, .inl (fun _ => 0))), (q18, .inl (cA 0, 52, .inl (fun _ => 0))), (q19, .inr (3, [.ref q20, .int 0])), (q20, .inl (cA 1, 12, .inl (fun _ => 0))), (h1, .inr (8, [.ref m1, .ref m2, .ref m3, .ref m4, .int 0, .ref m5, .int 0, .int 0, .ref m6, .int 0, .int 0, .ref m7, .int 0, .ref m8, .int 0, .int 0, .int 0, .int (-1), .ref m9, .int 0])), (m1, .inl (cA 0, 109, .inl (fun _ => 0))), (m2, .inl (cA 0, 109, .inl (fun _ => 0))), (m3, .inl (cA 0, 109, .inl (fun _ => 0))), (m4, .inl (cA 0, 109, .inl (fun _ => 0))), (m5, .inl (cA 0, 872, .inl (fun _ => 0))), (m6, .inl (cA 0, 6, .inl (fun _ => 0))), (m7, .inl (cA 1, 20, .inl (fun _ => 0))), (m8, .inl (cA 1, 60, .inl (fun _ => 0))), (m9, .inl (cA 0, 240, .inl (fun _ => 0)))] H := hP
  have hD : va_D (fun q : Nat => s.heap.size ≤ q) [(h0, .inr (7, [.ref q1, .ref q3, .ref q4, .ref q6, .ref q7, .ref q10, .ref q11, .ref q12, .ref q14, .int 0, .ref q16, .ref q19])), (q1, .inr (5, [.ref q2])), (q2, .inl (cA 0, 109, .inl (f48 72))), (q3, .inr (1, [.ref q1])), (q4, .inr (5, [.ref q5])), (q5, .inl (cA 0, 109, .inl (f48 72))), (q6, .inr (1, [.ref q4])), (q7, .inr (4, [.ref q8, .ref q9, .int 0])), (q8, .inl (cA 0, 3, .inl (fun _ => 0))), (q9, .inl (cA 0, 3, .inl (fun _ => 0))), (q10, .inr (0, [.ref q1, .ref q3, .ref q7])), (q11, .inr (0, [.ref q4, .ref q6, .ref q7])), (q12, .inr (2, [.ref q13, .int 0, .int 0])), (q13, .inl (cA 0, 872, .inl (fun _ => 0))), (q14, .inr (5, [.ref q15])), (q15, .inl (cA 0, 109, .inl (f48 72))), (q16, .inr (6, [.ref q17, .int 0, .ref q18, .int 0, .int (-1)])), (q17, .inl (cA 1, 60, .inl (fun _ => 0))), (q18, .inl (cA 0, 52, .inl (fun _ => 0))), (q19, .inr (3, [.ref q20, .int 0])), (q20, .inl (cA 1, 12, .inl (fun _ => 0))), (h1, .inr (8, [.ref m1, .ref m2, .ref m3, .ref m4, .int 0, .ref m5, .int 0, .int 0, .ref m6, .int 0, .int 0, .ref m7, .int 0, .ref m8, .int 0, .int 0, .int 0, .int (-1), .ref m9, .int 0])), (m1, .inl (cA 0, 109, .inl (fun _ => 0))), (m2, .inl (cA 0, 109, .inl (fun _ => 0))), (m3, .inl (cA 0, 109, .inl (fun _ => 0))), (m4, .inl (cA 0, 109, .inl (fun _ => 0))), (m5, .inl (cA 0, 872, .inl (fun _ => 0))), (m6, .inl (cA 0, 6, .inl (fun _ => 0))), (m7, .inl (cA 1, 20, .inl (fun _ => 0))), (m8, .inl (cA 1, 60, .inl (fun _ => 0))), (m9, .inl (cA 0, 240, .inl (fun _ => 0)))] := hD
  refine lv_astore_n hx hb (k := 2) (i := 2) (lv' := [(2, .ref h1), (1, .ref h0), (0, .ref b)]) (by decide +kernel) rfl hl (by decide) rfl (fun ls hl => ?_)
  refine lv_iconst hx hb (n := 1) (v := 1) (by decide +kernel) rfl ?_
  refine va_newa (atype := .long) (ty := .long) (N' := 1) (a0 := (1, .inr (.inl (fun _ => 0)))) hx hb (hts _ (arr_in .long (by decide))) rfl hK hP hD hS hA (fun _ => rfl) (by decide) (by decide) (by decide) (Nat.le_of_ble_eq_true rfl) (Nat.le_of_ble_eq_true rfl) (by decide +kernel) (fun qo c2 H hK2 hP hD hS => ?_)
  cases cL_is hK (t := 2) rfl (Or.inl rfl) hK2
  have hP : va_P D cls9 [(h0, .inr (7, [.ref q1, .ref q3, .ref q4, .ref q6, .ref q7, .ref q10, .ref q11, .ref q12, .ref q14, .int 0, .ref q16, .ref q19])), (q1, .inr (5, [.ref q2])), (q2, .inl (cA 0, 109, .inl (f48 72))), (q3, .inr (1, [.ref q1])), (q4, .inr (5, [.ref q5])), (q5, .inl (cA 0, 109, .inl (f48 72))), (q6, .inr (1, [.ref q4])), (q7, .inr (4, [.ref q8, .ref q9, .int 0])), (q8, .inl (cA 0, 3, .inl (fun _ => 0))), (q9, .inl (cA 0, 3, .inl (fun _ => 0))), (q10, .inr (0, [.ref q1, .ref q3, .ref q7])), (q11, .inr (0, [.ref q4, .ref q6, .ref q7])), (q12, .inr (2, [.ref q13, .int 0, .int 0])), (q13, .inl (cA 0, 872, .inl (fun _ => 0))), (q14, .inr (5, [.ref q15])), (q15, .inl (cA 0, 109, .inl (f48 72))), (q16, .inr (6, [.ref q17, .int 0, .ref q18, .int 0, .int (-1)])), (q17, .inl (cA 1, 60, .inl (fun _ => 0))), (q18, .inl (cA 0, 52, .inl (fun _ => 0))), (q19, .inr (3, [.ref q20, .int 0])), (q20, .inl (cA 1, 12, .inl (fun _ => 0))), (h1, .inr (8, [.ref m1, .ref m2, .ref m3, .ref m4, .int 0, .ref m5, .int 0, .int 0, .ref m6, .int 0, .int 0, .ref m7, .int 0, .ref m8, .int 0, .int 0, .int 0, .int (-1), .ref m9, .int 0])), (m1, .inl (cA 0, 109, .inl (fun _ => 0))), (m2, .inl (cA 0, 109, .inl (fun _ => 0))), (m3, .inl (cA 0, 109, .inl (fun _ => 0))), (m4, .inl (cA 0, 109, .inl (fun _ => 0))), (m5, .inl (cA 0, 872, .inl (fun _ => 0))), (m6, .inl (cA 0, 6, .inl (fun _ => 0))), (m7, .inl (cA 1, 20, .inl (fun _ => 0))), (m8, .inl (cA 1, 60, .inl (fun _ => 0))), (m9, .inl (cA 0, 240, .inl (fun _ => 0))), (qo, .inl (cA 2, 1, .inr (.inl (fun _ => 0))))] H := hP
  have hD : va_D (fun q : Nat => s.heap.size ≤ q) [(h0, .inr (7, [.ref q1, .ref q3, .ref q4, .ref q6, .ref q7, .ref q10, .ref q11, .ref q12, .ref q14, .int 0, .ref q16, .ref q19])), (q1, .inr (5, [.ref q2])), (q2, .inl (cA 0, 109, .inl (f48 72))), (q3, .inr (1, [.ref q1])), (q4, .inr (5, [.ref q5])), (q5, .inl (cA 0, 109, .inl (f48 72))), (q6, .inr (1, [.ref q4])), (q7, .inr (4, [.ref q8, .ref q9, .int 0])), (q8, .inl (cA 0, 3, .inl (fun _ => 0))), (q9, .inl (cA 0, 3, .inl (fun _ => 0))), (q10, .inr (0, [.ref q1, .ref q3, .ref q7])), (q11, .inr (0, [.ref q4, .ref q6, .ref q7])), (q12, .inr (2, [.ref q13, .int 0, .int 0])), (q13, .inl (cA 0, 872, .inl (fun _ => 0))), (q14, .inr (5, [.ref q15])), (q15, .inl (cA 0, 109, .inl (f48 72))), (q16, .inr (6, [.ref q17, .int 0, .ref q18, .int 0, .int (-1)])), (q17, .inl (cA 1, 60, .inl (fun _ => 0))), (q18, .inl (cA 0, 52, .inl (fun _ => 0))), (q19, .inr (3, [.ref q20, .int 0])), (q20, .inl (cA 1, 12, .inl (fun _ => 0))), (h1, .inr (8, [.ref m1, .ref m2, .ref m3, .ref m4, .int 0, .ref m5, .int 0, .int 0, .ref m6, .int 0, .int 0, .ref m7, .int 0, .ref m8, .int 0, .int 0, .int 0, .int (-1), .ref m9, .int 0])), (m1, .inl (cA 0, 109, .inl (fun _ => 0))), (m2, .inl (cA 0, 109, .inl (fun _ => 0))), (m3, .inl (cA 0, 109, .inl (fun _ => 0))), (m4, .inl (cA 0, 109, .inl (fun _ => 0))), (m5, .inl (cA 0, 872, .inl (fun _ => 0))), (m6, .inl (cA 0, 6, .inl (fun _ => 0))), (m7, .inl (cA 1, 20, .inl (fun _ => 0))), (m8, .inl (cA 1, 60, .inl (fun _ => 0))), (m9, .inl (cA 0, 240, .inl (fun _ => 0))), (qo, .inl (cA 2, 1, .inr (.inl (fun _ => 0))))] := hD
  refine lv_astore_n hx hb (k := 3) (i := 3) (lv' := [(3, .ref qo), (2, .ref h1), (1, .ref h0), (0, .ref b)]) (by decide +kernel) rfl hl (by decide) rfl (fun ls hl => ?_)
  refine lv_iconst hx hb (n := 1) (v := 1) (by decide +kernel) rfl ?_
  refine va_newa (atype := .double) (ty := .double) (N' := 1) (a0 := (1, .inr (.inr (.inr (.inl (fun _ => 0)))))) hx hb (hts _ (arr_in .double (by decide))) rfl hK hP hD hS hA (fun _ => rfl) (by decide) (by decide) (by decide) (Nat.le_of_ble_eq_true rfl) (Nat.le_of_ble_eq_true rfl) (by decide +kernel) (fun qd c3 H hK3 hP hD hS => ?_)
  cases cL_is hK (t := 3) rfl (Or.inr rfl) hK3
  have hP : va_P D cls9 [(h0, .inr (7, [.ref q1, .ref q3, .ref q4, .ref q6, .ref q7, .ref q10, .ref q11, .ref q12, .ref q14, .int 0, .ref q16, .ref q19])), (q1, .inr (5, [.ref q2])), (q2, .inl (cA 0, 109, .inl (f48 72))), (q3, .inr (1, [.ref q1])), (q4, .inr (5, [.ref q5])), (q5, .inl (cA 0, 109, .inl (f48 72))), (q6, .inr (1, [.ref q4])), (q7, .inr (4, [.ref q8, .ref q9, .int 0])), (q8, .inl (cA 0, 3, .inl (fun _ => 0))), (q9, .inl (cA 0, 3, .inl (fun _ => 0))), (q10, .inr (0, [.ref q1, .ref q3, .ref q7])), (q11, .inr (0, [.ref q4, .ref q6, .ref q7])), (q12, .inr (2, [.ref q13, .int 0, .int 0])), (q13, .inl (cA 0, 872, .inl (fun _ => 0))), (q14, .inr (5, [.ref q15])), (q15, .inl (cA 0, 109, .inl (f48 72))), (q16, .inr (6, [.ref q17, .int 0, .ref q18, .int 0, .int (-1)])), (q17, .inl (cA 1, 60, .inl (fun _ => 0))), (q18, .inl (cA 0, 52, .inl (fun _ => 0))), (q19, .inr (3, [.ref q20, .int 0])), (q20, .inl (cA 1, 12, .inl (fun _ => 0))), (h1, .inr (8, [.ref m1, .ref m2, .ref m3, .ref m4, .int 0, .ref m5, .int 0, .int 0, .ref m6, .int 0, .int 0, .ref m7, .int 0, .ref m8, .int 0, .int 0, .int 0, .int (-1), .ref m9, .int 0])), (m1, .inl (cA 0, 109, .inl (fun _ => 0))), (m2, .inl (cA 0, 109, .inl (fun _ => 0))), (m3, .inl (cA 0, 109, .inl (fun _ => 0))), (m4, .inl (cA 0, 109, .inl (fun _ => 0))), (m5, .inl (cA 0, 872, .inl (fun _ => 0))), (m6, .inl (cA 0, 6, .inl (fun _ => 0))), (m7, .inl (cA 1, 20, .inl (fun _ => 0))), (m8, .inl (cA 1, 60, .inl (fun _ => 0))), (m9, .inl (cA 0, 240, .inl (fun _ => 0))), (qo, .inl (cA 2, 1, .inr (.inl (fun _ => 0)))), (qd, .inl (cA 3, 1, .inr (.inr (.inr (.inl (fun _ => 0))))))] H := hP
  have hD : va_D (fun q : Nat => s.heap.size ≤ q) [(h0, .inr (7, [.ref q1, .ref q3, .ref q4, .ref q6, .ref q7, .ref q10, .ref q11, .ref q12, .ref q14, .int 0, .ref q16, .ref q19])), (q1, .inr (5, [.ref q2])), (q2, .inl (cA 0, 109, .inl (f48 72))), (q3, .inr (1, [.ref q1])), (q4, .inr (5, [.ref q5])), (q5, .inl (cA 0, 109, .inl (f48 72))), (q6, .inr (1, [.ref q4])), (q7, .inr (4, [.ref q8, .ref q9, .int 0])), (q8, .inl (cA 0, 3, .inl (fun _ => 0))), (q9, .inl (cA 0, 3, .inl (fun _ => 0))), (q10, .inr (0, [.ref q1, .ref q3, .ref q7])), (q11, .inr (0, [.ref q4, .ref q6, .ref q7])), (q12, .inr (2, [.ref q13, .int 0, .int 0])), (q13, .inl (cA 0, 872, .inl (fun _ => 0))), (q14, .inr (5, [.ref q15])), (q15, .inl (cA 0, 109, .inl (f48 72))), (q16, .inr (6, [.ref q17, .int 0, .ref q18, .int 0, .int (-1)])), (q17, .inl (cA 1, 60, .inl (fun _ => 0))), (q18, .inl (cA 0, 52, .inl (fun _ => 0))), (q19, .inr (3, [.ref q20, .int 0])), (q20, .inl (cA 1, 12, .inl (fun _ => 0))), (h1, .inr (8, [.ref m1, .ref m2, .ref m3, .ref m4, .int 0, .ref m5, .int 0, .int 0, .ref m6, .int 0, .int 0, .ref m7, .int 0, .ref m8, .int 0, .int 0, .int 0, .int (-1), .ref m9, .int 0])), (m1, .inl (cA 0, 109, .inl (fun _ => 0))), (m2, .inl (cA 0, 109, .inl (fun _ => 0))), (m3, .inl (cA 0, 109, .inl (fun _ => 0))), (m4, .inl (cA 0, 109, .inl (fun _ => 0))), (m5, .inl (cA 0, 872, .inl (fun _ => 0))), (m6, .inl (cA 0, 6, .inl (fun _ => 0))), (m7, .inl (cA 1, 20, .inl (fun _ => 0))), (m8, .inl (cA 1, 60, .inl (fun _ => 0))), (m9, .inl (cA 0, 240, .inl (fun _ => 0))), (qo, .inl (cA 2, 1, .inr (.inl (fun _ => 0)))), (qd, .inl (cA 3, 1, .inr (.inr (.inr (.inl (fun _ => 0))))))] := hD
  refine lv_astore hx hb (i := 4) (lv' := [(4, .ref qd), (3, .ref qo), (2, .ref h1), (1, .ref h0), (0, .ref b)]) (by decide +kernel) hl (by decide) rfl (fun ls hl => ?_)
  refine lv_iconst hx hb (n := 0) (v := 0) (by decide +kernel) rfl ?_
  refine lv_istore hx hb (i := 5) (lv' := [(5, .int 0), (4, .ref qd), (3, .ref qo), (2, .ref h1), (1, .ref h0), (0, .ref b)]) (by decide +kernel) hl (by decide) rfl (fun ls hl => ?_)
  have hP9 : va_P D cls9 (LV (adL [h0, q1, q4, q14, q2, q5, q15, q3, q6, q7, q8, q9, q10, q11, q12, q13, q16, q17, q18, q19, q20, h1, m1, m2, m3, m4, m5, m6, m7, m8, m9] ad) cA qo qd (sz tau0) (fun _ => 0) (fun _ => 0)) H := by
    rw [sz_0]
    unfold LV
    rw [wO_0]
    exact hP.sub [0, 1, 4, 14, 2, 5, 15, 3, 6, 7, 8, 9, 10, 11, 12, 13, 16, 17, 18, 19, 20, 21, 22, 23, 24, 25, 26, 27, 28, 29, 30, 31, 32] rfl
  have hD9 : va_D (fun q : Nat => s.heap.size ≤ q) (LV (adL [h0, q1, q4, q14, q2, q5, q15, q3, q6, q7, q8, q9, q10, q11, q12, q13, q16, q17, q18, q19, q20, h1, m1, m2, m3, m4, m5, m6, m7, m8, m9] ad) cA qo qd (sz tau0) (fun _ => 0) (fun _ => 0)) := by
    rw [sz_0]
    unfold LV
    rw [wO_0]
    exact hD.sub [0, 1, 4, 14, 2, 5, 15, 3, 6, 7, 8, 9, 10, 11, 12, 13, 16, 17, 18, 19, 20, 21, 22, 23, 24, 25, 26, 27, 28, 29, 30, 31, 32] (by decide) rfl
  refine W.base ?_
  refine W.widen (k := 33 + 4 * 0) (n := 8000 + 24 * 0) (Nat.le_of_ble_eq_true rfl) (Nat.le_of_ble_eq_true rfl) ?_
  exact law_loop (adV := adV) (L := L) (xs := xs) (Drawn.sameBut.refl s.drawn lw_cs) ⟨hx, hb, hml, hown, htS, hK, WX_adL hWX, hA, hN, hX, hbl, hbA, hl0⟩ hr hlocks (fun _ => Iff.rfl) hL 513 0 s.drawn tau0 (fun _ => 0) (fun _ => 0) H _ ls 0 rfl rfl (Nat.zero_le _) (Drawn.sameBut.refl s.drawn lw_cs) WL_0 hP9 hD9 hS (lv_sub hl [5, 4, 3, 2, 1, 0] rfl)
end LAW
