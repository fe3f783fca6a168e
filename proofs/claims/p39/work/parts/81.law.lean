/-! THE CLAIM OUT OF ONE WALK OF THE LAW'S BODY. Your part is whole_start (and what it stands on); all else here is the same for every law, but numbers. -/
def R_law : String := "FerryDraughtsLaw"
def lw_P (b : Addr) (xs : List Int32) (args : Array Value) (s : State) : Prop := args = #[.ref b] ∧ s.IntsAt b xs ∧ xs.length ≤ 260 ∧ (Jvm.Cond.and given_1 narrow_1).before args s = true
/-- what a walk over the start with the record d0 says of its end, said of the start itself -/
theorem lw_closed {s t : State} {o : Outcome} {d0 : Drawn} {L : List Loc} {k n : Nat} (hd0 : s.drawn.sameBut d0 lw_cs) (hv : ∃ v, o = .returned v) (hW : (s.setDrawn d0).WarmedH t.vm) (hs : (s.setDrawn d0).sameButNew ({ t with vm := s.vm } : State) L k n) : State.butDraws s t lw_cs (fun t1 => Framed s o t1 L k n) := by
  have h2 : t.drawn = d0 := congrArg State.drawn hs.1
  refine ⟨⟨hv, hW, State.sameButNew.setDrawn hs s.drawn⟩, ?_, by decide⟩
  rw [h2]
  exact hd0
def lw_Q (_ : Array Value) (s : State) (o : Outcome) (t : State) : Prop := o = .returned (some (.int 1)) ∧ State.butDraws s t lw_cs (fun t1 => Framed s o t1 [] 744074 6860875)
def lw_Z (below : List Frame) (a : Array Value) (s : State) : State → Prop := fun t => ∃ o, t.status = .running ∧ Ended t below o ∧ lw_Q a s o t
/-- the law's own end, with 1 on the stack, nothing written that was there before, its room as the claim has it; d0: the record of draws at this point (at the entry s.drawn: begin with 'refine W.base ?_' and 'have hd0 := Drawn.sameBut.refl s.drawn lw_cs') -/
theorem lw_ret {p : Program} {l : Launch} {e : Env} {s : State} {m : MethodId} {below : List Frame} {meth : Method} {c : Code} {b : Nat} {d0 : Drawn} (hd0 : s.drawn.sameBut d0 lw_cs) (hx : p.tables.exec = Jvm.exec) (hb : c.code = code) (hr : meth.sig.returnType = ret) (hlocks : meth.locks = false) {pc : Nat} {H : Heap} {ls : Array Slot} (hdg : decode code pc = .ok (.ireturn, 1)) : W p l e room_1 (s.setDrawn d0) m #[Value.ref b] below meth c H [] 744074 6860875 (lw_Z below #[Value.ref b] s) (F0 m pc ls [.int 1]) := by
  intro T hT X
  obtain ⟨fs, hret, hrun, hended, hW, hframe⟩ := X.leave (v := some (.int 1)) (hlocks := hlocks) (fun h => by rw [hr] at h; cases h)
  have hmeth' : T.vm.method? m = some meth := X.method'
  refine ⟨T.setFrames fs, ?_, .returned (some (.int 1)), hrun, hended, rfl, lw_closed hd0 ⟨_, rfl⟩ hW hframe⟩
  jvm_step X.here [X.here.top, hx, hb, hdg, hmeth', hr, ret, narrow_b1]
  (try refine ⟨rfl, ?_⟩); (try refine ⟨rfl, ?_⟩)
  first | (intro acts; rw [hret _ acts rfl rfl rfl]) | rw [hret _ _ rfl rfl rfl]
  exact Steps.refl _
/-- what holds at the law's entry: the machine, the code, the tables' words (any of lw_tbl by 'hts w (by decide +kernel)'), the script of L ints xs at the cell b, what the Statement gives of the start (any of its parts by flat_of_before) -/
def lw_At (p : Program) (s : State) (m : MethodId) (meth : Method) (c : Code) (b L : Nat) (xs : Nat → Int32) : Prop :=
  p.tables.exec = Jvm.exec ∧ c.code = code ∧ meth.sig.returnType = ret ∧ c.maxLocals = 2 ∧ s.vm.findClass R_law = some m.cls ∧ (∀ w ∈ lw_tbl, w.before #[Value.ref b] s = true) ∧ va_X b L xs s s.heap ∧ b < s.heap.size ∧ meth.locks = false ∧ (Jvm.Cond.and given_1 narrow_1).before #[Value.ref b] s = true
/-! the law: from its start to its end: printed by wip/p39/db81.py -/
section LAW
variable {l : Launch} {D : va_G} {A : Nat → Prop} {ad adV : Nat → Nat} {cA : Nat → ClassId}
def lr81W : List Jvm.Cond := [.methodLink RL 177 yL_moved,
  .static yL_moved,
  .static yL_moved,
  .initialized RL,
  .methodLink RL 181 yL_gained,
  .static yL_gained,
  .static yL_gained,
  .methodLink RL 184 yL_ranks,
  .static yL_ranks,
  .static yL_ranks,
  .methodLink RL 187 yL_lines,
  .static yL_lines,
  .static yL_lines,
  .methodLink RL 190 yL_undone,
  .static yL_undone,
  .static yL_undone,
  .methodLink RL 173 yL_drawn,
  .static yL_drawn,
  .static yL_drawn]
theorem lr81_in : ∀ w ∈ lr81W, w ∈ lw_tbl := by decide +kernel
theorem lr81 (k : Nat) {w : Jvm.Cond} (h : lr81W[k]? = some w) : w ∈ lw_tbl := lr81_in w (List.mem_of_getElem? h)
set_option maxRecDepth 20000 in
theorem cw81_moved : lw_tbl[731]? = some (Jvm.Cond.code yL_moved method_37_code 14 (some .boolean)) := rfl
set_option maxRecDepth 20000 in
theorem cw81_gained : lw_tbl[865]? = some (Jvm.Cond.code yL_gained method_39_code 9 (some .boolean)) := rfl
set_option maxRecDepth 20000 in
theorem cw81_ranks : lw_tbl[903]? = some (Jvm.Cond.code yL_ranks method_40_code 13 (some .boolean)) := rfl
set_option maxRecDepth 20000 in
theorem cw81_lines : lw_tbl[982]? = some (Jvm.Cond.code yL_lines method_43_code 5 (some .boolean)) := rfl
set_option maxRecDepth 20000 in
theorem cw81_undone : lw_tbl[1318]? = some (Jvm.Cond.code yL_undone method_45_code 11 (some .boolean)) := rfl
set_option maxRecDepth 20000 in
theorem cw81_drawn : lw_tbl[60]? = some (Jvm.Cond.code yL_drawn method_32_code 10 (some (.object "FerryDraughts"))) := rfl
theorem law_rest {p : Program} {e : Env} {s : State} {m : MethodId} {b : Nat} {below : List Frame} {meth : Method} {c : Code} {H : Heap} {locs : List Loc} {ls : Array Slot} {cl sl : Nat} {τ : SZ} {h : List (Nat → Int)} (F : FL D A ad adV cA p l s m #[.ref b] c code 2) (hr : meth.sig.returnType = ret) (hlocks : meth.locks = false) (hA : ∀ q, A q → s.heap.size ≤ q) (C1 : CV 6000 τ h) (hcl : cl ≤ 200) (hsl : sl ≤ 2700) (hl : lv_has ls 2 [(1, .ref (ad 0)), (0, .ref (ad 99))]) (hw : WV D A s (wO ad cA (sz τ) ++ []) H locs) : W p l e room_1 s m #[.ref b] below meth c H locs cl sl (lw_Z below #[.ref b] s) (F0 m 5 ls []) := by
  have hx := F.1
  have hb := F.2.1
  have hn := C1.1.1.n
  refine lv_aload_n hx hb (k := 1) (i := 1) (x := ad 0) (by decide +kernel) rfl (lv_at hl 0 rfl) ?_
  refine lv_ifnull hx hb (off := 43) (by decide +kernel) ?_
  refine lv_aload_n hx hb (k := 1) (i := 1) (x := ad 0) (by decide +kernel) rfl (lv_at hl 0 rfl) ?_
  refine lk_call (x := 177) (rest := []) (as := [.ref (ad 0)]) (n := 1) F hw hl.1 (K_moved F.l0 C1 (N := (cel (τ 4) 107).toNat) (Int.toNat_of_nonneg hn.1).symm (by omega)) (lr81 0 rfl) (lr81 1 rfl) (List.mem_of_getElem? cw81_moved) (lr81 3 rfl) ⟨rfl, by decide, by decide, by decide +kernel⟩ rfl ⟨Nat.le_of_ble_eq_true rfl, Nat.le_of_ble_eq_true rfl, (by show _ ≤ 744074; omega), (by show _ ≤ 6860875; omega)⟩ (Nat.le_of_ble_eq_true rfl) (by decide +kernel) rfl (fun v9 V9 hG H locs hw => ?_)
  obtain ⟨rfl, rfl⟩ := hG
  refine W.eq (g2 := F0 m 13 ls [.int (iI 1)]) rfl ?_
  refine lz_if_eq hx hb (a := 1) (off := 36) (tgt := 49) (by decide +kernel) (by decide) ⟨by decide, by decide⟩ (fun h9 => absurd h9 (by decide)) (fun _ => ?_)
  refine lv_aload_n hx hb (k := 1) (i := 1) (x := ad 0) (by decide +kernel) rfl (lv_at hl 0 rfl) ?_
  refine lk_call (x := 181) (rest := []) (as := [.ref (ad 0)]) (n := 1) F hw hl.1 (K_gained (X := []) F.l0 C1 rfl (N := (cel (τ 4) 107).toNat) (Int.toNat_of_nonneg hn.1).symm (by omega)) (lr81 4 rfl) (lr81 5 rfl) (List.mem_of_getElem? cw81_gained) (lr81 3 rfl) ⟨rfl, by decide, by decide, by decide +kernel⟩ rfl ⟨Nat.le_of_ble_eq_true rfl, Nat.le_of_ble_eq_true rfl, (by show _ ≤ 744074; omega), (by show _ ≤ 6860875; omega)⟩ (Nat.le_of_ble_eq_true rfl) (by decide +kernel) rfl (fun v9 V9 hG H locs hw => ?_)
  obtain ⟨τ2, h2, rfl, rfl, e2, C2⟩ := hG
  have hn2 := C2.1.1.n
  refine W.eq (g2 := F0 m 20 ls [.int (iI 1)]) rfl ?_
  refine lz_if_eq hx hb (a := 1) (off := 29) (tgt := 49) (by decide +kernel) (by decide) ⟨by decide, by decide⟩ (fun h9 => absurd h9 (by decide)) (fun _ => ?_)
  refine lv_aload_n hx hb (k := 1) (i := 1) (x := ad 0) (by decide +kernel) rfl (lv_at hl 0 rfl) ?_
  refine lk_call (x := 184) (rest := []) (as := [.ref (ad 0)]) (n := 1) F hw hl.1 (K_ranks (X := []) F.l0 C2.1 (N := (cel (τ2 4) 107).toNat) (Int.toNat_of_nonneg hn2.1).symm) (lr81 7 rfl) (lr81 8 rfl) (List.mem_of_getElem? cw81_ranks) (lr81 3 rfl) ⟨rfl, by decide, by decide, by decide +kernel⟩ rfl ⟨Nat.le_of_ble_eq_true rfl, Nat.le_of_ble_eq_true rfl, (by show _ ≤ 744074; omega), (by show _ ≤ 6860875; omega)⟩ (Nat.le_of_ble_eq_true rfl) (by decide +kernel) rfl (fun v9 V9 hG H locs hw => ?_)
  obtain ⟨rfl, rfl⟩ := hG
  refine W.eq (g2 := F0 m 27 ls [.int (iI 1)]) rfl ?_
  refine lz_if_eq hx hb (a := 1) (off := 22) (tgt := 49) (by decide +kernel) (by decide) ⟨by decide, by decide⟩ (fun h9 => absurd h9 (by decide)) (fun _ => ?_)
  refine lv_aload_n hx hb (k := 1) (i := 1) (x := ad 0) (by decide +kernel) rfl (lv_at hl 0 rfl) ?_
  refine lk_call (x := 187) (rest := []) (as := [.ref (ad 0)]) (n := 1) F hw hl.1 (K_lines (X := []) F.l0 C2 rfl (N := (cel (τ2 4) 107).toNat) (Int.toNat_of_nonneg hn2.1).symm) (lr81 10 rfl) (lr81 11 rfl) (List.mem_of_getElem? cw81_lines) (lr81 3 rfl) ⟨rfl, by decide, by decide, by decide +kernel⟩ rfl ⟨Nat.le_of_ble_eq_true rfl, Nat.le_of_ble_eq_true rfl, (by show _ ≤ 744074; omega), (by show _ ≤ 6860875; omega)⟩ (Nat.le_of_ble_eq_true rfl) (by decide +kernel) rfl (fun v9 V9 hG H locs hw => ?_)
  obtain ⟨τ3, h3, rfl, rfl, e3, C3⟩ := hG
  refine W.eq (g2 := F0 m 34 ls [.int (iI 1)]) rfl ?_
  refine lz_if_eq hx hb (a := 1) (off := 15) (tgt := 49) (by decide +kernel) (by decide) ⟨by decide, by decide⟩ (fun h9 => absurd h9 (by decide)) (fun _ => ?_)
  refine lv_aload_n hx hb (k := 0) (i := 0) (x := ad 99) (by decide +kernel) rfl (lv_at hl 1 rfl) ?_
  refine lv_aload_n hx hb (k := 1) (i := 1) (x := ad 0) (by decide +kernel) rfl (lv_at hl 0 rfl) ?_
  refine lk_call (x := 190) (rest := []) (as := [.ref (ad 99), .ref (ad 0)]) (n := 2) F hw hl.1 (K_undone F.l0 C3 (by omega)) (lr81 13 rfl) (lr81 14 rfl) (List.mem_of_getElem? cw81_undone) (lr81 3 rfl) ⟨rfl, by decide, by decide, by decide +kernel⟩ rfl ⟨Nat.le_of_ble_eq_true rfl, Nat.le_of_ble_eq_true rfl, (by show _ ≤ 744074; omega), (by show _ ≤ 6860875; omega)⟩ (Nat.le_of_ble_eq_true rfl) (by decide +kernel) rfl (fun v9 V9 hG H locs hw => ?_)
  have e9 : v9 = some (.int (iI 1)) := hG
  subst e9
  refine W.eq (g2 := F0 m 42 ls [.int (iI 1)]) rfl ?_
  refine lz_if_eq hx hb (a := 1) (off := 7) (tgt := 49) (by decide +kernel) (by decide) ⟨by decide, by decide⟩ (fun h9 => absurd h9 (by decide)) (fun _ => ?_)
  refine lv_iconst hx hb (n := 1) (v := iI 1) (by decide +kernel) rfl ?_
  refine lv_goto hx hb (off := 4) (tgt := 50) (by decide +kernel) (by decide) ?_
  refine va_forget (fun q hq => hA _ (hw.2.2.2.2 q hq)) ?_
  refine W.widen (k := 744074) (n := 6860875) (by omega) (by omega) ?_
  refine W.base ?_
  exact lw_ret (Drawn.sameBut.refl s.drawn lw_cs) hx hb hr hlocks (by decide +kernel)
theorem whole_start {p : Program} {e : Env} {s : State} {m : MethodId} {below : List Frame} {meth : Method} {c : Code} (l : Launch) (hflags : l.flags = flags0) {b L : Nat} {xs : Nat → Int32} (hL : L ≤ 260) (C0 : lw_At p s m meth c b L xs) : W p l e room_1 s m #[Value.ref b] below meth c s.heap [] 0 0 (lw_Z below #[Value.ref b] s) (entryFrame m ([Value.ref b] : List Value).toArray 2) := by
  obtain ⟨hx, hb, hr, hml, hown, hts, hX, hbl, hlocks, hgv⟩ := id C0
  have hl0 : l.stackTraces = false := by
    unfold Launch.stackTraces
    rw [hflags]
    decide
  obtain ⟨D, cA, hK⟩ := start_K hts
  obtain ⟨ad, adV, hWX, hJ, e99⟩ := start_WX hL hX hbl hts hgv
  have hN := start_NC hgv
  have htS : ∀ w ∈ TS, w.before #[Value.ref b] s = true := fun w hw => hts w (TS_sub hw)
  have F : FL D (fun q => s.heap.size ≤ q) ad adV cA p l s m #[.ref b] c code 2 := ⟨hx, hb, hml, hown, htS, hK, hWX, fun _ h => h, hN, hJ, hl0⟩
  have hw : WV D (fun q : Nat => s.heap.size ≤ q) s [] s.heap [] := ⟨fun k q h => by simp at h, ⟨fun i j p q h => by simp at h, fun k q h => by simp at h⟩, va_S.rf⟩
  have hl := lv_entry ([.ref b]) (n := 2) (Nat.le_of_ble_eq_true rfl)
  rw [lg_entry_eq]
  generalize (lg_sl ([.ref b]) ++ List.replicate (2 - (lg_sl ([.ref b])).length) Slot.unset).toArray = ls at hl ⊢
  have hl : lv_has ls 2 [(0, .ref (ad 99))] := by rw [e99]; exact hl
  refine lv_aload_n hx hb (k := 0) (i := 0) (x := ad 99) (by decide +kernel) rfl (lv_at hl 0 rfl) ?_
  refine lk_call (x := 173) (rest := []) (as := [.ref (ad 99)]) (n := 1) F hw hl.1 (K_drawn hl0) (lr81 16 rfl) (lr81 17 rfl) (List.mem_of_getElem? cw81_drawn) (lr81 3 rfl) ⟨rfl, by decide, by decide, by decide +kernel⟩ rfl ⟨Nat.le_of_ble_eq_true rfl, Nat.le_of_ble_eq_true rfl, (by show _ ≤ 744074; omega), (by show _ ≤ 6860875; omega)⟩ (Nat.le_of_ble_eq_true rfl) (by decide +kernel) rfl (fun v9 V9 hG H locs hw => ?_)
  obtain ⟨qs, τ, h, rfl, rfl, C1⟩ := hG
  refine W.eq (g2 := F0 m 4 ls [.ref (adL qs ad 0)]) rfl ?_
  refine lv_astore_n hx hb (k := 1) (i := 1) (lv' := [(1, .ref (adL qs ad 0)), (0, .ref (ad 99))]) (by decide +kernel) rfl hl (by decide) rfl (fun ls hl => ?_)
  have hl9 : lv_has ls 2 [(1, .ref (adL qs ad 0)), (0, .ref (adL qs ad 99))] := hl
  exact law_rest (F.adL (qs := qs)) hr hlocks (fun _ h => h) C1 (by omega) (by omega) hl9 hw
end LAW
