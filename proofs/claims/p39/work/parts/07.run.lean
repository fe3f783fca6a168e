/-! what a run answers, the method answers: whole runs -/
section RUN
variable {p : Program} {l : Launch} {e : Env} {R : Room} {s : State} {m : MethodId} {args : Array Value} {below : List Frame} {meth : Method} {c : Code} {H : Heap} {locs : List Loc} {cells slots : Nat} {Q : State → Prop}
variable {D : va_G} {A : Nat → Prop} {ad adV : Nat → Nat} {cA : Nat → ClassId}
theorem chn_tail {x : CI} : ∀ {k : List CI}, chn (x :: k) = true → chn k = true
  | [], _ => rfl
  | y :: ys, h => by
    unfold chn at h
    rw [Bool.and_eq_true] at h
    exact h.2
theorem chn_sfx {a b : CI} {l : List CI} : ∀ {pre k : List CI}, pre ++ (a :: b :: l) = k → chn k = true → b.1 = a.1 + a.2.2
  | [], k, h, hc => by
    subst h
    have hc : chn (a :: b :: l) = true := hc
    unfold chn at hc
    rw [Bool.and_eq_true] at hc
    exact Nat.eq_of_beq_eq_true hc.1
  | x :: pre, k, h, hc => by
    subst h
    exact chn_sfx (pre := pre) rfl (chn_tail (x := x) hc)
theorem sfx_next {a b : CI} {l k : List CI} (h : (a :: b :: l) <:+ k) (hc : chn k = true) : b.1 = a.1 + a.2.2 := by
  obtain ⟨pre, h⟩ := h
  exact chn_sfx h hc
theorem sfx_tail {a : CI} {l k : List CI} (h : (a :: l) <:+ k) : l <:+ k := (List.suffix_cons a l).trans h
theorem sfx_mem {a : CI} {l k : List CI} (h : (a :: l) <:+ k) : a ∈ k := h.subset List.mem_cons_self
theorem seek_sfx (t : Nat) : ∀ k : List CI, seek t k <:+ k
  | [] => List.suffix_refl _
  | e :: l => by
    unfold seek
    cases Nat.beq e.1 t with
    | true => exact List.suffix_refl _
    | false => exact (seek_sfx t l).trans (List.suffix_cons e l)
theorem seek_hd {t : Nat} {e : CI} {is : List CI} : ∀ {k : List CI}, seek t k = e :: is → e.1 = t
  | [], h => nomatch h
  | f :: l, h => by
    unfold seek at h
    cases hb : Nat.beq f.1 t with
    | true =>
      rw [hb] at h
      cases h
      exact Nat.eq_of_beq_eq_true hb
    | false =>
      rw [hb] at h
      exact seek_hd h
theorem good_TS {w : Jvm.Cond} (h : w ∈ TS) : w ∈ TS ∧ ((w.onTables && w.keeps) = true ∨ ∃ ty, w = .arrayClass ty) := ⟨h, good_of_word (TS_good w h)⟩
theorem WD_blind {as : List Value} {σ : Sg} : FrameBlind (va_Pc as (WD D A ad adV cA σ)) := fun a U g mk h =>
  ⟨h.1, h.2.1, va_K.moved (u := U) (U := U.calling g mk a) (State.WarmedH.refl U).alike h.2.2.1, h.2.2.2.1, WX.warm (s := U) (U := U.calling g mk a) (State.WarmedH.refl U) h.2.2.2.2⟩
/-- a callee's start -/
theorem WD_pre {σ : Sg} (hw : va_P D cls9 (wO ad cA σ) H) (hD : va_D A (wO ad cA σ)) (hK : va_K D cls9 [(cA 0, .int), (cA 1, .char)] s) (hWX : WX A ad adV s s.heap) (hS : va_S A s.heap H locs) {as : List Value} : ∀ U : State, U.heap = H → s.WarmedH U.vm → va_Pc as (WD D A ad adV cA σ) as.toArray U := by
  intro U hU hW
  refine ⟨rfl, by rw [hU]; exact hw, va_K.moved hW.alike hK, hD, ?_⟩
  rw [hU]
  exact WX.warm hW (hWX.kept hS.2.1)
/-- behind a call: it has returned, or it throws -/
theorem call_ok {mc ms : Nat} {pc : Nat} {ls : Array Slot} {st0 rest : List Value} {a : Array Value} {r : RS} (hr : vx_Run p l e R s m args below meth c H locs cells slots mc ms (F0 m pc ls st0) rest (QC D A ad cA r a) (XQ D A ad cA r) A) (hS : va_S A s.heap H locs)
    (kx : ∀ (E : String) (τ : Sg), r = .inr (E, τ) → ∀ (ce : Cell) (q9 : Addr) (H1 : Heap) (locs1 : List Loc), va_P D cls9 (wO ad cA τ) H1 → va_S A s.heap H1 locs1 → H1[q9]? = some ce → ce.vm = .none → s.vm.findClass E = some ce.cls → vx_W p l e R s m args below meth c H1 locs1 (cells + mc) (slots + ms) Q (F0 m pc ls rest) q9)
    (kk : ∀ (v : Option VV) (τ : Sg), r = .inl (v, τ) → ∀ (H1 : Heap) (locs1 : List Loc), va_P D cls9 (wO ad cA τ) H1 → va_S A s.heap H1 locs1 → W p l e R s m args below meth c H1 locs1 (cells + mc) (slots + ms) Q (F0 m (pc + 3) ls ((v.map (vv ad)).toList ++ rest))) : W p l e R s m args below meth c H locs cells slots Q (F0 m pc ls st0) := by
  intro T hT X
  rcases hr T hT X with ⟨v, st₀, t, T', L, h0, X', hL, e1, e2, hq, st⟩ | ⟨q, st₀, t, T', L, E, ce, h0, X', hL, e1, e2, hxq, hce, hcv, hcl, st⟩
  · match r, hq with
    | .inl (w, τ), hq =>
      obtain ⟨hv, hw, hF⟩ := hq
      cases hv
      obtain ⟨-, -, k3⟩ := vx_keep (A1 := A) (free := A) h0 e1 hS (fun _ _ h => h) (fun _ h => h) hL hF
      obtain ⟨t2, a1, b1⟩ := kk w τ rfl T'.heap (locs ++ L) (by rw [e1]; exact hw) k3 T' rfl X'
      exact ⟨t2, st t2 a1, b1⟩
  · match r, hxq with
    | .inr (E', τ), hxq =>
      obtain ⟨hE, hw, hF⟩ := hxq
      cases hE
      obtain ⟨-, -, k3⟩ := vx_keep (A1 := A) (free := A) h0 e1 hS (fun _ _ h => h) (fun _ h => h) hL hF
      obtain ⟨t2, a1, b1⟩ := kx E τ rfl ce q T'.heap (locs ++ L) (by rw [e1]; exact hw) k3 (by rw [e1]; exact hce) hcv hcl T' rfl X'
      exact ⟨t2, st.trans a1, b1⟩
theorem fin_of {f : FS} {v : Option VV} (h : fin f = some v) : (∃ pc len is L σ x, f = ((pc, .ireturn, len) :: is, L, [.inr x], σ) ∧ v = some (.inr x)) ∨ (∃ pc len is L σ x, f = ((pc, .areturn, len) :: is, L, [.inl x], σ) ∧ v = some (.inl x)) ∨ (∃ pc len is L σ, f = ((pc, .return_, len) :: is, L, [], σ) ∧ v = none) := by
  unfold fin at h
  split at h
  next pc len is L x σ => cases h; exact Or.inl ⟨pc, len, is, L, σ, x, rfl, rfl⟩
  next pc len is L x σ => cases h; exact Or.inr (Or.inl ⟨pc, len, is, L, σ, x, rfl, rfl⟩)
  next pc len is L σ => cases h; exact Or.inr (Or.inr ⟨pc, len, is, L, σ, rfl, rfl⟩)
  next => cases h
theorem thr_of {i : Nat} {f : FS} {E : String} (h : thr i f = some E) : ∃ pc ik p1 p2 ic p3 is L st σ pl, f = ((pc, .new ik, 3) :: (p1, .dup, 1) :: (p2, .invokespecial ic, 3) :: (p3, .athrow, 1) :: is, L, st, σ) ∧ xT (mC i) ik = some (ic, E, pl) ∧ st.length ≤ 8 := by
  unfold thr at h
  split at h
  next pc ik p1 p2 ic p3 is L st σ =>
    split at h
    next jc E' pl hx =>
      cases e : (Nat.beq ic jc && Nat.ble st.length 8) with
      | true =>
        rw [e] at h
        cases h
        rw [Bool.and_eq_true] at e
        cases Nat.eq_of_beq_eq_true e.1
        exact ⟨pc, ik, p1, p2, ic, p3, is, L, st, σ, pl, rfl, hx, Nat.le_of_ble_eq_true e.2⟩
      | false => rw [e] at h; cases h
    next => cases h
  next => cases h
theorem wrm_tab {w : Jvm.Cond} (h : wrm w = true) : w.onTables = true := by
  match w, h with
  | .fieldLinkNest .., _ => rfl
  | .methodLinkNest .., _ => rfl
  | .declares .., _ => rfl
  | .castable .., _ => rfl
/-- a throw -/
theorem thr_ok {d i : Nat} (hi : i < NM) (F : FR D A ad adV cA p s m args meth c i) (hR : R = rmOf (d + 1) i) (hl0 : l.stackTraces = false) {f : FS} {E : String} (h : thr i f = some E) (hs : f.1 <:+ mK i) {pc : Nat} {ls : Array Slot} (hpc : ∀ e is', f.1 = e :: is' → e.1 = pc) (hl : lvL ad ls (mL i) f.2.1)
    (hw : va_P D cls9 (wO ad cA f.2.2.2) H) (hS : va_S A s.heap H locs) {u : Nat} (hu : u + 1 ≤ mX i) : W p l e R s m args below meth c H locs u (6 * u) (vx_MQ below (QC D A ad cA (.inr (E, f.2.2.2))) (XQ D A ad cA (.inr (E, f.2.2.2))) args s (mX i) (6 * mX i) A) (F0 m pc ls (f.2.2.1.map (vv ad))) := by
  obtain ⟨⟨hx, hb, hml, hown, hts⟩, ⟨hlocks, htab, -⟩, hK, hWX⟩ := F
  obtain ⟨hc9, -, -, -⟩ := m_fact hi
  have hch := (k_fact hi).2
  obtain ⟨pc0, ik, p1, p2, ic, p3, is, L, st, σ, pl, rfl, hxt, h8⟩ := thr_of h
  have e0 : pc0 = pc := hpc _ _ rfl
  subst e0
  have q1 : p1 = pc0 + 3 := sfx_next hs hch
  have s1 := sfx_tail hs
  have q2 : p2 = p1 + 1 := sfx_next s1 hch
  have s2 := sfx_tail s1
  have q3 : p3 = p2 + 3 := sfx_next s2 hch
  have s3 := sfx_tail s2
  have z0 := mdec hi (sfx_mem hs)
  have z1 := mdec hi (sfx_mem s1)
  have z2 := mdec hi (sfx_mem s2)
  have z3 := mdec hi (sfx_mem s3)
  subst q1; subst q2; subst q3
  have g := xT_ok hc9 hxt
  simp only [xchk, Bool.and_eq_true, decide_eq_true_eq] at g
  obtain ⟨g1, g2, g3, g4, g5⟩ := g
  have hat : ∀ w ∈ vx_at0 (cq (mC i)).1 ic E exN, w.before args s = true := by
    intro w hw9
    have h1 := List.all_eq_true.mp g5 w hw9
    simp only [Bool.and_eq_true, Bool.or_eq_true, decide_eq_true_eq] at h1
    rcases h1.2.1 with h2 | h2
    · exact ts_of hts h1.1 h2
    · exact va_Nw.use (wrm_tab h2) (hWX.2.1 w h1.1 h2)
  subst hR
  have hsum : ((st.map (vv ad)).map fun v => v.category).sum ≤ 8 := by rw [vv_sum]; exact h8
  refine vx_throw0 (own := (cq (mC i)).1) (cls := E) (names := exN) (ik := ik) (ic := ic) (A := A) hx hb hl0 hown g3 (fun n hn => List.all_eq_true.mp g4 n hn) (ts_of hts (List.mem_of_getElem? g1) rfl) (ts_of hts g2 rfl) hat ?_ hWX.1.1 hWX.1.2 hS (hl.1.trans hml.symm) z0 z1 z2 z3 (fun x hx9 => (htab x hx9).elim) (by show 2 + 3 < (d + 1) + 8; omega)
    (by show ((st.map (vv ad)).map fun v => v.category).sum + (13 * (2 + 1) + 42) ≤ 100 * (d + 1) + 200; omega) (by show u + 1 ≤ mX i; exact hu) (by show 6 * u + 6 ≤ 6 * mX i; omega) hlocks ?_ hS.2.2 hu (by omega)
  · intro w hw9
    rcases List.mem_cons.mp hw9 with rfl | hw9
    · rfl
    · rcases List.mem_cons.mp hw9 with rfl | hw9
      · rfl
      · have h1 := List.all_eq_true.mp g5 w hw9
        simp only [Bool.and_eq_true] at h1
        exact h1.2.2
  · intro t ht h1 h2
    exact ⟨rfl, va_P_same hw h2, Nat.le_trans hS.1 h1, fun q hq hA => (h2 q (Nat.lt_of_lt_of_le hq hS.1)).trans (hS.2.1 q hq hA)⟩
/-- a return -/
theorem fin_ok {d i : Nat} (hi : i < NM) (F : FR D A ad adV cA p s m args meth c i) {f : FS} {v : Option VV} (h : fin f = some v) (hret : retOk (mR i) v) (hs : f.1 <:+ mK i) {pc : Nat} {ls : Array Slot} (hpc : ∀ e is', f.1 = e :: is' → e.1 = pc)
    (hw : va_P D cls9 (wO ad cA f.2.2.2) H) (hS : va_S A s.heap H locs) {u : Nat} (hu : u ≤ mX i) : W p l e R s m args below meth c H locs u (6 * u) (vx_MQ below (QC D A ad cA (.inl (v, f.2.2.2))) (XQ D A ad cA (.inl (v, f.2.2.2))) args s (mX i) (6 * mX i) A) (F0 m pc ls (f.2.2.1.map (vv ad))) := by
  obtain ⟨⟨hx, hb, hml, hown, hts⟩, ⟨hlocks, htab, hr⟩, hK, hWX⟩ := F
  refine vx_ret (W.widen hu (Nat.mul_le_mul_left 6 hu) ?_)
  rcases fin_of h with ⟨pc0, len, is, L, σ, x, rfl, rfl⟩ | ⟨pc0, len, is, L, σ, x, rfl, rfl⟩ | ⟨pc0, len, is, L, σ, rfl, rfl⟩
  · have e0 : pc0 = pc := hpc _ _ rfl
    subst e0
    obtain ⟨ty, h2, h3⟩ := hret
    have z := mdec hi (sfx_mem hs)
    cases Nat.eq_of_beq_eq_true (show Nat.beq len 1 = true from (k_fact hi).1 _ (sfx_mem hs))
    exact W.zret hx hb (hr.trans h2) h3 (fun t ht hW => ⟨rfl, by rw [ht]; exact hw, hS.F ht⟩) hS.2.2 z hlocks
  · have e0 : pc0 = pc := hpc _ _ rfl
    subst e0
    obtain ⟨n, h2⟩ := hret
    have z := mdec hi (sfx_mem hs)
    cases Nat.eq_of_beq_eq_true (show Nat.beq len 1 = true from (k_fact hi).1 _ (sfx_mem hs))
    exact W.aret hx hb (hr.trans h2) (Or.inl ⟨n, rfl⟩) (Or.inr ⟨ad x, rfl⟩) (fun t ht hW => ⟨rfl, by rw [ht]; exact hw, hS.F ht⟩) hS.2.2 z hlocks
  · have e0 : pc0 = pc := hpc _ _ rfl
    subst e0
    have z := mdec hi (sfx_mem hs)
    cases Nat.eq_of_beq_eq_true (show Nat.beq len 1 = true from (k_fact hi).1 _ (sfx_mem hs))
    exact W.vret hx hb (hr.trans hret) (fun t ht hW => ⟨rfl, by rw [ht]; exact hw, hS.F ht⟩) hS.2.2 z hlocks
end RUN
