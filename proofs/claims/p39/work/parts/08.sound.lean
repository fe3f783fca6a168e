/-! what a run answers, the method answers: branches, calls, the whole -/
section SO
variable {p : Program} {l : Launch} {e : Env} {R : Room} {s : State} {m : MethodId} {args : Array Value} {below : List Frame} {meth : Method} {c : Code} {H : Heap} {locs : List Loc} {cells slots : Nat} {Q : State → Prop}
variable {D : va_G} {A : Nat → Prop} {ad adV : Nat → Nat} {cA : Nat → ClassId}
theorem br_of {i : Nat} {f : FS} {P : Prop} {ct cf : FS} (h : br i f = some (P, ct, cf)) :
    (∃ pc cd off len is L x st σ t, f = ((pc, .ifCond cd off, len) :: is, L, .inr x :: st, σ) ∧ (pc : Int) + off = ((t : Nat) : Int) ∧ P = brC cd x 0 ∧ ct = (seek t (mK i), L, st, σ) ∧ cf = (is, L, st, σ)) ∨
    (∃ pc cd off len is L x y st σ t, f = ((pc, .if_icmp cd off, len) :: is, L, .inr y :: .inr x :: st, σ) ∧ (pc : Int) + off = ((t : Nat) : Int) ∧ P = brC cd x y ∧ ct = (seek t (mK i), L, st, σ) ∧ cf = (is, L, st, σ)) := by
  unfold br at h
  split at h
  next pc cd off len is L x st σ =>
    split at h
    next t hz => cases h; exact Or.inl ⟨pc, cd, off, len, is, L, x, st, σ, t, rfl, hz, rfl, rfl, rfl⟩
    next => cases h
  next pc cd off len is L y x st σ =>
    split at h
    next t hz => cases h; exact Or.inr ⟨pc, cd, off, len, is, L, x, y, st, σ, t, rfl, hz, rfl, rfl, rfl⟩
    next => cases h
  next => cases h
set_option maxHeartbeats 1000000 in
/-- a branch -/
theorem br_ok {i : Nat} (hi : i < NM) (F : FR D A ad adV cA p s m args meth c i) {f : FS} {P : Prop} {ct cf : FS} (h : br i f = some (P, ct, cf)) (hs : f.1 <:+ mK i) {pc : Nat} {ls : Array Slot} (hpc : ∀ e is', f.1 = e :: is' → e.1 = pc)
    (hst : ct.2 = cf.2 ∧ ct.2.1 = f.2.1 ∧ ct.2.2.2 = f.2.2.2 → True)
    (kt : P → ∀ pc', ct.1 = seek pc' (mK i) → W p l e R s m args below meth c H locs cells slots Q (F0 m pc' ls (ct.2.2.1.map (vv ad))))
    (kf : ¬ P → ∀ pc', (∃ e0, e0.1 = pc ∧ pc' = pc + e0.2.2 ∧ f.1 = e0 :: cf.1) → W p l e R s m args below meth c H locs cells slots Q (F0 m pc' ls (cf.2.2.1.map (vv ad)))) :
    W p l e R s m args below meth c H locs cells slots Q (F0 m pc ls (f.2.2.1.map (vv ad))) := by
  obtain ⟨⟨hx, hb, hml, hown, hts⟩, -, hK, hWX⟩ := F
  rcases br_of h with ⟨pc0, cd, off, len, is, L, x, st, σ, t, rfl, hz, rfl, rfl, rfl⟩ | ⟨pc0, cd, off, len, is, L, x, y, st, σ, t, rfl, hz, rfl, rfl, rfl⟩
  · have e0 : pc0 = pc := hpc _ _ rfl
    subst e0
    have z := mdec hi (sfx_mem hs)
    cases Nat.eq_of_beq_eq_true (show Nat.beq len 3 = true from (k_fact hi).1 _ (sfx_mem hs))
    have k1 := fun q => kt q t rfl
    have k2 := fun q => kf q (pc0 + 3) ⟨_, rfl, rfl, rfl⟩
    cases cd with
    | eq => exact lv_if_eq hx hb z hz k1 k2
    | ne => exact lv_if_ne hx hb z hz k1 (fun q => k2 (fun r => r q))
    | lt => exact lv_if_lt hx hb z hz k1 k2
    | ge => exact lv_if_ge hx hb z hz k1 k2
    | gt => exact lv_if_gt hx hb z hz k1 k2
    | le => exact lv_if_le hx hb z hz k1 k2
  · have e0 : pc0 = pc := hpc _ _ rfl
    subst e0
    have z := mdec hi (sfx_mem hs)
    cases Nat.eq_of_beq_eq_true (show Nat.beq len 3 = true from (k_fact hi).1 _ (sfx_mem hs))
    have k1 := fun q => kt q t rfl
    have k2 := fun q => kf q (pc0 + 3) ⟨_, rfl, rfl, rfl⟩
    cases cd with
    | eq => exact lv_icmp_eq hx hb z hz k1 k2
    | ne => exact lv_icmp_ne hx hb z hz k1 (fun q => k2 (fun r => r q))
    | lt => exact lv_icmp_lt hx hb z hz k1 k2
    | ge => exact lv_icmp_ge hx hb z hz k1 k2
    | gt => exact lv_icmp_gt hx hb z hz k1 k2
    | le => exact lv_icmp_le hx hb z hz k1 k2
theorem cll_of {i : Nat} {f : FS} {j : Nat} {as : List VV} {g : FS} (h : cll i f = some (j, as, g)) :
    (∃ pc x len is L st σ q a rest fs, f = ((pc, .invokevirtual x, len) :: is, L, st, σ) ∧ vT (mC i) x = some (j, q) ∧ st.drop (mN j) = .inl a :: rest ∧ SH[a]? = some (.inl (mC j, fs)) ∧ mS j = false ∧ (st.take (mN j)).length = mN j ∧ rest.length ≤ 8 ∧ as = .inl a :: (st.take (mN j)).reverse ∧ g = (is, L, rest, σ)) ∨
    (∃ pc x len is L st σ q, f = ((pc, .invokestatic x, len) :: is, L, st, σ) ∧ vT (mC i) x = some (j, q) ∧ mS j = true ∧ (st.take (mN j)).length = mN j ∧ (st.drop (mN j)).length ≤ 8 ∧ as = (st.take (mN j)).reverse ∧ g = (is, L, st.drop (mN j), σ)) := by
  unfold cll at h
  split at h
  next pc x len is L st σ =>
    split at h
    next j' q hv =>
      split at h
      next a rest hd =>
        split at h
        next ci fs hsh =>
          cases e : (Nat.beq ci (mC j') && (!(mS j') && (Nat.beq (st.take (mN j')).length (mN j') && Nat.ble rest.length 8))) with
          | true =>
            rw [e] at h
            cases h
            simp only [Bool.and_eq_true, Bool.not_eq_true'] at e
            obtain ⟨e1, e2, e3, e4⟩ := e
            cases Nat.eq_of_beq_eq_true e1
            exact Or.inl ⟨pc, x, len, is, L, st, σ, q, a, rest, fs, rfl, hv, hd, hsh, e2, Nat.eq_of_beq_eq_true e3, Nat.le_of_ble_eq_true e4, rfl, rfl⟩
          | false => rw [e] at h; cases h
        next => cases h
      next => cases h
    next => cases h
  next pc x len is L st σ =>
    split at h
    next j' q hv =>
      cases e : (mS j' && (Nat.beq (st.take (mN j')).length (mN j') && Nat.ble (st.drop (mN j')).length 8)) with
      | true =>
        rw [e] at h
        cases h
        simp only [Bool.and_eq_true] at e
        obtain ⟨e2, e3, e4⟩ := e
        exact Or.inr ⟨pc, x, len, is, L, st, σ, q, rfl, hv, e2, Nat.eq_of_beq_eq_true e3, Nat.le_of_ble_eq_true e4, rfl, rfl⟩
      | false => rw [e] at h; cases h
    next => cases h
  next => cases h
theorem good_ws {j : Nat} : GoodIn TS (Jvm.Cond.code (mY j) (mB j) (mL j) (mR j) :: TS) ↔ Jvm.Cond.code (mY j) (mB j) (mL j) (mR j) ∈ TS := by
  refine ⟨fun h => (h _ List.mem_cons_self).1, fun h w hw => ?_⟩
  rcases List.mem_cons.mp hw with rfl | hw
  · exact good_TS h
  · exact good_TS hw
set_option maxHeartbeats 1000000 in
/-- a call -/
theorem cll_ok {d i : Nat} (hi : i < NM) (F : FR D A ad adV cA p s m args meth c i) (hR : R = rmOf (d + 1) i) {f : FS} {j : Nat} {as : List VV} {g : FS} (h : cll i f = some (j, as, g)) (hs : f.1 <:+ mK i) {pc : Nat} {ls : Array Slot} (hpc : ∀ e is', f.1 = e :: is' → e.1 = pc) (hl : lvL ad ls (mL i) f.2.1)
    (hw : va_P D cls9 (wO ad cA f.2.2.2) H) (hD : va_D A (wO ad cA f.2.2.2)) (hS : va_S A s.heap H locs) {u : Nat} (hu : u + mX j ≤ mX i) {r : RS} (hM : CT l D A ad adV cA d j as f.2.2.2 r) :
    vx_Run p l e R s m args below meth c H locs u (6 * u) (mX j) (6 * mX j) (F0 m pc ls (f.2.2.1.map (vv ad))) (g.2.2.1.map (vv ad)) (QC D A ad cA r (as.map (vv ad)).toArray) (XQ D A ad cA r) A ∧ j < NM ∧ (∃ e0, e0.1 = pc ∧ e0.2.2 = 3 ∧ f.1 = e0 :: g.1) ∧ g.2.1 = f.2.1 ∧ g.2.2.2 = f.2.2.2 := by
  obtain ⟨⟨hx, hb, hml, hown, hts⟩, -, hK, hWX⟩ := F
  obtain ⟨hc9, hcl, -, -⟩ := m_fact hi
  rcases cll_of h with ⟨pc0, x, len, is, L, st, σ, q, a, rest, fs, rfl, hv, hdr, hsh, hst, htk, h8, rfl, rfl⟩ | ⟨pc0, x, len, is, L, st, σ, q, rfl, hv, hst, htk, h8, rfl, rfl⟩
  · have e0 : pc0 = pc := hpc _ _ rfl
    subst e0
    have z := mdec hi (sfx_mem hs)
    cases Nat.eq_of_beq_eq_true (show Nat.beq len 3 = true from (k_fact hi).1 _ (sfx_mem hs))
    have g1 := vT_ok hc9 hv
    simp only [vchk, hst, Bool.and_eq_true, Nat.blt_eq, decide_eq_true_eq, cond_false, Bool.not_eq_true'] at g1
    obtain ⟨hj, g2, g3, g4, g5⟩ := g1
    rw [g4] at g2
    refine ⟨?_, hj, ⟨_, rfl, rfl, rfl⟩, rfl, rfl⟩
    obtain ⟨hc9j, hclj, hnj, hLj⟩ := m_fact hj
    have hcode := m_code hj
    subst hR
    have hstack : (st.map (vv ad)) = ((st.take (mN j)).reverse.map (vv ad)).reverse ++ Value.ref (ad a) :: rest.map (vv ad) := by
      rw [← List.map_reverse, List.reverse_reverse]
      conv => lhs; rw [← List.take_append_drop (mN j) st, hdr, List.map_append]
      rfl
    have hrecv := va_recv hK hw (cq_get hc9j) (wO_get (ad := ad) (cA := cA) (σ := σ) hsh)
    have hcw : CallW (rmOf (d + 1) i) s args (cq (mC i)).1 (mY j).cls x (mY j) (mB j) (mL j) (mR j) (Jvm.Cond.code (mY j) (mB j) (mL j) (mR j) :: TS) (rmOf d j) (mX j) (6 * mX j) (mN j) := by
      refine cwV (mN j) hts ?_ rfl rfl rfl ⟨rfl, ?_, ?_, hnj⟩ ⟨by show d + 8 + 1 ≤ d + 1 + 8; omega, by show 8 + (mL j + 11) + (100 * d + 200) ≤ 100 * (d + 1) + 200; omega⟩
      · intro w hw9
        unfold wsV at hw9
        rcases List.mem_append.mp hw9 with hw9 | hw9
        · simp only [List.mem_cons, List.not_mem_nil, or_false] at hw9
          rcases hw9 with rfl | rfl | rfl | rfl
          · exact good_TS (TS_mem (List.mem_of_getElem? g2) rfl)
          · exact good_TS (TS_mem (List.mem_of_getElem? g3) rfl)
          · exact good_TS (TS_mem (List.mem_of_getElem? g5) rfl)
          · rw [← hclj]; exact good_TS (c_plain hc9j).2.1
        · exact good_ws.mpr hcode w hw9
      · rw [← hclj]; exact (c_handle hc9j).1
      · rw [← hclj]; exact (c_handle hc9j).2
    exact vx_runV (own := (cq (mC i)).1) (Ts := TS) (C := (mY j).cls) (b := ad a) (As := (st.take (mN j)).reverse.map (vv ad)) ⟨hx, hb, hml, hown, hts⟩ hM hcw ⟨WD_blind, by rw [← hclj]; exact hrecv, WD_pre hw hD hK hWX hS⟩ rfl (by rw [List.length_map, List.length_reverse]; exact htk) hl.1 hstack (lv_room (by rw [vv_sum]; exact h8)) z ⟨by show u + mX j ≤ mX i; exact hu, by show 6 * u + 6 * mX j ≤ 6 * mX i; omega⟩
  · have e0 : pc0 = pc := hpc _ _ rfl
    subst e0
    have z := mdec hi (sfx_mem hs)
    cases Nat.eq_of_beq_eq_true (show Nat.beq len 3 = true from (k_fact hi).1 _ (sfx_mem hs))
    have g1 := vT_ok hc9 hv
    simp only [vchk, hst, Bool.and_eq_true, Nat.blt_eq, decide_eq_true_eq, cond_true] at g1
    obtain ⟨hj, g2, g3, g4⟩ := g1
    refine ⟨?_, hj, ⟨_, rfl, rfl, rfl⟩, rfl, rfl⟩
    obtain ⟨hc9j, hclj, hnj, hLj⟩ := m_fact hj
    have hcode := m_code hj
    subst hR
    have hstack : (st.map (vv ad)) = ((st.take (mN j)).reverse.map (vv ad)).reverse ++ (st.drop (mN j)).map (vv ad) := by
      rw [← List.map_reverse, List.reverse_reverse]
      conv => lhs; rw [← List.take_append_drop (mN j) st, List.map_append]
    have hR2 : (rmOf d j).frames + 1 ≤ (rmOf (d + 1) i).frames ∧ 8 + (mL j + 11) + (rmOf d j).locals ≤ (rmOf (d + 1) i).locals := ⟨by show d + 8 + 1 ≤ d + 1 + 8; omega, by show 8 + (mL j + 11) + (100 * d + 200) ≤ 100 * (d + 1) + 200; omega⟩
    have hh : (mY j).cls ≠ "java/lang/invoke/MethodHandle" ∧ (mY j).cls ≠ "java/lang/invoke/VarHandle" := by rw [← hclj]; exact c_handle hc9j
    cases hb9 : q.1 with
    | true =>
      rw [hb9] at g2
      have hl9 := hWX.2.1 _ (List.mem_of_getElem? g2) rfl
      exact vx_runSN (own := (cq (mC i)).1) (Ts := TS) (host := "FerryDraughts") (As := (st.take (mN j)).reverse.map (vv ad)) ⟨hx, hb, hml, hown, hts⟩ hM
        ⟨va_cnB (mN j) hts (good_ws.mpr hcode) rfl rfl rfl hl9 (hts _ (by rw [← hclj]; exact (c_plain hc9j).2.1)) ⟨hh.1, hh.2, hnj⟩ hR2, ts_of hts (List.mem_of_getElem? g3) rfl, trivial⟩
        ⟨WD_blind, WD_pre hw hD hK hWX hS⟩ rfl (by rw [List.length_map, List.length_reverse]; exact htk) hl.1 hstack (lv_room (by rw [vv_sum]; exact h8)) z ⟨by show u + mX j ≤ mX i; exact hu, by show 6 * u + 6 * mX j ≤ 6 * mX i; omega⟩
    | false =>
      rw [hb9] at g2
      simp only [hb9, Bool.false_or, decide_eq_true_eq] at g4
      have hcw : CallB (rmOf (d + 1) i) s args (cq (mC i)).1 x (mY j) (mB j) (mL j) (mR j) (Jvm.Cond.code (mY j) (mB j) (mL j) (mR j) :: TS) (rmOf d j) (mX j) (6 * mX j) (mN j) ∧ (Jvm.Cond.static (mY j)).before args s = true := by
        refine cwS (mN j) hts ?_ rfl rfl rfl ⟨g4, hh.1, hh.2, hnj⟩ hR2
        intro w hw9
        unfold wsS at hw9
        rcases List.mem_append.mp hw9 with hw9 | hw9
        · simp only [List.mem_cons, List.not_mem_nil, or_false] at hw9
          rcases hw9 with rfl | rfl | rfl
          · exact good_TS (TS_mem (List.mem_of_getElem? g2) rfl)
          · exact good_TS (TS_mem (List.mem_of_getElem? g3) rfl)
          · exact good_TS (c_plain hc9).2.1
        · exact good_ws.mpr hcode w hw9
      exact vx_runS (own := (cq (mC i)).1) (Ts := TS) (As := (st.take (mN j)).reverse.map (vv ad)) ⟨hx, hb, hml, hown, hts⟩ hM hcw
        ⟨WD_blind, WD_pre hw hD hK hWX hS⟩ rfl (by rw [List.length_map, List.length_reverse]; exact htk) hl.1 hstack (lv_room (by rw [vv_sum]; exact h8)) z ⟨by show u + mX j ≤ mX i; exact hu, by show 6 * u + 6 * mX j ≤ 6 * mX i; omega⟩
/-- a run -/
theorem run_ok {d i : Nat} (hi : i < NM) (F : FR D A ad adV cA p s m args meth c i) (hR : R = rmOf (d + 1) i) (hl0 : l.stackTraces = false)
    (ih : ∀ j as σ r, RR d j as σ r → CT l D A ad adV cA d j as σ r) : ∀ (n : Nat) (f : FS) (u : Nat) (r : RS), Run (RR d) i n f u r → f.1 <:+ mK i → ∀ (pc : Nat) (ls : Array Slot) (H : Heap) (locs : List Loc), (∀ e is', f.1 = e :: is' → e.1 = pc) → lvL ad ls (mL i) f.2.1 →
      va_P D cls9 (wO ad cA f.2.2.2) H → va_D A (wO ad cA f.2.2.2) → va_S A s.heap H locs → u ≤ mX i →
      W p l e R s m args below meth c H locs u (6 * u) (vx_MQ below (QC D A ad cA r) (XQ D A ad cA r) args s (mX i) (6 * mX i) A) (F0 m pc ls (f.2.2.1.map (vv ad))) := by
  intro n
  induction n with
  | zero => intro f u r h; exact h.elim
  | succ n ihn =>
    intro f u r h hs pc ls H locs hpc hl hw hD hS hu
    have hch := (k_fact hi).2
    rcases h with ⟨P, g, h1, hP, h2⟩ | ⟨P, ct, cf, h1, h2⟩ | ⟨v, h1, h2, h3, rfl⟩ | ⟨E, h1, h2, rfl⟩ | ⟨j, as, is, L, st, σ, h1, h2, rj, h3, h4⟩
    · obtain ⟨is0, L, st, σ⟩ := f
      unfold nx at h1
      split at h1
      next pc0 ins len is L' st' σ' he =>
        cases he
        have e0 : pc0 = pc := hpc _ _ rfl
        subst e0
        have z := mdec hi (sfx_mem hs)
        refine nx_ok hi F (by subst hR; exact ⟨by show 200 ≤ 100 * (d + 1) + 200; omega, by show 8 ≤ d + 1 + 8; omega, hu, Nat.mul_le_mul_left 6 hu⟩) h1 hP z ((k_fact hi).1 _ (sfx_mem hs)) hl hw hD hS ?_
        intro pc' ls' H' locs' hp' hl' hw' hS'
        refine ihn g u r h2 ?_ pc' ls' H' locs' ?_ hl' hw' (wO_D hD) hS' hu
        · rcases hp' with ⟨q1, -⟩ | q1
          · rw [q1]; exact sfx_tail hs
          · rw [q1]; exact seek_sfx _ _
        · intro e9 is9 q9
          rcases hp' with ⟨q1, q2⟩ | q1
          · rw [q1] at q9
            rw [q9] at hs
            rw [q2]
            exact sfx_next hs hch
          · rw [q1] at q9
            exact seek_hd q9
      next => cases h1
    · refine br_ok hi F h1 hs hpc (fun _ => trivial) (fun q pc' q1 => ?_) (fun q pc' q1 => ?_)
      · rcases h2 with ⟨-, h2⟩ | ⟨h2, -⟩
        · have q3 : ct.2.1 = f.2.1 ∧ ct.2.2.2 = f.2.2.2 := by
            rcases br_of h1 with ⟨_, _, _, _, _, _, _, _, _, _, rfl, -, -, rfl, -⟩ | ⟨_, _, _, _, _, _, _, _, _, _, _, rfl, -, -, rfl, -⟩ <;> exact ⟨rfl, rfl⟩
          refine ihn ct u r h2 (by rw [q1]; exact seek_sfx _ _) pc' ls H locs (fun e9 is9 q9 => by rw [q1] at q9; exact seek_hd q9) (by rw [q3.1]; exact hl) (by rw [q3.2]; exact hw) (by rw [q3.2]; exact hD) hS hu
        · exact absurd q h2
      · rcases h2 with ⟨h2, -⟩ | ⟨-, h2⟩
        · exact absurd h2 q
        · have q3 : cf.2.1 = f.2.1 ∧ cf.2.2.2 = f.2.2.2 := by
            rcases br_of h1 with ⟨_, _, _, _, _, _, _, _, _, _, rfl, -, -, -, rfl⟩ | ⟨_, _, _, _, _, _, _, _, _, _, _, rfl, -, -, -, rfl⟩ <;> exact ⟨rfl, rfl⟩
          obtain ⟨e0, p1, p2, p3⟩ := q1
          rw [p3] at hs
          refine ihn cf u r h2 (sfx_tail hs) pc' ls H locs (fun e9 is9 q9 => ?_) (by rw [q3.1]; exact hl) (by rw [q3.2]; exact hw) (by rw [q3.2]; exact hD) hS hu
          rw [q9] at hs
          rw [p2, ← p1]
          exact sfx_next hs hch
    · exact fin_ok (d := d) hi F h1 h2 hs hpc hw hS h3
    · exact thr_ok hi F hR hl0 h1 hs hpc hl hw hS h2
    · have h5 := ih _ _ _ _ h3
      have h6 : σ = f.2.2.2 ∧ L = f.2.1 := by
        rcases cll_of h1 with ⟨_, _, _, _, _, _, _, _, _, _, _, rfl, -, -, -, -, -, -, -, q⟩ | ⟨_, _, _, _, _, _, _, _, rfl, -, -, -, -, -, q⟩ <;> cases q <;> exact ⟨rfl, rfl⟩
      obtain ⟨rfl, rfl⟩ := h6
      obtain ⟨h7, hj, ⟨e0, p1, p2, p3⟩, -, -⟩ := cll_ok hi F hR h1 hs hpc hl hw hD hS h2 h5
      have hs2 := hs
      rw [p3] at hs2
      refine call_ok h7 hS (fun E τ hr ce q9 H1 locs1 k1 k2 k3 k4 k5 => ?_) (fun v τ hr H1 locs1 k1 k2 => ?_)
      · rcases h4 with ⟨v, τ', rfl, -⟩ | ⟨E', τ', rfl, rfl⟩
        · cases hr
        · cases hr
          exact vx_out (fun x hx9 => (F.2.1.2.1 x hx9).elim) F.2.1.1 k3 k4 k5 (fun t ht hA => ⟨rfl, by rw [ht]; exact k1, k2.F ht⟩) k2.2.2 h2 (by omega)
      · rcases h4 with ⟨v', τ', rfl, h4⟩ | ⟨E', τ', rfl, rfl⟩
        · cases hr
          have h8 := ihn _ _ r h4 (sfx_tail hs2) (pc + 3) ls H1 locs1 (fun e9 is9 q9 => by
            have q9 : is = e9 :: is9 := q9
            rw [q9] at hs2
            rw [← p1, ← p2]
            exact sfx_next hs2 hch) hl k1 (wO_D hD) k2 h2
          have e9 : (v.map (vv ad)).toList ++ st.map (vv ad) = (v.toList ++ st).map (vv ad) := by cases v <;> rfl
          have e8 : 6 * u + 6 * mX j = 6 * (u + mX j) := by omega
          show W p l e R s m args below meth c H1 locs1 (u + mX j) (6 * u + 6 * mX j) _ (F0 m (pc + 3) ls ((v.map (vv ad)).toList ++ st.map (vv ad)))
          rw [e9, e8]
          exact h8
        · cases hr
theorem lv_ini {as : List VV} {n : Nat} (h : as.length ≤ n) : lvL ad ((lg_sl (as.map (vv ad)) ++ List.replicate (n - (lg_sl (as.map (vv ad))).length) Slot.unset).toArray) n (as.map some ++ List.replicate (n - as.length) none) := by
  have hsl : ∀ as : List VV, (lg_sl (as.map (vv ad))) = (as.map (fun v => Slot.val (vv ad v))) := by
    intro as
    induction as with
    | nil => rfl
    | cons v as ih =>
      have h1 : lg_sl ((v :: as).map (vv ad)) = (if (vv ad v).category = 2 then [Slot.val (vv ad v), Slot.second] else [Slot.val (vv ad v)]) ++ lg_sl (as.map (vv ad)) := by
        simp [lg_sl]
      rw [h1, vv_cat, ih]
      simp
  have hlen : (lg_sl (as.map (vv ad))).length = as.length := by rw [hsl]; simp
  have h0 := lv_entry (as.map (vv ad)) (n := n) (by rw [hlen]; exact h)
  refine ⟨h0.1, h0.2.1, by simp; omega, fun k v hk => ?_⟩
  by_cases hka : k < as.length
  · rw [List.getElem?_append_left (by simpa using hka), List.getElem?_map] at hk
    cases hv : as[k]? with
    | none => rw [hv] at hk; cases hk
    | some w =>
      rw [hv] at hk
      cases hk
      rw [List.getElem?_toArray, hsl, List.getElem?_append_left (by simpa using hka), List.getElem?_map, hv]
      rfl
  · rw [List.getElem?_append_right (by simpa using Nat.le_of_not_lt hka)] at hk
    have := List.eq_of_mem_replicate (List.mem_of_getElem? hk)
    cases this
/-- WHAT A RUN ANSWERS, THE METHOD ANSWERS -/
theorem sound (hl0 : l.stackTraces = false) : ∀ (d j : Nat) (as : List VV) (σ : Sg) (r : RS), RR d j as σ r → CT l D A ad adV cA d j as σ r := by
  intro d
  induction d with
  | zero => intro j as σ r h; exact h.elim
  | succ d ih =>
    intro i as σ r h
    obtain ⟨hi, hlen, n, hrun⟩ := h
    obtain ⟨hc9, hcl, -, -⟩ := m_fact hi
    refine vx_ofW (cc := mB i) (maxL := mL i) (ret := mR i) (by rw [← hcl]; exact (c_plain hc9).1) rfl ?_
    intro p e s m args below meth c s₁ B hml htab hv
    obtain ⟨rfl, hw, hK, hD, hWX⟩ := hv
    have hts0 := atoms_spec B.pre
    have hown : s.vm.findClass (cq (mC i)).1 = some m.cls := by rw [hcl]; exact findClass_of_methodNamed B.named
    have F : FR D A ad adV cA p s m (as.map (vv ad)).toArray meth c i := ⟨⟨B.exec, B.bytes, hml, hown, fun w hw => hts0 w (List.mem_cons_of_mem _ hw)⟩, ⟨B.notSynchronized, htab, B.returns⟩, hK, hWX⟩
    rw [lg_entry_eq]
    have hl : lvL ad ((lg_sl (as.map (vv ad)) ++ List.replicate (mL i - (lg_sl (as.map (vv ad))).length) Slot.unset).toArray) (mL i) (ini i as) := lv_ini hlen
    exact run_ok (d := d) hi F rfl hl0 ih n (mK i, ini i as, [], σ) 0 r hrun (List.suffix_refl _) 0 _ s.heap [] (fun e9 is9 q9 => k_hd hi q9) hl hw hD va_S.rf (Nat.zero_le _)
end SO
