/-! what a run answers, the method answers: the instruction rows -/
section STP
variable {p : Program} {l : Launch} {e : Env} {R : Room} {s : State} {m : MethodId} {args : Array Value} {below : List Frame} {meth : Method} {c : Code} {H : Heap} {locs : List Loc} {cells slots : Nat} {Q : State → Prop}
variable {D : va_G} {A : Nat → Prop} {ad adV : Nat → Nat} {cA : Nat → ClassId}
/-- the words' fact for one word -/
theorem ts_of {w : Jvm.Cond} (hts : ∀ w ∈ TS, w.before args s = true) (h : w ∈ lw_tbl) (g : goodWord w = true) : w.before args s = true := hts w (TS_mem h g)
theorem va_P_same {σ : Sg} {H1 : Heap} (h : va_P D cls9 (wO ad cA σ) H) (hk : ∀ a : Nat, a < H.size → H1[a]? = H[a]?) : va_P D cls9 (wO ad cA σ) H1 := h.kept fun _ q hq => hk q.1 (h _ q hq).lt
theorem chN {t0 : Nat} {v : Int32} (h : t0 = 1 → vp_nar .char v = v) (e : t0 = 1) : vp_nar .char v = v := h e
set_option maxHeartbeats 4000000 in
/-- one instruction -/
theorem nx_ok {i : Nat} (hi : i < NM) (F : FR D A ad adV cA p s m args meth c i) (hR : 200 ≤ R.locals ∧ 8 ≤ R.frames ∧ cells ≤ R.cells ∧ slots ≤ R.slots)
    {pc len : Nat} {ins : Instr} {is : List CI} {L : List (Option VV)} {st : List VV} {σ : Sg} {P : Option Prop} {d : FS} (hn : nxI i pc is L st σ ins = some (P, d)) (hP : oP P)
    (hd : decode (mB i) pc = .ok (ins, len)) (hlen : lenOk ins len = true) {ls : Array Slot} (hl : lvL ad ls (mL i) L) (hw : va_P D cls9 (wO ad cA σ) H) (hD : va_D A (wO ad cA σ)) (hS : va_S A s.heap H locs)
    (kk : ∀ (pc' : Nat) (ls' : Array Slot) (H' : Heap) (locs' : List Loc), ((d.1 = is ∧ pc' = pc + len) ∨ d.1 = seek pc' (mK i)) → lvL ad ls' (mL i) d.2.1 → va_P D cls9 (wO ad cA d.2.2.2) H' → va_S A s.heap H' locs' →
      W p l e R s m args below meth c H' locs' cells slots Q (F0 m pc' ls' (d.2.2.1.map (vv ad)))) : W p l e R s m args below meth c H locs cells slots Q (F0 m pc ls (st.map (vv ad))) := by
  obtain ⟨⟨hx, hb, hml, hown, hts⟩, -, hK, hWX⟩ := F
  obtain ⟨hc9, -, -, hL20⟩ := m_fact hi
  have hsz : c.maxLocals = ls.size := hml.trans hl.1.symm
  have h1 : ∀ {n : Nat}, Nat.beq len n = true → len = n := fun h => Nat.eq_of_beq_eq_true h
  have sum8 : ∀ {st' : List VV}, st'.length ≤ 8 → ((st'.map (vv ad)).map fun v => v.category).sum ≤ 8 := fun h => by rw [vv_sum]; exact h
  cases ins with
  | iconst n =>
    cases h1 hlen; cases hn
    exact lv_iconst hx hb hd rfl (kk _ ls H locs (Or.inl ⟨rfl, rfl⟩) hl hw hS)
  | bipush n =>
    cases h1 hlen; cases hn
    exact lv_bipush hx hb hd rfl (kk _ ls H locs (Or.inl ⟨rfl, rfl⟩) hl hw hS)
  | sipush n =>
    cases h1 hlen; cases hn
    exact lv_sipush hx hb hd rfl (kk _ ls H locs (Or.inl ⟨rfl, rfl⟩) hl hw hS)
  | iload_n k =>
    cases h1 hlen
    obtain ⟨v, h2, rfl⟩ := psh_of hn
    obtain ⟨x, rfl, h3⟩ := ldI_of h2
    exact lv_iload_n hx hb hd rfl (hl.2.2.2 _ _ h3) (kk _ ls H locs (Or.inl ⟨rfl, rfl⟩) hl hw hS)
  | iload k =>
    cases h1 hlen
    obtain ⟨v, h2, rfl⟩ := psh_of hn
    obtain ⟨x, rfl, h3⟩ := ldI_of h2
    exact lv_iload hx hb hd (hl.2.2.2 _ _ h3) (kk _ ls H locs (Or.inl ⟨rfl, rfl⟩) hl hw hS)
  | aload_n k =>
    cases h1 hlen
    obtain ⟨v, h2, rfl⟩ := psh_of hn
    obtain ⟨x, rfl, h3⟩ := ldA_of h2
    exact lv_aload_n hx hb hd rfl (hl.2.2.2 _ _ h3) (kk _ ls H locs (Or.inl ⟨rfl, rfl⟩) hl hw hS)
  | aload k =>
    cases h1 hlen
    obtain ⟨v, h2, rfl⟩ := psh_of hn
    obtain ⟨x, rfl, h3⟩ := ldA_of h2
    exact lv_aload hx hb hd (hl.2.2.2 _ _ h3) (kk _ ls H locs (Or.inl ⟨rfl, rfl⟩) hl hw hS)
  | istore_n k =>
    cases h1 hlen
    obtain ⟨x, st', L', rfl, h2, rfl⟩ := stI_of hn
    have h3 := stL_lt h2
    rw [hl.2.2.1] at h3
    exact lv_istore_n hx hb hd rfl (lvL_has hl) h3 rfl (fun ls' h' => kk _ ls' H locs (Or.inl ⟨rfl, rfl⟩) (lvL_set hl h2 h') hw hS)
  | istore k =>
    cases h1 hlen
    obtain ⟨x, st', L', rfl, h2, rfl⟩ := stI_of hn
    have h3 := stL_lt h2
    rw [hl.2.2.1] at h3
    exact lv_istore hx hb hd (lvL_has hl) h3 rfl (fun ls' h' => kk _ ls' H locs (Or.inl ⟨rfl, rfl⟩) (lvL_set hl h2 h') hw hS)
  | astore_n k =>
    cases h1 hlen
    obtain ⟨x, st', L', rfl, h2, rfl⟩ := stA_of hn
    have h3 := stL_lt h2
    rw [hl.2.2.1] at h3
    exact lv_astore_n hx hb hd rfl (lvL_has hl) h3 rfl (fun ls' h' => kk _ ls' H locs (Or.inl ⟨rfl, rfl⟩) (lvL_set hl h2 h') hw hS)
  | astore k =>
    cases h1 hlen
    obtain ⟨x, st', L', rfl, h2, rfl⟩ := stA_of hn
    have h3 := stL_lt h2
    rw [hl.2.2.1] at h3
    exact lv_astore hx hb hd (lvL_has hl) h3 rfl (fun ls' h' => kk _ ls' H locs (Or.inl ⟨rfl, rfl⟩) (lvL_set hl h2 h') hw hS)
  | iinc k n =>
    cases h1 hlen
    obtain ⟨x, L', h2, h4, rfl⟩ := inc_of hn
    have h3 := stL_lt h4
    rw [hl.2.2.1] at h3
    obtain ⟨j, hj⟩ := List.getElem?_of_mem (lvl_mem (ad := ad) h2)
    exact lv_iinc hx hb hd (lvL_has hl) hj rfl h3 rfl (fun ls' h' => kk _ ls' H locs (Or.inl ⟨rfl, rfl⟩) (lvL_set hl h4 h') hw hS)
  | iadd =>
    cases h1 hlen
    obtain ⟨y, x, st', rfl, rfl, rfl⟩ := bin_of hn
    exact lv_iadd hx hb hd (kk _ ls H locs (Or.inl ⟨rfl, rfl⟩) hl hw hS)
  | isub =>
    cases h1 hlen
    obtain ⟨y, x, st', rfl, rfl, rfl⟩ := bin_of hn
    exact lv_isub hx hb hd (kk _ ls H locs (Or.inl ⟨rfl, rfl⟩) hl hw hS)
  | imul =>
    cases h1 hlen
    obtain ⟨y, x, st', rfl, rfl, rfl⟩ := bin_of hn
    exact lv_imul hx hb hd (kk _ ls H locs (Or.inl ⟨rfl, rfl⟩) hl hw hS)
  | ixor =>
    cases h1 hlen
    obtain ⟨y, x, st', rfl, rfl, rfl⟩ := bin_of hn
    exact lv_ixor hx hb hd (kk _ ls H locs (Or.inl ⟨rfl, rfl⟩) hl hw hS)
  | idiv =>
    cases h1 hlen
    obtain ⟨y, x, st', rfl, rfl, rfl⟩ := bin_of hn
    exact lv_idiv hx hb hd hP (kk _ ls H locs (Or.inl ⟨rfl, rfl⟩) hl hw hS)
  | irem =>
    cases h1 hlen
    obtain ⟨y, x, st', rfl, rfl, rfl⟩ := bin_of hn
    exact lv_irem hx hb hd hP (kk _ ls H locs (Or.inl ⟨rfl, rfl⟩) hl hw hS)
  | i2c =>
    cases h1 hlen
    match st, hn with
    | .inr x :: st', hn => cases hn; exact lv_i2c hx hb hd rfl (kk _ ls H locs (Or.inl ⟨rfl, rfl⟩) hl hw hS)
    | .inl x :: st', hn => cases hn
    | [], hn => cases hn
  | dup =>
    cases h1 hlen
    match st, hn with
    | v :: st', hn => cases hn; exact lv_dup hx hb hd (vv_cat ad v) (kk _ ls H locs (Or.inl ⟨rfl, rfl⟩) hl hw hS)
    | [], hn => cases hn
  | dup2 =>
    cases h1 hlen
    match st, hn with
    | v :: w :: st', hn => cases hn; exact lv_dup2_11 hx hb hd (vv_cat ad v) (vv_cat ad w) (kk _ ls H locs (Or.inl ⟨rfl, rfl⟩) hl hw hS)
    | [v], hn => cases hn
    | [], hn => cases hn
  | pop =>
    cases h1 hlen
    match st, hn with
    | v :: st', hn => cases hn; exact lv_pop hx hb hd (vv_cat ad v) (kk _ ls H locs (Or.inl ⟨rfl, rfl⟩) hl hw hS)
    | [], hn => cases hn
  | getfield x =>
    cases h1 hlen
    obtain ⟨a, st', ci, k, b, pl, fs, rfl, hf, hsh, hk, rfl⟩ := gfd_of hn
    have f1 := fT_ok hc9 hf
    simp only [fchk, Bool.and_eq_true, Nat.blt_eq, decide_eq_true_eq] at f1
    obtain ⟨g1, g2, g3, g4⟩ := f1
    have hin := c_uws g1
    have he := wO_get (ad := ad) (cA := cA) (σ := σ) hsh
    have hv : ((List.range fs.length).map (fun j => vv ad (fv fs (σ a) j)))[k]? = some (vv ad (fv fs (σ a) k)) := by rw [List.getElem?_map, List.getElem?_range hk]; rfl
    cases b with
    | false => exact va_get (C := (cq ci).1) (T := (cq ci).2.1) (N := (cq ci).2.2) (ref := (cq ci).1) hx hb hts hin hown hK hw a he (cq_get g1) k g2 (ts_of hts (List.mem_of_getElem? g4) rfl) (by rw [g3]; exact fun _ h => h) hv hd (kk _ ls H locs (Or.inl ⟨rfl, rfl⟩) hl hw hS)
    | true => exact va_getN (C := (cq ci).1) (T := (cq ci).2.1) (N := (cq ci).2.2) (ref := (cq ci).1) (host := "FerryDraughts") hx hb hts hin hown hK hw a he (cq_get g1) k g2 (va_Nw.use rfl (hWX.2.1 _ (List.mem_of_getElem? g4) rfl)) (by rw [g3]; exact fun _ h => h) hv hd (kk _ ls H locs (Or.inl ⟨rfl, rfl⟩) hl hw hS)
  | putfield x =>
    cases h1 hlen
    obtain ⟨v, a, st', ci, k, b, pl, fs, rfl, hf, hsh, hk, hpt, rfl⟩ := pfd_of hn
    have f1 := fT_ok hc9 hf
    simp only [fchk, Bool.and_eq_true, Nat.blt_eq, decide_eq_true_eq] at f1
    obtain ⟨g1, g2, g3, g4⟩ := f1
    have hin := c_uws g1
    have hkl : k < fs.length := (List.getElem?_eq_some_iff.mp hk).1
    have he := wO_get (ad := ad) (cA := cA) (σ := σ) hsh
    have hset : (wO ad cA σ).set a (ad a, .inr (ci, ((List.range fs.length).map (fun j => vv ad (fv fs (σ a) j))).set k (.int v))) = wO ad cA (sr σ a (upd (σ a) k v)) := by
      rw [ce_put hk]
      exact wO_set hsh
    have hpk := rg_all pchk_all g1
    simp only [pchk, Bool.and_eq_true] at hpk
    have hp1 : ∃ ty, parseFieldDescriptor ((cq ci).2.1 k).2.2.1 = some ty ∧ ((cq ci).2.1 k).2.2.2 = false ∧ narrow ty (.int v) = .int v ∧ fits ty (.int v) = true := by
      rcases hpt with h0 | ⟨h0, rfl⟩
      · have hk21 : k < 21 := by
          rcases Nat.lt_or_ge k (PTL.getD ci []).length with q | q
          · exact Nat.lt_of_lt_of_le q (by simpa using hpk.2)
          · rw [List.getD_eq_getElem?_getD (l := PTL.getD ci []), List.getElem?_eq_none q] at h0
            cases h0
        have h2 := rg_all hpk.1 hk21
        simp only [h0, Bool.and_eq_true, decide_eq_true_eq, Bool.not_eq_true'] at h2
        exact ⟨.int, h2.1, h2.2, rfl, rfl⟩
      · have hk21 : k < 21 := by
          rcases Nat.lt_or_ge k (PTL.getD ci []).length with q | q
          · exact Nat.lt_of_lt_of_le q (by simpa using hpk.2)
          · rw [List.getD_eq_getElem?_getD (l := PTL.getD ci []), List.getElem?_eq_none q] at h0
            cases h0
        have h2 := rg_all hpk.1 hk21
        simp only [h0, Bool.and_eq_true, decide_eq_true_eq, Bool.not_eq_true'] at h2
        refine ⟨.boolean, h2.1, h2.2, ?_⟩
        rcases hP with hP | hP <;> subst hP <;> exact ⟨by decide, by decide⟩
    obtain ⟨ty, t1, t2, t3, t4⟩ := hp1
    cases b with
    | false => exact va_put (C := (cq ci).1) (T := (cq ci).2.1) (N := (cq ci).2.2) (ref := (cq ci).1) hx hb hts hin (cty ci) (c_ty g1) (c_nm g1) hown hK hw hD hS a he (cq_get g1) k g2 (ts_of hts (List.mem_of_getElem? g4) rfl) (by rw [g3]; exact fun _ h => h) t2 t1 t3 t4 (by simpa using hkl) hd (fun H1 locs1 q1 q2 q3 => kk _ ls H1 locs1 (Or.inl ⟨rfl, rfl⟩) hl (by rw [← hset]; exact q1) q3)
    | true => exact va_putN (C := (cq ci).1) (T := (cq ci).2.1) (N := (cq ci).2.2) (ref := (cq ci).1) (host := "FerryDraughts") hx hb hts hin (cty ci) (c_ty g1) (c_nm g1) hown hK hw hD hS a he (cq_get g1) k g2 (va_Nw.use rfl (hWX.2.1 _ (List.mem_of_getElem? g4) rfl)) (by rw [g3]; exact fun _ h => h) t2 t1 t3 t4 (by simpa using hkl) hd (fun H1 locs1 q1 q2 q3 => kk _ ls H1 locs1 (Or.inl ⟨rfl, rfl⟩) hl (by rw [← hset]; exact q1) q3)
  | iaload =>
    cases h1 hlen
    obtain ⟨x, a, st', n, rfl, hsh, rfl, rfl⟩ := ald_of hn
    exact va_iald hx hb hK hw a 0 (wO_get hsh) rfl hP hd (kk _ ls H locs (Or.inl ⟨rfl, rfl⟩) hl hw hS)
  | caload =>
    cases h1 hlen
    obtain ⟨x, a, st', n, rfl, hsh, rfl, rfl⟩ := ald_of hn
    exact va_cald hx hb hK hw a 1 (wO_get hsh) rfl hP hd (kk _ ls H locs (Or.inl ⟨rfl, rfl⟩) hl hw hS)
  | iastore =>
    cases h1 hlen
    obtain ⟨v, x, a, st', n, rfl, hsh, rfl, rfl⟩ := ast_of hn
    exact va_iast hx hb hK hw hD hS a 0 (wO_get hsh) rfl hP.1 hd (fun H1 locs1 q1 q2 q3 => kk _ ls H1 locs1 (Or.inl ⟨rfl, rfl⟩) hl (by rw [← wO_set hsh]; exact q1) q3)
  | castore =>
    cases h1 hlen
    obtain ⟨v, x, a, st', n, rfl, hsh, rfl, rfl⟩ := ast_of hn
    exact va_cast hx hb hK hw hD hS a 1 (wO_get hsh) rfl hP.1 hd (fun H1 locs1 q1 q2 q3 => kk _ ls H1 locs1 (Or.inl ⟨rfl, rfl⟩) hl (by rw [← wO_set hsh, hP.2 rfl] at *; exact q1) q3)
  | arraylength =>
    cases h1 hlen
    obtain ⟨a, st', t, n, rfl, hsh, rfl⟩ := len_of hn
    have ht := sh_fact hsh
    simp only [shk, Bool.and_eq_true, Nat.ble_eq] at ht
    rcases (show t = 0 ∨ t = 1 by omega) with rfl | rfl
    · exact va_alen hx hb hK hw a 0 (wO_get hsh) rfl rfl hd (kk _ ls H locs (Or.inl ⟨rfl, rfl⟩) hl hw hS)
    · exact va_alen hx hb hK hw a 1 (wO_get hsh) rfl rfl hd (kk _ ls H locs (Or.inl ⟨rfl, rfl⟩) hl hw hS)
  | goto off =>
    cases h1 hlen
    obtain ⟨t, hz, rfl⟩ := jmp_of hn
    exact lv_goto hx hb hd hz (kk t ls H locs (Or.inr rfl) hl hw hS)
  | tableswitch dd lo hii offs =>
    obtain ⟨x, st', z, rfl, hz, hj⟩ := sw_of hn
    obtain ⟨t, hz2, rfl⟩ := jmp_of hj
    unfold swT at hz
    split at hz
    next hc =>
      cases hz
      exact lv_tableOut hx hb hd hc hz2 (kk t ls H locs (Or.inr rfl) hl hw hS)
    next hc =>
      split at hz
      next off ho =>
        cases hz
        exact lv_tableIn hx hb hd (fun q => hc (Or.inl q)) (fun q => hc (Or.inr q)) ho hz2 (kk t ls H locs (Or.inr rfl) hl hw hS)
      next => cases hz
  | lookupswitch dd ps =>
    cases hg : ((ps.toList.zip (ps.toList.drop 1)).all (fun (a, next) => a.1 < next.1)) with
    | false =>
      simp only [nxI, hg] at hn
      cases hn
    | true =>
      simp only [nxI, hg] at hn
      have hn : swS i L σ (swL pc dd ps) st = some (P, d) := hn
      obtain ⟨x, st', z, rfl, hz, hj⟩ := sw_of hn
      obtain ⟨t, hz2, rfl⟩ := jmp_of hj
      unfold swL at hz
      cases hz
      exact lv_lookup hx hb hd hg rfl hz2 (kk t ls H locs (Or.inr rfl) hl hw hS)
  | invokestatic x =>
    cases h1 hlen
    have hn : libS (sT (mC i) x) is L st σ = some (P, d) := hn
    unfold libS at hn
    split at hn
    next pl hs =>
      have g := sT_ok hc9 hs
      obtain ⟨n, dp, b, sp, a, st', n0, n1, rfl, ha, hb1, h8, rfl, rfl⟩ := cpy_of hn
      obtain ⟨z1, z2, z3, z4, z5⟩ := hP
      exact va_copyi hx hb hsz hown (ts_of hts (List.mem_of_getElem? (of_decide_eq_true g)) rfl) (ts_of hts (lib_in _ (by simp)) rfl) (ts_of hts (lib_in _ (by simp)) rfl) (ts_of hts (lib_in _ (by simp)) rfl) hK hw hD hS a b 0 0 (wO_get ha) (wO_get hb1) rfl rfl rfl z1 z2 z3 z4 z5 (fun _ _ => rfl) (by omega)
        (by have h0 : nativeFrameWords "java/lang/System" "arraycopy" 5 + 11 ≤ 100 := by decide
            have h9 := sum8 h8
            omega) hd
        (fun H1 locs1 q1 q2 q3 => kk _ ls H1 locs1 (Or.inl ⟨rfl, rfl⟩) hl (by rw [← wO_set hb1]; exact q1) q3)
    next pl hs =>
      have g := sT_ok hc9 hs
      obtain ⟨y, x', st', rfl, h8, rfl⟩ := mxm_of hn
      have h9 := sum8 h8
      exact va_mmax hx hb hsz hown (ts_of hts (List.mem_of_getElem? (of_decide_eq_true g)) rfl) (ts_of hts (lib_in _ (by simp)) rfl) (ts_of hts (lib_in _ (by simp)) rfl) (ts_of hts (lib_in _ (by simp)) rfl) (by omega) (by omega) hR.2.2.1 hR.2.2.2 hd (kk _ ls H locs (Or.inl ⟨rfl, rfl⟩) hl hw hS)
    next pl hs =>
      have g := sT_ok hc9 hs
      obtain ⟨y, x', st', rfl, h8, rfl⟩ := mxm_of hn
      have h9 := sum8 h8
      exact va_mmin hx hb hsz hown (ts_of hts (List.mem_of_getElem? (of_decide_eq_true g)) rfl) (ts_of hts (lib_in _ (by simp)) rfl) (ts_of hts (lib_in _ (by simp)) rfl) (ts_of hts (lib_in _ (by simp)) rfl) (by omega) (by omega) hR.2.2.1 hR.2.2.2 hd (kk _ ls H locs (Or.inl ⟨rfl, rfl⟩) hl hw hS)
    next => cases hn
  | invokevirtual x =>
    cases h1 hlen
    have hn : libV (sT (mC i) x) is L st σ = some (P, d) := hn
    unfold libV at hn
    split at hn
    next pl hs =>
      have g := sT_ok hc9 hs
      obtain ⟨q, st', rfl, hq, h8, rfl⟩ := sle_of hn
      exact sle_row ⟨hx, hts⟩ hb hown hWX hS hsz.symm (ts_of hts (List.mem_of_getElem? (of_decide_eq_true g)) rfl) hq (sum8 h8) hR hd (fun H1 locs1 q1 q2 q3 => kk _ ls H1 locs1 (Or.inl ⟨rfl, rfl⟩) hl (va_P_same hw q1) q3)
    next pl hs =>
      have g := sT_ok hc9 hs
      obtain ⟨x', q, st', rfl, hq, h8, rfl, rfl⟩ := sch_of hn
      exact sch_row ⟨hx, hts⟩ hb hown hWX hS hsz.symm (ts_of hts (List.mem_of_getElem? (of_decide_eq_true g)) rfl) hq hP (sum8 h8) hR hd (fun H1 locs1 q1 q2 q3 => kk _ ls H1 locs1 (Or.inl ⟨rfl, rfl⟩) hl (va_P_same hw q1) q3)
    next => cases hn
  | ldc x =>
    cases h1 hlen
    obtain ⟨v, h2, rfl⟩ := psh_of hn
    cases h3 : lT (mC i) x with
    | none => rw [h3] at h2; cases h2
    | some q =>
      rw [h3] at h2
      cases h2
      exact va_ldcS hx hb hown (hWX.2.2.1.2 _ _ _ hc9 h3) hd (kk _ ls H locs (Or.inl ⟨rfl, rfl⟩) hl hw hS)
  | _ => cases hn
end STP
