/-! a text is carried out, or nothing of it; bounds of answers; rows of long arrays: printed by wip/p39/db78.py -/
section RN2
variable {l : Launch} {D : va_G} {A : Nat → Prop} {ad adV : Nat → Nat} {cA : Nat → ClassId}
theorem o_runs2 {B : Int} {τ : SZ} {h : List (Nat → Int)} (C : CV B τ h) (hB : B + 100 ≤ 100000000) : ∃ (r : RSZ) (k : Int) (τ' : SZ), RZ 9 m7_run [.inl 0] τ r ∧ REz ["java/lang/IllegalArgumentException", "java/lang/UnsupportedOperationException"] r ∧ ansK id ks_runs r = (k, τ') ∧ OP B τ h k τ' ∧ (-20 ≤ k ∧ k ≤ 20) := by
  obtain ⟨hI, hH, hX, hT5, h9, ⟨⟨b2', b3⟩, b6⟩, hL⟩ := C
  have hp := rdl_pr (n := τ 16 1) (f := τ 17) b2'.1 13 0 (τ 18) [] (Int.le_refl 0) b2'.1 b6 (fun m hm => absurd hm (by simp)) (fun m hm => absurd hm (by simp))
  have e0 : ((([] : List (Int × List Int)).length : Nat) : Int) = 0 := rfl
  rw [e0] at hp
  obtain ⟨r1, r2, r3, r4, r5, r6⟩ := hp
  generalize hP : prl (τ 16 1) (τ 17) 13 0 [] = pr at r1 r2 r3 r5 r6
  have h13 : pr.2.2.length ≤ 13 := by simpa using r6
  have s18 : rns τ 18 = (rdl (τ 16 1) (τ 17) 13 0 0 (τ 18)).2.2.2 := rfl
  have s3 : rns τ 16 3 = (rdl (τ 16 1) (τ 17) 13 0 0 (τ 18)).2.2.1 := rfl
  have eo : rdo (τ 16 1) (τ 17) (τ 18) = rdl (τ 16 1) (τ 17) 13 0 0 (τ 18) := rfl
  have hol : ∀ i : Nat, i < pr.2.2.length → 0 ≤ odw (rns τ 18) i 0 ∧ odw (rns τ 18) i 0 ≤ 5 := fun i hi => by
    have q := r5 i hi
    rw [s18]
    show 0 ≤ (rdl (τ 16 1) (τ 17) 13 0 0 (τ 18)).2.2.2 ((i : Int) * 4 + 0).toNat ∧ (rdl (τ 16 1) (τ 17) 13 0 0 (τ 18)).2.2.2 ((i : Int) * 4 + 0).toNat ≤ 5
    rw [show ((i : Int) * 4 + 0).toNat = i * 4 from by omega, q.2.1]
    exact q.1
  have hx2 : 0 ≤ τ 14 2 ∧ τ 14 2 ≤ 8 := by have q := hH.2.1; have q2 := hH.2.2.1; omega
  have c := c_run (τ := τ) (M := pr.2.2.length) hI (by omega) ⟨b2', b3⟩ (by rw [eo, r1]; split; exact Or.inr rfl; exact Or.inl rfl) (by rw [s3, r3]) h13 (by rw [s18]; exact r4) hol hT5 hH.1 hx2
  have C1 : CV B (rns τ) h := ⟨hI, hH.of rfl rfl, hX, hT5, h9, ⟨⟨⟨show (0 : Int) ≤ 0 by decide, show (0 : Int) ≤ 60 by decide⟩, b3⟩, by rw [s18]; exact r4⟩, hL⟩
  by_cases hq : (rdo (τ 16 1) (τ 17) (τ 18)).1 = 0
  · rw [if_pos hq] at c
    exact ⟨_, -1, rns τ, c, Or.inr ⟨0, _, _, rfl, rfl⟩, ansK_x kof_0, OP.no' C1 rfl, by decide⟩
  · rw [if_neg hq] at c
    obtain ⟨x1, x2⟩ := rnl_iv (od := rns τ 18) pr.2.2.length 0 (τ 4) B hI (by omega)
    generalize rnl (rns τ 18) pr.2.2.length 0 (τ 4) = x at c x1 x2
    have C5 : CV B (zr (rns τ) 5 x.2.2) h := C1.t5 x1.1.tz
    rcases x2 with x2 | x2 | x2
    · have hc : rnr (rns τ) (rns τ 18) x (pr.2.2.length : Int) = .inl (some (.inr (pr.2.2.length : Int)), zr (hkp (zr (rns τ) 5 x.2.2)) 4 x.2.2) := by
        unfold rnr
        rw [if_neg (by omega), if_neg (by omega)]
      rw [hc] at c
      refine ⟨_, (pr.2.2.length : Int), _, c, Or.inl ⟨_, _, rfl⟩, rfl, Or.inr ⟨by omega, ?_⟩, by omega, by omega⟩
      have q := C5.done (B' := B + 100) (c' := x.2.2) (by omega) hB (x1.mono (by omega) hB)
      exact q
    · have hc : rnr (rns τ) (rns τ 18) x (pr.2.2.length : Int) = .inr ("java/lang/IllegalArgumentException", zr (rns τ) 5 x.2.2) := by
        unfold rnr
        rw [if_neg (by omega), if_pos x2]
      rw [hc] at c
      exact ⟨_, -1, _, c, Or.inr ⟨0, _, _, rfl, rfl⟩, ansK_x kof_0, OP.no' C5 rfl, by decide⟩
    · have hc : ∃ σ : SZ, rnr (rns τ) (rns τ 18) x (pr.2.2.length : Int) = .inr ("java/lang/UnsupportedOperationException", σ) ∧ CV B σ h ∧ σ 4 = τ 4 ∧ σ 16 1 = 0 := by
        unfold rnr
        rw [if_pos x2]
        refine ⟨_, rfl, C5.rsW.rpa, ?_, ?_⟩
        · show rsW (zr (rns τ) 5 x.2.2) x.2.2 (odw (rns τ 18) x.2.1 0) (odw (rns τ 18) x.2.1 1) (odw (rns τ 18) x.2.1 2) (odw (rns τ 18) x.2.1 3) 4 = τ 4
          rw [rsW_at ⟨by decide, by decide, by decide⟩]
          rfl
        · show rsW (zr (rns τ) 5 x.2.2) x.2.2 (odw (rns τ 18) x.2.1 0) (odw (rns τ 18) x.2.1 1) (odw (rns τ 18) x.2.1 2) (odw (rns τ 18) x.2.1 3) 16 1 = 0
          rw [rsW_at ⟨by decide, by decide, by decide⟩]
          rfl
      obtain ⟨σ, e1, e2, e3, e4⟩ := hc
      rw [e1] at c
      exact ⟨_, -2, σ, c, Or.inr ⟨1, _, _, rfl, rfl⟩, ansK_x (kof_1 (by decide)), OP.no' e2 e3, by decide⟩
theorem L_runs2 {B : Int} {τ : SZ} {h : List (Nat → Int)} (C : CV B τ h) (hB : B + 100 ≤ 100000000) : ∃ (k : Int) (τ' : SZ), OP B τ h k τ' ∧ (-20 ≤ k ∧ k ≤ 20) ∧ ∀ {l : Launch} {D : va_G} {A : Nat → Prop} {ad adV : Nat → Nat} {cA : Nat → ClassId} {X : va_W} (_ : l.stackTraces = false), LK l D A ad adV cA (.codeWith yL_runs method_28_code 2 (some .int) [(0, 4, 5, 14), (0, 4, 8, 16)]) yL_runs 22 1 6 [.ref (ad 0)] (wO ad cA (sz τ) ++ X) (RV ad cA X k τ') := by
  obtain ⟨r, k, τ', h1, h2, h3, h4, h5⟩ := o_runs2 C hB
  exact ⟨k, τ', h4, h5, fun {l D A ad adV cA X} hl0 => (w_runs hl0 (h1.mono (show 9 ≤ 12 by decide)) h2).rv h3⟩

theorem OP.cast {B : Int} {τ1 τ : SZ} {h : List (Nat → Int)} {k : Int} {τ' : SZ} (H : OP B τ1 h k τ') (e : τ1 4 = τ 4) : OP B τ h k τ' := by
  unfold OP at H ⊢
  rw [e] at H
  exact H
theorem a_ferry_b {B : Int} {c : Nat → Int} (hS : Sh B c) (x p q : Int) : -20 ≤ A_ferry c x p q ∧ A_ferry c x p q ≤ 20 := by
  have h := hS.n
  unfold A_ferry
  (repeat' split) <;> omega
theorem a_tug_b {c : Nat → Int} (r p : Int) : -20 ≤ A_tug c r p ∧ A_tug c r p ≤ 20 := by
  have h : 0 ≤ tgs (swh c r p 8) r ∧ tgs (swh c r p 8) r ≤ ((12 : Nat) : Int) := sm_01 (fun k _ => by have q := @b2_or (whz (swh c r p 8) r (k : Int) = 8) _; omega)
  unfold A_tug
  (repeat' split) <;> omega
theorem a_lock_b {B : Int} {c : Nat → Int} (hS : Sh B c) (r p v : Int) : -20 ≤ A_lock c r p v ∧ A_lock c r p v ≤ 20 := by
  by_cases hr : 0 ≤ r ∧ r < 2
  · have h := hS.us (p := p) hr
    unfold A_lock
    (repeat' split) <;> omega
  · have h1 : obL c r p v = 1 := by
      unfold obL
      rw [if_pos (fun q => hr q.1)]
    unfold A_lock
    rw [if_pos h1]
    omega
theorem a_fog_b {B : Int} {c : Nat → Int} (hS : Sh B c) (r p v : Int) : -20 ≤ A_fog c r p v ∧ A_fog c r p v ≤ 20 := by
  by_cases hr : 0 ≤ r ∧ r < 2
  · have h := hS.fw hr
    unfold A_fog
    (repeat' split) <;> omega
  · have h1 : obG c r p v = 1 := by
      unfold obG
      rw [if_pos (fun q => hr q.1)]
    unfold A_fog
    rw [if_pos h1]
    omega
theorem a_pass_b {B : Int} {c : Nat → Int} (hI : Iv B c) (hB : B + 1 ≤ 100000000) : -20 ≤ A_pass c ∧ A_pass c ≤ 20 := by
  have h := (hI.psT hB).1.tu
  unfold A_pass
  split <;> omega
theorem a_move_b {B : Int} {c : Nat → Int} (hI : Iv B c) (hB : B + 7 ≤ 100000000) {f r s : Int} : -20 ≤ (if obM c f r s = 1 then (-11 : Int) else if obM c f r s = 3 then -1 else mkp c f r s) ∧ (if obM c f r s = 1 then (-11 : Int) else if obM c f r s = 3 then -1 else mkp c f r s) ≤ 20 := by
  by_cases h1 : obM c f r s = 1
  · rw [if_pos h1]; omega
  · by_cases h3 : obM c f r s = 3
    · rw [if_neg h1, if_pos h3]; omega
    · have h0 : obM c f r s = 0 := by have := @obM_in c f r s; omega
      have q := obM_ok h0
      have g := mkp_in hI q.1 q.2.1 q.2.2 hB
      rw [if_neg h1, if_neg h3]
      omega
theorem U_move {B : Int} {τ : SZ} {h : List (Nat → Int)} {f r g : Int} (C : CV B τ h) (hB : B + 100 ≤ 100000000) (hf : Rng f) (hr : Rng r) (hg : g = 0 ∨ g = 1) : ∃ (k : Int) (τ' : SZ), OP B τ h k τ' ∧ (-20 ≤ k ∧ k ≤ 20) ∧ ∀ {l : Launch} {D : va_G} {A : Nat → Prop} {ad adV : Nat → Nat} {cA : Nat → ClassId} {X : va_W} (_ : l.stackTraces = false), LK l D A ad adV cA (.codeWith yL_move method_7_code 5 (some .int) [(0, 7, 8, 22), (0, 7, 13, 16)]) yL_move 22 1 6 [.ref (ad 0), .int (iI f), .int (iI r), .int (iI g)] (wO ad cA (sz τ) ++ X) (RV ad cA X k τ') := by
  rcases hg with rfl | rfl
  · exact ⟨_, _, o_move_0 C hB f r, a_move_b C.1 (by omega), fun {l D A ad adV cA X} hl0 => L_move_0 hl0 hf hr C.1 (by omega) C.h1 C.h2⟩
  · exact ⟨_, _, o_move_1 C hB f r, a_move_b C.1 (by omega), fun {l D A ad adV cA X} hl0 => L_move_1 hl0 hf hr C.1 (by omega) C.h1 C.h2⟩
/-- the sum of a row -/
def SU (c : Nat → Int) : Int64 := sumv c (cel c 107).toNat
/-- the sums that are kept are those of the rows, the latest first -/
def KS (g : Nat → Int64) : List (Nat → Int) → Prop
  | [] => True
  | c :: t => g t.length = SU c ∧ KS g t
theorem KS.upd {g : Nat → Int64} {x : Int64} : ∀ {ks : List (Nat → Int)} {i : Nat}, KS g ks → ks.length ≤ i → KS (vp_updL g i x) ks
  | [], _, _, _ => trivial
  | c :: t, i, h, hi => by
    rw [List.length_cons] at hi
    refine ⟨?_, KS.upd h.2 (by omega)⟩
    unfold vp_updL
    rw [if_neg (by omega)]
    exact h.1
theorem KS.push {g : Nat → Int64} {ks : List (Nat → Int)} {c : Nat → Int} (h : KS g ks) : KS (vp_updL g ks.length (SU c)) (c :: ks) := ⟨if_pos rfl, h.upd (Nat.le_refl _)⟩
theorem tk_push {c : Nat → Int} {ks t : List (Nat → Int)} (h : ks.length ≤ 7) : (c :: (ks ++ t)).take 8 = (c :: ks) ++ t.take (7 - ks.length) := by
  rw [List.take_succ_cons, List.take_append, List.take_of_length_le h]
  rfl
abbrev XL (cA : Nat → ClassId) (q : Nat) (g : Nat → Int64) : va_W := [(q, .inl (cA 2, 9, .inr (.inl g)))]
end RN2
section LGR
variable {p : Program} {l : Launch} {e : Env} {R : Room} {s : State} {m : MethodId} {args : Array Value} {below : List Frame} {meth : Method} {c : Code} {H : Heap} {locs : List Loc} {cells slots : Nat} {Q : State → Prop}
variable {D : va_G} {A : Nat → Prop} {ad adV : Nat → Nat} {cA : Nat → ClassId} {bc : ByteArray} {nL pc : Nat} {ls : Array Slot} {rest : List Value}
theorem lg_ast {σ : Sg} {q i : Nat} {g : Nat → Int64} {z : Int} {x : Int64} (F : FL D A ad adV cA p l s m args c bc nL) (hw : WV D A s (wO ad cA σ ++ XL cA q g) H locs) (hz : z = (i : Int)) (hi : i < 9) (hd : decode bc pc = .ok (.lastore, 1))
    (kk : ∀ (H1 : Heap) (locs1 : List Loc), WV D A s (wO ad cA σ ++ XL cA q (vp_updL g i x)) H1 locs1 → W p l e R s m args below meth c H1 locs1 cells slots Q (F0 m (pc + 1) ls rest)) : W p l e R s m args below meth c H locs cells slots Q (F0 m pc ls (.long x :: .int (iI z) :: .ref q :: rest)) := by
  subst hz
  obtain ⟨h1, h2⟩ := iI_in (z := (i : Int)) (n := 9) ⟨by omega, by omega⟩ (by omega)
  rw [Int.toNat_natCast] at h2
  refine va_last F.1 F.2.1 F.2.2.2.2.2.1 hw.1 hw.2.1 hw.2.2 (21 + 0) 2 (wOX_get (j := 0) rfl) rfl h1 hd (fun H1 locs1 a1 a2 a3 => ?_)
  rw [wOX_set, h2] at a1 a2
  exact kk H1 locs1 ⟨a1, a2, a3⟩
theorem lg_ald {σ : Sg} {q i : Nat} {g : Nat → Int64} {z : Int} (F : FL D A ad adV cA p l s m args c bc nL) (hw : WV D A s (wO ad cA σ ++ XL cA q g) H locs) (hz : z = (i : Int)) (hi : i < 9) (hd : decode bc pc = .ok (.laload, 1))
    (kk : W p l e R s m args below meth c H locs cells slots Q (F0 m (pc + 1) ls (.long (g i) :: rest))) : W p l e R s m args below meth c H locs cells slots Q (F0 m pc ls (.int (iI z) :: .ref q :: rest)) := by
  subst hz
  obtain ⟨h1, h2⟩ := iI_in (z := (i : Int)) (n := 9) ⟨by omega, by omega⟩ (by omega)
  rw [Int.toNat_natCast] at h2
  refine va_lald F.1 F.2.1 F.2.2.2.2.2.1 hw.1 (21 + 0) 2 (wOX_get (j := 0) rfl) rfl h1 hd ?_
  rw [h2]
  exact kk
theorem lg_new {σ : Sg} (F : FL D A ad adV cA p l s m args c bc nL) (hw : WV D A s (wO ad cA σ ++ []) H locs) (hc : cells + 1 ≤ R.cells) (hs : slots + 9 ≤ R.slots) (hd : decode bc pc = .ok (.newarray .long, 2))
    (kk : ∀ (q : Nat) (H1 : Heap), WV D A s (wO ad cA σ ++ XL cA q (fun _ => 0)) H1 locs → W p l e R s m args below meth c H1 locs (cells + 1) (slots + 9) Q (F0 m (pc + 2) ls (.ref q :: rest))) : W p l e R s m args below meth c H locs cells slots Q (F0 m pc ls (.int (iI 9) :: rest)) := by
  refine va_newa (atype := .long) (ty := .long) (N' := 9) (a0 := (9, .inr (.inl (fun _ => 0)))) F.1 F.2.1 (ts_of' F.2.2.2.2.1 (show Jvm.Cond.arrayClass .long ∈ lw_tbl by decide +kernel) rfl) rfl F.2.2.2.2.2.1 hw.1 hw.2.1 hw.2.2 F.2.2.2.2.2.2.2.1 (fun c9 => rfl) (by decide) (by decide) (Nat.le_of_ble_eq_true rfl) hc hs hd (fun q c9 H1 k1 k2 k3 k4 => ?_)
  have e9 := cA_same (t := 2) F.2.2.2.2.2.1 rfl (by intro C h; cases h) k1
  subst e9
  rw [List.append_nil] at k2 k3
  exact kk q H1 ⟨k2, k3, k4⟩
end LGR
section RN3
variable {l : Launch} {D : va_G} {A : Nat → Prop} {ad adV : Nat → Nat} {cA : Nat → ClassId}
def lr78W : List Jvm.Cond := [.methodLink RL 128 yL_runs,
  .static yL_runs,
  .codeWith yL_runs method_28_code 2 (some .int) [(0, 4, 5, 14), (0, 4, 8, 16)],
  .initialized RL,
  .methodLink RL 123 yL_append,
  .static yL_append,
  .codeWith yL_append method_27_code 3 (some .int) [(0, 5, 6, 104)]]
theorem lr78_in : ∀ w ∈ lr78W, w ∈ lw_tbl := by decide +kernel
theorem lr78 (k : Nat) {w : Jvm.Cond} (h : lr78W[k]? = some w) : w ∈ lw_tbl := lr78_in w (List.mem_of_getElem? h)
theorem K_run {X T : va_W} {τ : SZ} {h : List (Nat → Int)} {B : Int} {q v : Nat} {TL : List Int} (hl0 : l.stackTraces = false) (C : CV B τ h) (hB : B + 100 ≤ 100000000) (ht : TX ad adV cA T q v TL) (h40 : TL.length ≤ 40) : LK l D A ad adV cA (.code yL_run method_31_code 3 (some .int)) yL_run 23 60 360 [.ref (ad 0), .ref q] (wO ad cA (sz τ) ++ (X ++ T)) (fun v V' => ∃ (k : Int) (τ' : SZ), OP B τ h k τ' ∧ (-20 ≤ k ∧ k ≤ 20) ∧ v = some (.int (iI k)) ∧ V' = wO ad cA (sz τ') ++ (X ++ T)) := by
  refine lk_of hl0 rfl ?_ (Nat.le_of_ble_eq_true rfl)
  rintro p e s m args below meth c F hlk hrt hw ls hl
  have hl : lv_has ls 3 [(0, .ref (ad 0)), (1, .ref q)] := hl
  have hx := F.1
  have hb := F.2.1
  have hok := ht.ok
  refine lv_iconst hx hb (n := 0) (v := iI 0) (by decide +kernel) rfl ?_
  refine lv_istore_n hx hb (k := 2) (i := 2) (lv' := [(2, .int (iI 0)), (0, .ref (ad 0)), (1, .ref q)]) (by decide +kernel) rfl hl (by decide) rfl (fun ls hl => ?_)
  have loop : ∀ (j k : Nat) (z : Int) (τ1 : SZ) (ls : Array Slot) (H : Heap) (locs : List Loc) (cl sl : Nat), k + j = TL.length → z = (k : Int) → CV B τ1 h → τ1 4 = τ 4 → cl ≤ k → sl ≤ 6 * k → lv_has ls 3 [(2, .int (iI z)), (0, .ref (ad 0)), (1, .ref q)] → WV D A s (wO ad cA (sz τ1) ++ (X ++ T)) H locs → W p l e (rmK 23 60 360) s m args below meth c H locs cl sl (vx_MQ below (LQ D A (fun v V' => ∃ (k : Int) (τ' : SZ), OP B τ h k τ' ∧ (-20 ≤ k ∧ k ≤ 20) ∧ v = some (.int (iI k)) ∧ V' = wO ad cA (sz τ') ++ (X ++ T))) (fun _ _ _ => False) args s 60 360 A) (F0 m 2 ls []) := by
    intro j
    induction j with
    | zero =>
      intro k z τ1 ls H locs cl sl hk hz C1 e1 hcl hsl hl hw
      refine lv_iload_n hx hb (k := 2) (i := 2) (x := iI z) (by decide +kernel) rfl (lv_at hl 0 rfl) ?_
      refine lv_aload_n hx hb (k := 1) (i := 1) (x := q) (by decide +kernel) rfl (lv_at hl 2 rfl) ?_
      refine sl_len F hw hl.1 ht (fun x hx => List.mem_append_right _ (List.mem_append_right _ hx)) ⟨by decide, by decide, by show _ ≤ 60; omega, by show _ ≤ 360; omega⟩ (Nat.le_of_ble_eq_true rfl) (by decide +kernel) (fun H locs hw => ?_)
      refine lz_icmp_ge hx hb (a := z) (b := (TL.length : Int)) (off := 27) (tgt := 34) (by decide +kernel) (by decide) ⟨by omega, by omega⟩ ⟨by omega, by omega⟩ (fun _ => ?_) (fun h9 => absurd (by omega) h9)
      refine lv_aload_n hx hb (k := 0) (i := 0) (x := ad 0) (by decide +kernel) rfl (lv_at hl 1 rfl) ?_
      obtain ⟨k9, τ9, hop, hkb, hlk9⟩ := L_runs2 C1 hB
      refine lk_callH (x := 128) (rest := []) (as := [.ref (ad 0)]) (n := 1) F hw hl.1 (hlk9 F.l0) (lr78 0 rfl) (lr78 1 rfl) (lr78 2 rfl) (lr78 3 rfl) ⟨by decide, by decide, by decide +kernel⟩ rfl ⟨Nat.le_of_ble_eq_true rfl, Nat.le_of_ble_eq_true rfl, (by show _ ≤ 60; omega), (by show _ ≤ 360; omega)⟩ (Nat.le_of_ble_eq_true rfl) (by decide +kernel) rfl (fun v9 V9 hG H locs hw => ?_)
      obtain ⟨rfl, rfl⟩ := hG
      refine W.eq (g2 := F0 m 38 ls [.int (iI k9)]) rfl ?_
      exact lk_iret F hlk hrt hw rfl ⟨_, _, hop.cast e1, hkb, rfl, rfl⟩ (by omega) (by omega) (by decide +kernel)
    | succ j ih =>
      intro k z τ1 ls H locs cl sl hk hz C1 e1 hcl hsl hl hw
      subst hz
      have hcb := hok.1 _ (getD_in (L := TL) (k := k) (by omega))
      have h60 := C1.2.2.2.2.2.1.1.1
      by_cases h6 : τ1 16 1 = 60
      ·
        refine lv_iload_n hx hb (k := 2) (i := 2) (x := iI (k : Int)) (by decide +kernel) rfl (lv_at hl 0 rfl) ?_
        refine lv_aload_n hx hb (k := 1) (i := 1) (x := q) (by decide +kernel) rfl (lv_at hl 2 rfl) ?_
        refine sl_len F hw hl.1 ht (fun x hx => List.mem_append_right _ (List.mem_append_right _ hx)) ⟨by decide, by decide, by show _ ≤ 60; omega, by show _ ≤ 360; omega⟩ (Nat.le_of_ble_eq_true rfl) (by decide +kernel) (fun H locs hw => ?_)
        refine lz_icmp_ge hx hb (a := (k : Int)) (b := (TL.length : Int)) (off := 27) (tgt := 34) (by decide +kernel) (by decide) ⟨by omega, by omega⟩ ⟨by omega, by omega⟩ (fun h9 => absurd h9 (by omega)) (fun _ => ?_)
        refine lv_aload_n hx hb (k := 0) (i := 0) (x := ad 0) (by decide +kernel) rfl (lv_at hl 1 rfl) ?_
        refine lv_aload_n hx hb (k := 1) (i := 1) (x := q) (by decide +kernel) rfl (lv_at hl 2 rfl) ?_
        refine lv_iload_n hx hb (k := 2) (i := 2) (x := iI (k : Int)) (by decide +kernel) rfl (lv_at hl 0 rfl) ?_
        refine sl_chr F hw hl.1 ht (fun x hx => List.mem_append_right _ (List.mem_append_right _ hx)) (i := k) (by omega) (by omega) ⟨by decide, by decide, by show _ ≤ 60; omega, by show _ ≤ 360; omega⟩ (Nat.le_of_ble_eq_true rfl) (by decide +kernel) (fun H locs hw => ?_)
        refine lk_callH (x := 123) (rest := []) (as := [.ref (ad 0), .int (iI (TL.getD k 0))]) (n := 2) F hw hl.1 ((L_append (τ := τ1) (c := TL.getD k 0) F.l0 (by omega) C1.2.2.2.2.2.1.1).to (k' := (-14)) (if_pos h6)) (lr78 4 rfl) (lr78 5 rfl) (lr78 6 rfl) (lr78 3 rfl) ⟨by decide, by decide, by decide +kernel⟩ rfl ⟨Nat.le_of_ble_eq_true rfl, Nat.le_of_ble_eq_true rfl, (by show _ ≤ 60; omega), (by show _ ≤ 360; omega)⟩ (Nat.le_of_ble_eq_true rfl) (by decide +kernel) rfl (fun v9 V9 hG H locs hw => ?_)
        obtain ⟨rfl, rfl⟩ := hG
        refine W.eq (g2 := F0 m 19 ls [.int (iI (-14))]) rfl ?_
        rw [show S_append τ1 (TL.getD k 0) = τ1 from if_pos h6] at hw
        refine lv_iload_n hx hb (k := 2) (i := 2) (x := iI (k : Int)) (by decide +kernel) rfl (lv_at hl 0 rfl) ?_
        refine lv_iconst hx hb (n := 1) (v := iI 1) (by decide +kernel) rfl ?_
        refine lz_iadd hx hb (a := (k : Int)) (b := 1) (by decide +kernel) ?_
        refine lz_icmp_eq hx hb (a := (-14)) (b := ((k : Int) + 1)) (off := 6) (tgt := 28) (by decide +kernel) (by decide) ⟨by decide, by decide⟩ ⟨by omega, by omega⟩ (fun h9 => absurd h9 (by omega)) (fun _ => ?_)
        refine lv_bipush hx hb (n := (-9)) (v := iI (-9)) (by decide +kernel) (by decide) ?_
        exact lk_iret F hlk hrt hw rfl ⟨_, _, (OP.no C1 (by decide)).cast e1, by decide, rfl, rfl⟩ (by omega) (by omega) (by decide +kernel)
      ·
        refine lv_iload_n hx hb (k := 2) (i := 2) (x := iI (k : Int)) (by decide +kernel) rfl (lv_at hl 0 rfl) ?_
        refine lv_aload_n hx hb (k := 1) (i := 1) (x := q) (by decide +kernel) rfl (lv_at hl 2 rfl) ?_
        refine sl_len F hw hl.1 ht (fun x hx => List.mem_append_right _ (List.mem_append_right _ hx)) ⟨by decide, by decide, by show _ ≤ 60; omega, by show _ ≤ 360; omega⟩ (Nat.le_of_ble_eq_true rfl) (by decide +kernel) (fun H locs hw => ?_)
        refine lz_icmp_ge hx hb (a := (k : Int)) (b := (TL.length : Int)) (off := 27) (tgt := 34) (by decide +kernel) (by decide) ⟨by omega, by omega⟩ ⟨by omega, by omega⟩ (fun h9 => absurd h9 (by omega)) (fun _ => ?_)
        refine lv_aload_n hx hb (k := 0) (i := 0) (x := ad 0) (by decide +kernel) rfl (lv_at hl 1 rfl) ?_
        refine lv_aload_n hx hb (k := 1) (i := 1) (x := q) (by decide +kernel) rfl (lv_at hl 2 rfl) ?_
        refine lv_iload_n hx hb (k := 2) (i := 2) (x := iI (k : Int)) (by decide +kernel) rfl (lv_at hl 0 rfl) ?_
        refine sl_chr F hw hl.1 ht (fun x hx => List.mem_append_right _ (List.mem_append_right _ hx)) (i := k) (by omega) (by omega) ⟨by decide, by decide, by show _ ≤ 60; omega, by show _ ≤ 360; omega⟩ (Nat.le_of_ble_eq_true rfl) (by decide +kernel) (fun H locs hw => ?_)
        refine lk_callH (x := 123) (rest := []) (as := [.ref (ad 0), .int (iI (TL.getD k 0))]) (n := 2) F hw hl.1 ((L_append (τ := τ1) (c := TL.getD k 0) F.l0 (by omega) C1.2.2.2.2.2.1.1).to (k' := τ1 16 1 + 1) (if_neg h6)) (lr78 4 rfl) (lr78 5 rfl) (lr78 6 rfl) (lr78 3 rfl) ⟨by decide, by decide, by decide +kernel⟩ rfl ⟨Nat.le_of_ble_eq_true rfl, Nat.le_of_ble_eq_true rfl, (by show _ ≤ 60; omega), (by show _ ≤ 360; omega)⟩ (Nat.le_of_ble_eq_true rfl) (by decide +kernel) rfl (fun v9 V9 hG H locs hw => ?_)
        obtain ⟨rfl, rfl⟩ := hG
        refine W.eq (g2 := F0 m 19 ls [.int (iI (τ1 16 1 + 1))]) rfl ?_
        rw [show S_append τ1 (TL.getD k 0) = tad τ1 (TL.getD k 0) from if_neg h6] at hw
        have C2 := C1.tad (c := TL.getD k 0) (by omega) h6
        refine lv_iload_n hx hb (k := 2) (i := 2) (x := iI (k : Int)) (by decide +kernel) rfl (lv_at hl 0 rfl) ?_
        refine lv_iconst hx hb (n := 1) (v := iI 1) (by decide +kernel) rfl ?_
        refine lz_iadd hx hb (a := (k : Int)) (b := 1) (by decide +kernel) ?_
        refine lz_icmp_eq hx hb (a := (τ1 16 1 + 1)) (b := ((k : Int) + 1)) (off := 6) (tgt := 28) (by decide +kernel) (by decide) ⟨by omega, by omega⟩ ⟨by omega, by omega⟩ (fun h2 => ?_) (fun h2 => ?_)
        ·
          refine lv_iinc hx hb (i := 2) (n := 1) (v := iI ((k : Int) + 1)) (lv' := [(2, .int (iI ((k : Int) + 1))), (0, .ref (ad 0)), (1, .ref q)]) (by decide +kernel) hl (k := 0) rfl (iI_add _ _) (by decide) rfl (fun ls hl => ?_)
          refine lv_goto hx hb (off := (-29)) (tgt := 2) (by decide +kernel) (by decide) ?_
          exact ih (k + 1) _ _ ls _ _ _ _ (by omega) (by omega) C2 e1 (by omega) (by omega) (lv_sub hl [0, 1, 2] rfl) hw
        ·
          refine lv_bipush hx hb (n := (-9)) (v := iI (-9)) (by decide +kernel) (by decide) ?_
          exact lk_iret F hlk hrt hw rfl ⟨_, _, (OP.no C2 (by decide)).cast e1, by decide, rfl, rfl⟩ (by omega) (by omega) (by decide +kernel)
  exact loop TL.length 0 0 τ ls _ _ _ _ (by omega) rfl C rfl (by omega) (by omega) (lv_sub hl [0, 1, 2] rfl) hw
end RN3
