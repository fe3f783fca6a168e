/-! a text is carried out, or nothing of it -/
section RNS
variable {l : Launch} {D : va_G} {A : Nat → Prop} {ad adV : Nat → Nat} {cA : Nat → ClassId}
theorem rnl_iv {od : Nat → Int} : ∀ (j k : Nat) (d : Nat → Int) (B : Int), Iv B d → B + 7 * (j : Int) ≤ 100000000 → Iv (B + 7 * (j : Int)) (rnl od j k d).2.2 ∧ ((rnl od j k d).1 = 0 ∨ (rnl od j k d).1 = 1 ∨ (rnl od j k d).1 = 3)
  | 0, k, d, B, hI, _ => ⟨hI.mono (by omega) (by have := hI.1.B; omega), Or.inl rfl⟩
  | j + 1, k, d, B, hI, hB => by
    have hb := hI.1.B
    unfold rnl
    by_cases h3 : obW d (odw od k 0) (odw od k 1) (odw od k 2) (odw od k 3) = 3
    · rw [if_pos h3]
      exact ⟨hI.mono (by omega) (by omega), Or.inr (Or.inr rfl)⟩
    · rw [if_neg h3]
      by_cases h0 : obW d (odw od k 0) (odw od k 1) (odw od k 2) (odw od k 3) = 0
      · rw [if_neg (fun q => q h0)]
        have q := rnl_iv (od := od) j (k + 1) _ (B + 7) (hI.cao h0 (by omega)) (by omega)
        exact ⟨q.1.mono (by omega) (by omega), q.2⟩
      · rw [if_pos h0]
        exact ⟨hI.mono (by omega) (by omega), Or.inr (Or.inl rfl)⟩
theorem rsW_at {τ : SZ} {c : Nat → Int} {w x y z : Int} {a : Nat} (h : a ≠ 9 ∧ a ≠ 10 ∧ a ≠ 11) : rsW τ c w x y z a = τ a := by
  have k1 : ∀ σ u v, rkp σ u v a = σ a := fun σ u v => by unfold rkp; rw [zr_ne h.1, zr_ne h.2.2, zr_ne h.2.1]
  have k2 : ∀ σ u v, rpa σ u v a = σ a := fun σ u v => by unfold rpa; rw [zr_ne h.1, zr_ne h.2.2, zr_ne h.2.1]
  unfold rsW
  (repeat' split) <;> first | exact k1 _ _ _ | rw [k2, k1]
theorem CV.rsW {B : Int} {τ : SZ} {h : List (Nat → Int)} {c : Nat → Int} {w x y z : Int} (C : CV B τ h) : CV B (Jvm.Pilot.@@N@@.rsW τ c w x y z) h := by
  unfold Jvm.Pilot.@@N@@.rsW
  (repeat' split) <;> first | exact C.rkp | exact C.rkp.rpa
theorem o_runs {B : Int} {τ : SZ} {h : List (Nat → Int)} (C : CV B τ h) (hB : B + 100 ≤ 100000000) : ∃ (r : RSZ) (k : Int) (τ' : SZ), RZ 9 m7_run [.inl 0] τ r ∧ REz ["java/lang/IllegalArgumentException", "java/lang/UnsupportedOperationException"] r ∧ ansK id ks_runs r = (k, τ') ∧ OP B τ h k τ' ∧ τ' 16 1 = 0 := by
  obtain ⟨hI, hH, hX, hT5, h9, ⟨⟨b2', b3⟩, b6⟩, hL⟩ := C
  have hp := rdl_pr (n := τ 16 1) (f := τ 17) b2'.1 13 0 (τ 18) [] (Int.le_refl 0) b2'.1 b6 (fun m hm => absurd hm (by simp)) (fun m hm => absurd hm (by simp))
  have e0 : ((([] : List (Int × List Int)).length : Nat) : Int) = 0 := rfl
  rw [e0] at hp
  obtain ⟨r1, r2, r3, r4, r5, r6⟩ := hp
  generalize hP : prl (τ 16 1) (τ 17) 13 0 [] = pr at r1 r2 r3 r5 r6
  have h13 : pr.2.2.length ≤ 13 := by simpa using r6
  have s18 : rns τ 18 = (rdl (τ 16 1) (τ 17) 13 0 0 (τ 18)).2.2.2 := rfl
  have s3 : rns τ 16 3 = (rdl (τ 16 1) (τ 17) 13 0 0 (τ 18)).2.2.1 := rfl
  have eo : rdo (τ 16 1) (τ 17) (τ 18) = rdl (τ 16 1) (τ 17) 13 0 0 (τ 18) := rfl
  have hol : ∀ i : Nat, i < pr.2.2.length → 0 ≤ odw (rns τ 18) i 0 ∧ odw (rns τ 18) i 0 ≤ 5 := fun i hi => by
    have q := r5 i hi
    rw [s18]
    show 0 ≤ (rdl (τ 16 1) (τ 17) 13 0 0 (τ 18)).2.2.2 ((i : Int) * 4 + 0).toNat ∧ (rdl (τ 16 1) (τ 17) 13 0 0 (τ 18)).2.2.2 ((i : Int) * 4 + 0).toNat ≤ 5
    rw [show ((i : Int) * 4 + 0).toNat = i * 4 from by omega, q.2.1]
    exact q.1
  have hx2 : 0 ≤ τ 14 2 ∧ τ 14 2 ≤ 8 := by have q := hH.2.1; have q2 := hH.2.2.1; omega
  have c := c_run (τ := τ) (M := pr.2.2.length) hI (by omega) ⟨b2', b3⟩ (by rw [eo, r1]; split; exact Or.inr rfl; exact Or.inl rfl) (by rw [s3, r3]) h13 (by rw [s18]; exact r4) hol hT5 hH.1 hx2
  have C1 : CV B (rns τ) h := ⟨hI, hH.of rfl rfl, hX, hT5, h9, ⟨⟨⟨show (0 : Int) ≤ 0 by decide, show (0 : Int) ≤ 60 by decide⟩, b3⟩, by rw [s18]; exact r4⟩, hL⟩
  by_cases hq : (rdo (τ 16 1) (τ 17) (τ 18)).1 = 0
  · rw [if_pos hq] at c
    exact ⟨_, -1, rns τ, c, Or.inr ⟨0, _, _, rfl, rfl⟩, ansK_x kof_0, OP.no' C1 rfl, rfl⟩
  · rw [if_neg hq] at c
    obtain ⟨x1, x2⟩ := rnl_iv (od := rns τ 18) pr.2.2.length 0 (τ 4) B hI (by omega)
    generalize rnl (rns τ 18) pr.2.2.length 0 (τ 4) = x at c x1 x2
    have C5 : CV B (zr (rns τ) 5 x.2.2) h := C1.t5 x1.1.tz
    rcases x2 with x2 | x2 | x2
    · have hc : rnr (rns τ) (rns τ 18) x (pr.2.2.length : Int) = .inl (some (.inr (pr.2.2.length : Int)), zr (hkp (zr (rns τ) 5 x.2.2)) 4 x.2.2) := by
        unfold rnr
        rw [if_neg (by omega), if_neg (by omega)]
      rw [hc] at c
      refine ⟨_, (pr.2.2.length : Int), _, c, Or.inl ⟨_, _, rfl⟩, rfl, Or.inr ⟨by omega, ?_⟩, rfl⟩
      have q := C5.done (B' := B + 100) (c' := x.2.2) (by omega) hB (x1.mono (by omega) hB)
      exact q
    · have hc : rnr (rns τ) (rns τ 18) x (pr.2.2.length : Int) = .inr ("java/lang/IllegalArgumentException", zr (rns τ) 5 x.2.2) := by
        unfold rnr
        rw [if_neg (by omega), if_pos x2]
      rw [hc] at c
      exact ⟨_, -1, _, c, Or.inr ⟨0, _, _, rfl, rfl⟩, ansK_x kof_0, OP.no' C5 rfl, rfl⟩
    · have hc : ∃ σ : SZ, rnr (rns τ) (rns τ 18) x (pr.2.2.length : Int) = .inr ("java/lang/UnsupportedOperationException", σ) ∧ CV B σ h ∧ σ 4 = τ 4 ∧ σ 16 1 = 0 := by
        unfold rnr
        rw [if_pos x2]
        refine ⟨_, rfl, C5.rsW.rpa, ?_, ?_⟩
        · show rsW (zr (rns τ) 5 x.2.2) x.2.2 (odw (rns τ 18) x.2.1 0) (odw (rns τ 18) x.2.1 1) (odw (rns τ 18) x.2.1 2) (odw (rns τ 18) x.2.1 3) 4 = τ 4
          rw [rsW_at ⟨by decide, by decide, by decide⟩]
          rfl
        · show rsW (zr (rns τ) 5 x.2.2) x.2.2 (odw (rns τ 18) x.2.1 0) (odw (rns τ 18) x.2.1 1) (odw (rns τ 18) x.2.1 2) (odw (rns τ 18) x.2.1 3) 16 1 = 0
          rw [rsW_at ⟨by decide, by decide, by decide⟩]
          rfl
      obtain ⟨σ, e1, e2, e3, e4⟩ := hc
      rw [e1] at c
      exact ⟨_, -2, σ, c, Or.inr ⟨1, _, _, rfl, rfl⟩, ansK_x (kof_1 (by decide)), OP.no' e2 e3, e4⟩
theorem L_runs {B : Int} {τ : SZ} {h : List (Nat → Int)} (C : CV B τ h) (hB : B + 100 ≤ 100000000) : ∃ (k : Int) (τ' : SZ), OP B τ h k τ' ∧ τ' 16 1 = 0 ∧ ∀ {l : Launch} {D : va_G} {A : Nat → Prop} {ad adV : Nat → Nat} {cA : Nat → ClassId} {X : va_W} (_ : l.stackTraces = false), LK l D A ad adV cA (.codeWith yL_runs method_28_code 2 (some .int) [(0, 4, 5, 14), (0, 4, 8, 16)]) yL_runs 22 1 6 [.ref (ad 0)] (wO ad cA (sz τ) ++ X) (RV ad cA X k τ') := by
  obtain ⟨r, k, τ', h1, h2, h3, h4, h5⟩ := o_runs C hB
  exact ⟨k, τ', h4, h5, fun {l D A ad adV cA X} hl0 => (w_runs hl0 (h1.mono (show 9 ≤ 12 by decide)) h2).rv h3⟩
end RNS
