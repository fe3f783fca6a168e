/-! each change, done or refused; undone -/
section OPS
/-- what a change leaves: refused, and all as it was; or done, and what was is kept -/
def OP (B : Int) (τ : SZ) (h : List (Nat → Int)) (k : Int) (τ' : SZ) : Prop := (k < 0 ∧ CV B τ' h ∧ τ' 4 = τ 4) ∨ (0 ≤ k ∧ CV (B + 100) τ' ((τ 4 :: h).take 8))
theorem OP.ok {B B' : Int} {τ : SZ} {h : List (Nat → Int)} {c' : Nat → Int} {k : Int} (C : CV B τ h) (hB : B + 100 ≤ 100000000) (hc : Iv B' c') (h1 : B ≤ B') (h2 : B' ≤ B + 100) (hk : 0 ≤ k) : OP B τ h k (zr (hkp τ) 4 c') :=
  Or.inr ⟨hk, C.done (by omega) hB (hc.mono h2 hB)⟩
theorem OP.no {B : Int} {τ : SZ} {h : List (Nat → Int)} {k : Int} (C : CV B τ h) (hk : k < 0) : OP B τ h k τ := Or.inl ⟨hk, C, rfl⟩
theorem OP.no' {B : Int} {τ τ' : SZ} {h : List (Nat → Int)} {k : Int} (C : CV B τ' h) (e : τ' 4 = τ 4) (hk : k < 0 := by decide) : OP B τ h k τ' := Or.inl ⟨hk, C, e⟩
theorem OP.rk {B : Int} {τ : SZ} {h : List (Nat → Int)} {k w d : Int} (C : CV B τ h) (hk : k < 0) : OP B τ h k (rkp τ w d) := Or.inl ⟨hk, C.rkp, rfl⟩
theorem OP.ra {B : Int} {τ : SZ} {h : List (Nat → Int)} {k w d w2 d2 : Int} (C : CV B τ h) (hk : k < 0) : OP B τ h k (rpa (rkp τ w d) w2 d2) := Or.inl ⟨hk, C.rkp.rpa, rfl⟩
theorem o_ferry {B : Int} {τ : SZ} {h : List (Nat → Int)} (C : CV B τ h) (hB : B + 100 ≤ 100000000) (x p q : Int) : OP B τ h (A_ferry (τ 4) x p q) (S_ferry τ x p q) := by
  unfold A_ferry S_ferry
  by_cases h2 : obF (τ 4) x p q = 2
  · rw [if_pos h2, if_pos h2]; exact OP.no C (by decide)
  · rw [if_neg h2, if_neg h2]
    by_cases h3 : obF (τ 4) x p q = 3
    · rw [if_pos h3, if_pos h3]; exact OP.rk C (by decide)
    · rw [if_neg h3, if_neg h3]
      have h0 : obF (τ 4) x p q = 0 := by have := @obF_in (τ 4) x p q; omega
      exact OP.ok C hB (C.1.adf h0 (by omega)) (by omega) (by omega) C.1.1.n.1
theorem o_tug {B : Int} {τ : SZ} {h : List (Nat → Int)} (C : CV B τ h) (hB : B + 100 ≤ 100000000) (r p : Int) : OP B τ h (A_tug (τ 4) r p) (S_tug τ r p) := by
  unfold A_tug S_tug
  by_cases h2 : obT (τ 4) r p = 1
  · rw [if_pos h2, if_pos h2]; exact OP.no C (by decide)
  · rw [if_neg h2, if_neg h2]
    by_cases h3 : obT (τ 4) r p = 3
    · rw [if_pos h3, if_pos h3]; exact OP.rk C (by decide)
    · rw [if_neg h3, if_neg h3]
      have h0 : obT (τ 4) r p = 0 := by have := @obT_in (τ 4) r p; omega
      exact OP.ok C hB (C.1.tug h0) (by omega) (by omega) (sm_01 (fun k _ => by have q := @b2_or (whz (swh (τ 4) r p 8) r (k : Int) = 8) _; omega)).1
theorem o_lock {B : Int} {τ : SZ} {h : List (Nat → Int)} (C : CV B τ h) (hB : B + 100 ≤ 100000000) (r p v : Int) : OP B τ h (A_lock (τ 4) r p v) (S_lock τ r p v) := by
  unfold A_lock S_lock
  by_cases h1 : obL (τ 4) r p v = 1
  · rw [if_pos h1, if_pos h1]; exact OP.no C (by decide)
  · rw [if_neg h1, if_neg h1]
    by_cases h2 : obL (τ 4) r p v = 2
    · rw [if_pos h2, if_pos h2]; exact OP.no C (by decide)
    · rw [if_neg h2, if_neg h2]
      by_cases h3 : obL (τ 4) r p v = 3
      · rw [if_pos h3, if_pos h3]; exact OP.rk C (by decide)
      · rw [if_neg h3, if_neg h3]
        have h0 : obL (τ 4) r p v = 0 := by have := @obL_in (τ 4) r p v; omega
        have hr : 0 ≤ r ∧ r < 2 := by
          refine Decidable.byContradiction fun z => ?_
          unfold obL at h0
          rw [if_pos (fun q => z q.1)] at h0
          omega
        exact OP.ok C hB (C.1.lck h0) (by omega) (by omega) (C.1.1.us hr).1
theorem o_fog {B : Int} {τ : SZ} {h : List (Nat → Int)} (C : CV B τ h) (hB : B + 100 ≤ 100000000) (r p v : Int) : OP B τ h (A_fog (τ 4) r p v) (S_fog τ r p v) := by
  unfold A_fog S_fog
  by_cases h1 : obG (τ 4) r p v = 1
  · rw [if_pos h1, if_pos h1]; exact OP.no C (by decide)
  · rw [if_neg h1, if_neg h1]
    by_cases h2 : obG (τ 4) r p v = 2
    · rw [if_pos h2, if_pos h2]; exact OP.no C (by decide)
    · rw [if_neg h2, if_neg h2]
      by_cases h3 : obG (τ 4) r p v = 3
      · rw [if_pos h3, if_pos h3]; exact OP.rk C (by decide)
      · rw [if_neg h3, if_neg h3]
        have h0 : obG (τ 4) r p v = 0 := by have := @obG_in (τ 4) r p v; omega
        have hr : 0 ≤ r ∧ r < 2 := by
          refine Decidable.byContradiction fun z => ?_
          unfold obG at h0
          rw [if_pos (fun q => z q.1)] at h0
          omega
        exact OP.ok C hB (C.1.fgg h0) (by omega) (by omega) (C.1.1.fw hr).1
theorem o_move {B : Int} {τ : SZ} {h : List (Nat → Int)} (C : CV B τ h) (hB : B + 100 ≤ 100000000) {f r s : Int} (hs : s = 1 ∨ s = -1) : OP B τ h (if obM (τ 4) f r s = 1 then -11 else if obM (τ 4) f r s = 3 then -1 else mkp (τ 4) f r s) (if obM (τ 4) f r s = 1 then τ else if obM (τ 4) f r s = 3 then rpa (rkp τ (ocn (τ 4) f r s) (dtl (τ 4) (ocn (τ 4) f r s) f r s)) 4 f else zr (hkp τ) 4 (mkm (τ 4) f r s)) := by
  by_cases h1 : obM (τ 4) f r s = 1
  · rw [if_pos h1, if_pos h1]; exact OP.no C (by decide)
  · rw [if_neg h1, if_neg h1]
    by_cases h3 : obM (τ 4) f r s = 3
    · rw [if_pos h3, if_pos h3]; exact OP.ra C (by decide)
    · rw [if_neg h3, if_neg h3]
      have h0 : obM (τ 4) f r s = 0 := by have := @obM_in (τ 4) f r s; omega
      have q := obM_ok h0
      exact OP.ok C hB (C.1.mkm q.1 q.2.1 hs q.2.2 (by omega)) (by omega) (by omega) (mkp_in C.1 q.1 q.2.1 q.2.2 (by omega)).1
theorem o_move_0 {B : Int} {τ : SZ} {h : List (Nat → Int)} (C : CV B τ h) (hB : B + 100 ≤ 100000000) (f r : Int) : OP B τ h (A_move_0 (τ 4) f r) (S_move_0 τ f r) := o_move C hB (Or.inr rfl)
theorem o_move_1 {B : Int} {τ : SZ} {h : List (Nat → Int)} (C : CV B τ h) (hB : B + 100 ≤ 100000000) (f r : Int) : OP B τ h (A_move_1 (τ 4) f r) (S_move_1 τ f r) := o_move C hB (Or.inl rfl)
theorem o_pass {B : Int} {τ : SZ} {h : List (Nat → Int)} (C : CV B τ h) (hB : B + 100 ≤ 100000000) : OP B τ h (A_pass (τ 4)) (S_pass τ) := by
  unfold A_pass S_pass
  by_cases h3 : obP (τ 4) = 3
  · rw [if_pos h3, if_pos h3]; exact OP.rk C (by decide)
  · rw [if_neg h3, if_neg h3]
    have hI := C.1.psT (by omega)
    exact OP.ok C hB hI (by omega) (by omega) hI.1.tu.1
theorem o_undo {B : Int} {τ : SZ} {c : Nat → Int} {t : List (Nat → Int)} (C : CV B τ (c :: t)) : (0 ≤ A_undo (τ 4) τ ∧ A_undo (τ 4) τ ≤ 8) ∧ (S_undo τ) 4 = c ∧ CV B (S_undo τ) t := by
  have h3 := C.2.1.2.2.1
  rw [List.length_cons] at h3
  have h2 := C.2.1.2.1
  rw [List.length_cons] at h2
  have h0 : ¬ τ 14 2 = 0 := by omega
  unfold A_undo S_undo
  rw [if_neg h0, if_neg h0]
  exact ⟨⟨by omega, by omega⟩, C.back⟩
theorem CV.h1 {B : Int} {τ : SZ} {h : List (Nat → Int)} (C : CV B τ h) : 0 ≤ τ 14 1 ∧ τ 14 1 < 8 := C.2.1.1
theorem CV.h2 {B : Int} {τ : SZ} {h : List (Nat → Int)} (C : CV B τ h) : 0 ≤ τ 14 2 ∧ τ 14 2 ≤ 8 := by have q := C.2.1.2.1; have q2 := C.2.1.2.2.1; omega
/-- a move that goes -/
theorem st_move {B : Int} {τ : SZ} {h : List (Nat → Int)} {c : Nat → Int} (C : CV B τ h) (e : τ 4 = c) (hB : B + 100 ≤ 100000000) {f r s : Int} (hs : s = 1 ∨ s = -1) (hf : 0 ≤ f ∧ f < cel c 107) (hr : 0 ≤ r ∧ r < 2) (hm : ocn c f r s = 1 ∨ ocn c f r s = 2 ∨ ocn c f r s = 3) :
    (zr (hkp τ) 4 (mkm c f r s)) 4 = mkm c f r s ∧ CV (B + 100) (zr (hkp τ) 4 (mkm c f r s)) (c :: h.take 7) ∧ obM c f r s = 0 := by
  subst e
  refine ⟨rfl, C.done (by omega) hB ((C.1.mkm hf hr hs (ocn_mv hm) (by omega)).mono (by omega) hB), ?_⟩
  unfold obM
  rw [if_neg (fun q => q ⟨hf, hr⟩), if_pos hm]
end OPS
