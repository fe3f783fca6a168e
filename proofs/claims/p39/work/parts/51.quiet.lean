/-! calls that try something: the row stays -/
section QUI
theorem ocn_oco {c : Nat → Int} {f r s : Int} (h : ocn c f r s = 1 ∨ ocn c f r s = 2 ∨ ocn c f r s = 3) : cel c (0 + f * 6 + 0) = cel c 108 ∧ ocn c f r s = oco c f r s ∧ (oco c f r s = 1 ∨ oco c f r s = 2 ∨ oco c f r s = 3) := by
  unfold ocn at h ⊢
  by_cases q : cel c (0 + f * 6 + 0) = cel c 108
  · rw [if_pos q] at h ⊢
    exact ⟨q, rfl, h⟩
  · rw [if_neg q] at h
    omega
theorem q_gain {B : Int} {τ : SZ} {h : List (Nat → Int)} (C : CV B τ h) (hB : B + 100 ≤ 100000000) {f r s : Int} (hs : s = 1 ∨ s = -1) : CV B (if (0 ≤ f ∧ f < cel (τ 4) 107) ∧ (0 ≤ r ∧ r < 2) then (if (ocn (τ 4) f r s = 1 ∨ ocn (τ 4) f r s = 2 ∨ ocn (τ 4) f r s = 3) then zr τ 5 (mkm (τ 4) f r s) else τ) else τ) h ∧
    (if (0 ≤ f ∧ f < cel (τ 4) 107) ∧ (0 ≤ r ∧ r < 2) then (if (ocn (τ 4) f r s = 1 ∨ ocn (τ 4) f r s = 2 ∨ ocn (τ 4) f r s = 3) then zr τ 5 (mkm (τ 4) f r s) else τ) else τ) 4 = τ 4 := by
  by_cases h1 : (0 ≤ f ∧ f < cel (τ 4) 107) ∧ (0 ≤ r ∧ r < 2)
  · rw [if_pos h1]
    by_cases h2 : ocn (τ 4) f r s = 1 ∨ ocn (τ 4) f r s = 2 ∨ ocn (τ 4) f r s = 3
    · rw [if_pos h2]
      exact ⟨C.t5 (C.1.mkm h1.1 h1.2 hs (ocn_oco h2).2.2 (by omega)).1.tz, rfl⟩
    · rw [if_neg h2]; exact ⟨C, rfl⟩
  · rw [if_neg h1]; exact ⟨C, rfl⟩
theorem q_gain_0 {B : Int} {τ : SZ} {h : List (Nat → Int)} (C : CV B τ h) (hB : B + 100 ≤ 100000000) (f r : Int) : CV B (S_gain_0 τ f r) h ∧ (S_gain_0 τ f r) 4 = τ 4 := q_gain C hB (Or.inr rfl)
theorem q_gain_1 {B : Int} {τ : SZ} {h : List (Nat → Int)} (C : CV B τ h) (hB : B + 100 ≤ 100000000) (f r : Int) : CV B (S_gain_1 τ f r) h ∧ (S_gain_1 τ f r) 4 = τ 4 := q_gain C hB (Or.inl rfl)
theorem q_best {B : Int} {τ : SZ} {h : List (Nat → Int)} (C : CV B τ h) (hB : B + 100 ≤ 100000000) : CV B (S_best_0 τ) h ∧ (S_best_0 τ) 4 = τ 4 ∧ S_best_1 τ = S_best_0 τ ∧ S_best_2 τ = S_best_0 τ := by
  have hn := C.1.1.n
  have e : S_best_0 τ = zr τ 5 (bsd (τ 4) (τ 5) (4 * cel (τ 4) 107).toNat) := by unfold S_best_0; split <;> rfl
  refine ⟨?_, ?_, rfl, rfl⟩
  · rw [e]
    exact C.t5 (bsd_tz C.1 (by omega) C.2.2.2.1 _ (by omega))
  · rw [e]; rfl
end QUI
