/-! moves, captures and threats counted move by move -/
section CNT
abbrev oc4 (c : Nat → Int) (j : Nat) : Int := oco c ((j : Int) / 4) ((j : Int) / 2 % 2) (1 - (j : Int) % 2 * 2)
abbrev sd4 (c : Nat → Int) (j : Nat) : Int := cel c (0 + (j : Int) / 4 * 6 + 0)
abbrev nx4 (c : Nat → Int) (j : Nat) : Int := cel c (0 + (j : Int) / 4 * 6 + (1 + (j : Int) / 2 % 2)) + (1 - (j : Int) % 2 * 2)
def mcs (c : Nat → Int) (x : Int) (n : Nat) : Int := sm (fun i => b2 (sd4 c i = x ∧ (oc4 c i = 1 ∨ oc4 c i = 2 ∨ oc4 c i = 3))) n
def ccs (c : Nat → Int) (x : Int) (n : Nat) : Int := sm (fun i => b2 (sd4 c i = x ∧ oc4 c i = 3)) n
theorem sm_s4 {f : Nat → Int} (k : Nat) : sm f (4 * (k + 1)) = sm f (4 * k) + f (4 * k) + f (4 * k + 1) + f (4 * k + 1 + 1) + f (4 * k + 1 + 1 + 1) := by
  rw [show 4 * (k + 1) = 4 * k + 1 + 1 + 1 + 1 from by omega]
  rfl
theorem b2_and_t {P Q : Prop} [Decidable P] [Decidable Q] (h : P) : b2 (P ∧ Q) = b2 Q := by
  by_cases q : Q
  · rw [b2_t ⟨h, q⟩, b2_t q]
  · rw [b2_f (fun z => q z.2), b2_f q]
theorem b2_and_f {P Q : Prop} [Decidable P] [Decidable Q] (h : ¬ P) : b2 (P ∧ Q) = 0 := b2_f (fun z => h z.1)
theorem at4 (k : Nat) : (((4 * k : Nat) : Int) / 4 = (k : Int) ∧ ((4 * k + 1 : Nat) : Int) / 4 = (k : Int) ∧ ((4 * k + 1 + 1 : Nat) : Int) / 4 = (k : Int) ∧ ((4 * k + 1 + 1 + 1 : Nat) : Int) / 4 = (k : Int)) ∧
    (((4 * k : Nat) : Int) / 2 % 2 = 0 ∧ ((4 * k + 1 : Nat) : Int) / 2 % 2 = 0 ∧ ((4 * k + 1 + 1 : Nat) : Int) / 2 % 2 = 1 ∧ ((4 * k + 1 + 1 + 1 : Nat) : Int) / 2 % 2 = 1) ∧
    ((1 : Int) - ((4 * k : Nat) : Int) % 2 * 2 = 1 ∧ (1 : Int) - ((4 * k + 1 : Nat) : Int) % 2 * 2 = -1 ∧ (1 : Int) - ((4 * k + 1 + 1 : Nat) : Int) % 2 * 2 = 1 ∧ (1 : Int) - ((4 * k + 1 + 1 + 1 : Nat) : Int) % 2 * 2 = -1) :=
  ⟨⟨by omega, by omega, by omega, by omega⟩, ⟨by omega, by omega, by omega, by omega⟩, ⟨by omega, by omega, by omega, by omega⟩⟩
theorem mcs_4 {c : Nat → Int} {x : Int} : ∀ k : Nat, mcs c x (4 * k) = mbf c x k
  | 0 => rfl
  | k + 1 => by
    obtain ⟨⟨a1, a2, a3, a4⟩, ⟨b1, b2', b3, b4⟩, ⟨d1, d2, d3, d4⟩⟩ := at4 k
    have ih := mcs_4 (c := c) (x := x) k
    unfold mcs at ih ⊢
    rw [sm_s4, ih]
    show _ = mbf c x k + (if cel c (0 + (k : Int) * 6 + 0) = x then mvo c (k : Int) else 0)
    simp only [oc4, sd4, a1, a2, a3, a4, b1, b2', b3, b4, d1, d2, d3, d4]
    by_cases h : cel c (0 + (k : Int) * 6 + 0) = x
    · rw [b2_and_t h, b2_and_t h, b2_and_t h, b2_and_t h, if_pos h]
      unfold mvo
      omega
    · rw [b2_and_f h, b2_and_f h, b2_and_f h, b2_and_f h, if_neg h]
      omega
theorem ccs_4 {c : Nat → Int} {x : Int} : ∀ k : Nat, ccs c x (4 * k) = cbj c x k
  | 0 => rfl
  | k + 1 => by
    obtain ⟨⟨a1, a2, a3, a4⟩, ⟨b1, b2', b3, b4⟩, ⟨d1, d2, d3, d4⟩⟩ := at4 k
    have ih := ccs_4 (c := c) (x := x) k
    unfold ccs at ih ⊢
    rw [sm_s4, ih]
    show _ = cbj c x k + (if cel c (0 + (k : Int) * 6 + 0) = x then jby c (k : Int) else 0)
    simp only [oc4, sd4, a1, a2, a3, a4, b1, b2', b3, b4, d1, d2, d3, d4]
    by_cases h : cel c (0 + (k : Int) * 6 + 0) = x
    · rw [b2_and_t h, b2_and_t h, b2_and_t h, b2_and_t h, if_pos h]
      unfold jby
      omega
    · rw [b2_and_f h, b2_and_f h, b2_and_f h, b2_and_f h, if_neg h]
      omega
theorem mcs_in {c : Nat → Int} {x : Int} (n : Nat) : (0 ≤ mcs c x n ∧ mcs c x n ≤ (n : Int)) ∧ (0 ≤ ccs c x n ∧ ccs c x n ≤ (n : Int)) :=
  ⟨sm_01 fun i _ => by have q := @b2_or (sd4 c i = x ∧ (oc4 c i = 1 ∨ oc4 c i = 2 ∨ oc4 c i = 3)) _; omega, sm_01 fun i _ => by have q := @b2_or (sd4 c i = x ∧ oc4 c i = 3) _; omega⟩
/-- who is threatened by the first moves -/
def thz (c : Nat → Int) : Nat → Nat → Int
  | 0 => fun _ => 0
  | j + 1 => if oc4 c j = 3 then zu (thz c j) (whz c ((j : Int) / 2 % 2) (nx4 c j)).toNat 1 else thz c j
theorem thz_ex {c : Nat → Int} {g : Nat} : ∀ j : Nat, (thz c j g = 0 ∨ thz c j g = 1) ∧ (thz c j g = 1 ↔ ∃ i : Nat, i < j ∧ oc4 c i = 3 ∧ (whz c ((i : Int) / 2 % 2) (nx4 c i)).toNat = g)
  | 0 => ⟨Or.inl rfl, ⟨fun h => absurd (show (0 : Int) = 1 from h) (by decide), fun ⟨i, hi, _⟩ => absurd hi (Nat.not_lt_zero i)⟩⟩
  | j + 1 => by
    obtain ⟨h1, h2⟩ := thz_ex (c := c) (g := g) j
    unfold thz
    by_cases h3 : oc4 c j = 3
    · rw [if_pos h3]
      by_cases h4 : g = (whz c ((j : Int) / 2 % 2) (nx4 c j)).toNat
      · have e : zu (thz c j) (whz c ((j : Int) / 2 % 2) (nx4 c j)).toNat 1 g = 1 := if_pos h4
        rw [e]
        exact ⟨Or.inr rfl, ⟨fun _ => ⟨j, Nat.lt_succ_self j, h3, h4.symm⟩, fun _ => rfl⟩⟩
      · have e : zu (thz c j) (whz c ((j : Int) / 2 % 2) (nx4 c j)).toNat 1 g = thz c j g := if_neg h4
        rw [e]
        refine ⟨h1, h2.trans ⟨fun ⟨i, a, b⟩ => ⟨i, Nat.lt_succ_of_lt a, b⟩, fun ⟨i, a, b, d⟩ => ?_⟩⟩
        rcases Nat.lt_succ_iff_lt_or_eq.mp a with q | q
        · exact ⟨i, q, b, d⟩
        · subst q; exact absurd d.symm h4
    · rw [if_neg h3]
      refine ⟨h1, h2.trans ⟨fun ⟨i, a, b⟩ => ⟨i, Nat.lt_succ_of_lt a, b⟩, fun ⟨i, a, b, d⟩ => ?_⟩⟩
      rcases Nat.lt_succ_iff_lt_or_eq.mp a with q | q
      · exact ⟨i, q, b, d⟩
      · subst q; exact absurd b h3
theorem thz_is {B : Int} {c : Nat → Int} (hI : Iv B c) {N g : Nat} (hN : cel c 107 = (N : Int)) (hg : g < N) : thz c (4 * N) g = b2 (0 < jov c (g : Int)) := by
  have hn := hI.1.n
  obtain ⟨h1, h2⟩ := thz_ex (c := c) (g := g) (4 * N)
  have hj := jov_pos hI (g := (g : Int)) ⟨by omega, by omega⟩
  by_cases q : 0 < jov c (g : Int)
  · rw [b2_t q]
    refine h2.mpr ?_
    obtain ⟨k, r, s, hk, hr, hs, ho, hp⟩ := hj.mp q
    have hw := Co.whp hI (f := (g : Int)) (r := r) ⟨by omega, by omega⟩ hr
    have key : ∀ i : Nat, (i : Int) / 4 = k → (i : Int) / 2 % 2 = r → 1 - (i : Int) % 2 * 2 = s → i < 4 * N → ∃ i : Nat, i < 4 * N ∧ oc4 c i = 3 ∧ (whz c ((i : Int) / 2 % 2) (nx4 c i)).toNat = g := by
      intro i e1 e2 e3 hi
      refine ⟨i, hi, ?_, ?_⟩
      · unfold oc4
        rw [e1, e2, e3]; exact ho
      · unfold nx4
        rw [e1, e2, e3, show cel c (0 + k * 6 + (1 + r)) + s = pcl c (g : Int) r from hp, hw]
        omega
    rcases hs with hs | hs
    · exact key (4 * k + 2 * r).toNat (by omega) (by omega) (by omega) (by omega)
    · exact key (4 * k + 2 * r + 1).toNat (by omega) (by omega) (by omega) (by omega)
  · rw [b2_f q]
    refine h1.resolve_right fun z => q (hj.mpr ?_)
    obtain ⟨i, hi, ho, hw⟩ := h2.mp z
    have hf : 0 ≤ (i : Int) / 4 ∧ (i : Int) / 4 < cel c 107 := by omega
    have hr : 0 ≤ (i : Int) / 2 % 2 ∧ (i : Int) / 2 % 2 < 2 := by omega
    have w : 0 ≤ whz c ((i : Int) / 2 % 2) (nx4 c i) ∧ whz c ((i : Int) / 2 % 2) (nx4 c i) < cel c 107 := oco_who hI hr ho
    have p := Co.pwh hI (p := nx4 c i) hr (by omega) (by omega)
    refine ⟨(i : Int) / 4, (i : Int) / 2 % 2, 1 - (i : Int) % 2 * 2, hf, hr, by omega, ho, ?_⟩
    have e : whz c ((i : Int) / 2 % 2) (nx4 c i) = (g : Int) := by omega
    rw [e] at p
    exact p.2.2.symm
end CNT
