/-! contracts of reasons, history and desks: printed by wip/whole/db9.py -/
section DSK
theorem zu_zu {f : Nat → Int} {i : Nat} {x y : Int} : zu (zu f i x) i y = zu f i y := by
  funext k
  unfold zu
  by_cases h : k = i <;> simp [h]
theorem zu_sw {f : Nat → Int} {i j : Nat} {x y : Int} (h : i ≠ j) : zu (zu f i x) j y = zu (zu f j y) i x := by
  funext k
  unfold zu
  by_cases h1 : k = i
  · by_cases h2 : k = j
    · exact absurd (h1.symm.trans h2) h
    · simp [h1, h]
  · by_cases h2 : k = j
    · simp [h2, Ne.symm h]
    · simp [h1, h2]
def pu3 (f : Nat → Int) (v : Int) : Nat → Int := zu (zu (zu f 2 (f 1)) 1 (f 0)) 0 v
/-- a reason is put ahead of those that are kept -/
def rpa (τ : SZ) (w d : Int) : SZ := zr (zr (zr τ 10 (pu3 (τ 10) w)) 11 (pu3 (τ 11) d)) 9 (zu (τ 9) 2 (if 3 < τ 9 2 + 1 then 3 else τ 9 2 + 1))
/-- a reason alone is kept -/
def rkp (τ : SZ) (w d : Int) : SZ := zr (zr (zr τ 10 (pu3 (τ 10) w)) 11 (pu3 (τ 11) d)) 9 (zu (τ 9) 2 1)
theorem s_putAhead {w d : Int} {τ : SZ} (hc : 0 ≤ τ 9 2 ∧ τ 9 2 ≤ 3) : RZ 1 m4_putAhead [.inl 9, .inr w, .inr d] τ (.inl (none, rpa τ w d)) := by
  refine Ex.call ?_ rfl rfl
  show Ex _ _ (cod m4_putAhead 0, [some (.inl 9), some (.inr w), some (.inr d), none], [], τ) _ _
  refine ex_k 7 (P := some (Rng 3 ∧ Rng 3)) (g := (cod m4_putAhead 7, [some (.inl 9), some (.inr w), some (.inr d), none], [.inr 3], τ)) rfl ⟨⟨by omega, by omega⟩, ⟨by omega, by omega⟩⟩ ?_
  refine ex_k 4 (P := none) (g := (cod m4_putAhead 11, [some (.inl 9), some (.inr w), some (.inr d), some (.inr 2)], [.inr 2], τ)) rfl trivial ?_
  refine ex_b (P := 2 < 0) (ct := (cod m4_putAhead 42, [some (.inl 9), some (.inr w), some (.inr d), some (.inr 2)], [], τ)) (cf := (cod m4_putAhead 12, [some (.inl 9), some (.inr w), some (.inr d), some (.inr 2)], [], τ)) rfl ⟨by decide, by decide⟩ (fun hh => absurd hh (by decide)) (fun _ => ?_)
  refine ex_k 4 (P := none) (g := (cod m4_putAhead 16, [some (.inl 9), some (.inr w), some (.inr d), some (.inr 2)], [.inr 2, .inr 2, .inl 10], τ)) rfl trivial ?_
  refine ex_b (P := 2 ≤ 0) (ct := (cod m4_putAhead 24, [some (.inl 9), some (.inr w), some (.inr d), some (.inr 2)], [.inr 2, .inl 10], τ)) (cf := (cod m4_putAhead 17, [some (.inl 9), some (.inr w), some (.inr d), some (.inr 2)], [.inr 2, .inl 10], τ)) rfl ⟨by decide, by decide⟩ (fun hh => absurd hh (by decide)) (fun _ => ?_)
  refine ex_k 6 (P := some (0 ≤ 1 ∧ 1 < ((3 : Nat) : Int))) (g := (cod m4_putAhead 23, [some (.inl 9), some (.inr w), some (.inr d), some (.inr 2)], [.inr ((τ 10) 1), .inr 2, .inl 10], τ)) rfl (by show 0 ≤ 1 ∧ 1 < ((3 : Nat) : Int); omega) ?_
  refine ex_k 2 (P := some ((0 ≤ 2 ∧ 2 < ((3 : Nat) : Int)) ∧ (0 = 1 → 0 ≤ ((τ 10) 1) ∧ ((τ 10) 1) < 65536))) (g := (cod m4_putAhead 26, [some (.inl 9), some (.inr w), some (.inr d), some (.inr 2)], [], (zr τ 10 (zu (τ 10) 2 ((τ 10) 1))))) rfl (by show (0 ≤ 2 ∧ 2 < ((3 : Nat) : Int)) ∧ (0 = 1 → 0 ≤ ((τ 10) 1) ∧ ((τ 10) 1) < 65536); omega) ?_
  refine ex_k 4 (P := none) (g := (cod m4_putAhead 30, [some (.inl 9), some (.inr w), some (.inr d), some (.inr 2)], [.inr 2, .inr 2, .inl 11], (zr τ 10 (zu (τ 10) 2 ((τ 10) 1))))) rfl trivial ?_
  refine ex_b (P := 2 ≤ 0) (ct := (cod m4_putAhead 38, [some (.inl 9), some (.inr w), some (.inr d), some (.inr 2)], [.inr 2, .inl 11], (zr τ 10 (zu (τ 10) 2 ((τ 10) 1))))) (cf := (cod m4_putAhead 31, [some (.inl 9), some (.inr w), some (.inr d), some (.inr 2)], [.inr 2, .inl 11], (zr τ 10 (zu (τ 10) 2 ((τ 10) 1))))) rfl ⟨by decide, by decide⟩ (fun hh => absurd hh (by decide)) (fun _ => ?_)
  refine ex_k 6 (P := some (0 ≤ 1 ∧ 1 < ((3 : Nat) : Int))) (g := (cod m4_putAhead 37, [some (.inl 9), some (.inr w), some (.inr d), some (.inr 2)], [.inr ((τ 11) 1), .inr 2, .inl 11], (zr τ 10 (zu (τ 10) 2 ((τ 10) 1))))) rfl (by show 0 ≤ 1 ∧ 1 < ((3 : Nat) : Int); omega) ?_
  refine ex_k 2 (P := some ((0 ≤ 2 ∧ 2 < ((3 : Nat) : Int)) ∧ (0 = 1 → 0 ≤ ((τ 11) 1) ∧ ((τ 11) 1) < 65536))) (g := (cod m4_putAhead 40, [some (.inl 9), some (.inr w), some (.inr d), some (.inr 2)], [], (zr (zr τ 10 (zu (τ 10) 2 ((τ 10) 1))) 11 (zu (τ 11) 2 ((τ 11) 1))))) rfl (by show (0 ≤ 2 ∧ 2 < ((3 : Nat) : Int)) ∧ (0 = 1 → 0 ≤ ((τ 11) 1) ∧ ((τ 11) 1) < 65536); omega) ?_
  refine ex_k 3 (P := none) (g := (cod m4_putAhead 11, [some (.inl 9), some (.inr w), some (.inr d), some (.inr 1)], [.inr 1], (zr (zr τ 10 (zu (τ 10) 2 ((τ 10) 1))) 11 (zu (τ 11) 2 ((τ 11) 1))))) rfl trivial ?_
  refine ex_b (P := 1 < 0) (ct := (cod m4_putAhead 42, [some (.inl 9), some (.inr w), some (.inr d), some (.inr 1)], [], (zr (zr τ 10 (zu (τ 10) 2 ((τ 10) 1))) 11 (zu (τ 11) 2 ((τ 11) 1))))) (cf := (cod m4_putAhead 12, [some (.inl 9), some (.inr w), some (.inr d), some (.inr 1)], [], (zr (zr τ 10 (zu (τ 10) 2 ((τ 10) 1))) 11 (zu (τ 11) 2 ((τ 11) 1))))) rfl ⟨by decide, by decide⟩ (fun hh => absurd hh (by decide)) (fun _ => ?_)
  refine ex_k 4 (P := none) (g := (cod m4_putAhead 16, [some (.inl 9), some (.inr w), some (.inr d), some (.inr 1)], [.inr 1, .inr 1, .inl 10], (zr (zr τ 10 (zu (τ 10) 2 ((τ 10) 1))) 11 (zu (τ 11) 2 ((τ 11) 1))))) rfl trivial ?_
  refine ex_b (P := 1 ≤ 0) (ct := (cod m4_putAhead 24, [some (.inl 9), some (.inr w), some (.inr d), some (.inr 1)], [.inr 1, .inl 10], (zr (zr τ 10 (zu (τ 10) 2 ((τ 10) 1))) 11 (zu (τ 11) 2 ((τ 11) 1))))) (cf := (cod m4_putAhead 17, [some (.inl 9), some (.inr w), some (.inr d), some (.inr 1)], [.inr 1, .inl 10], (zr (zr τ 10 (zu (τ 10) 2 ((τ 10) 1))) 11 (zu (τ 11) 2 ((τ 11) 1))))) rfl ⟨by decide, by decide⟩ (fun hh => absurd hh (by decide)) (fun _ => ?_)
  refine ex_k 6 (P := some (0 ≤ 0 ∧ 0 < ((3 : Nat) : Int))) (g := (cod m4_putAhead 23, [some (.inl 9), some (.inr w), some (.inr d), some (.inr 1)], [.inr ((τ 10) 0), .inr 1, .inl 10], (zr (zr τ 10 (zu (τ 10) 2 ((τ 10) 1))) 11 (zu (τ 11) 2 ((τ 11) 1))))) rfl (by show 0 ≤ 0 ∧ 0 < ((3 : Nat) : Int); omega) ?_
  refine ex_k 2 (P := some ((0 ≤ 1 ∧ 1 < ((3 : Nat) : Int)) ∧ (0 = 1 → 0 ≤ ((τ 10) 0) ∧ ((τ 10) 0) < 65536))) (g := (cod m4_putAhead 26, [some (.inl 9), some (.inr w), some (.inr d), some (.inr 1)], [], (zr (zr (zr τ 10 (zu (τ 10) 2 ((τ 10) 1))) 11 (zu (τ 11) 2 ((τ 11) 1))) 10 (zu (zu (τ 10) 2 ((τ 10) 1)) 1 ((τ 10) 0))))) rfl (by show (0 ≤ 1 ∧ 1 < ((3 : Nat) : Int)) ∧ (0 = 1 → 0 ≤ ((τ 10) 0) ∧ ((τ 10) 0) < 65536); omega) ?_
  rw [zr_sw (a := 11) (b := 10) (by decide), zr_zr]
  refine ex_k 4 (P := none) (g := (cod m4_putAhead 30, [some (.inl 9), some (.inr w), some (.inr d), some (.inr 1)], [.inr 1, .inr 1, .inl 11], (zr (zr τ 10 (zu (zu (τ 10) 2 ((τ 10) 1)) 1 ((τ 10) 0))) 11 (zu (τ 11) 2 ((τ 11) 1))))) rfl trivial ?_
  refine ex_b (P := 1 ≤ 0) (ct := (cod m4_putAhead 38, [some (.inl 9), some (.inr w), some (.inr d), some (.inr 1)], [.inr 1, .inl 11], (zr (zr τ 10 (zu (zu (τ 10) 2 ((τ 10) 1)) 1 ((τ 10) 0))) 11 (zu (τ 11) 2 ((τ 11) 1))))) (cf := (cod m4_putAhead 31, [some (.inl 9), some (.inr w), some (.inr d), some (.inr 1)], [.inr 1, .inl 11], (zr (zr τ 10 (zu (zu (τ 10) 2 ((τ 10) 1)) 1 ((τ 10) 0))) 11 (zu (τ 11) 2 ((τ 11) 1))))) rfl ⟨by decide, by decide⟩ (fun hh => absurd hh (by decide)) (fun _ => ?_)
  refine ex_k 6 (P := some (0 ≤ 0 ∧ 0 < ((3 : Nat) : Int))) (g := (cod m4_putAhead 37, [some (.inl 9), some (.inr w), some (.inr d), some (.inr 1)], [.inr ((τ 11) 0), .inr 1, .inl 11], (zr (zr τ 10 (zu (zu (τ 10) 2 ((τ 10) 1)) 1 ((τ 10) 0))) 11 (zu (τ 11) 2 ((τ 11) 1))))) rfl (by show 0 ≤ 0 ∧ 0 < ((3 : Nat) : Int); omega) ?_
  refine ex_k 2 (P := some ((0 ≤ 1 ∧ 1 < ((3 : Nat) : Int)) ∧ (0 = 1 → 0 ≤ ((τ 11) 0) ∧ ((τ 11) 0) < 65536))) (g := (cod m4_putAhead 40, [some (.inl 9), some (.inr w), some (.inr d), some (.inr 1)], [], (zr (zr (zr τ 10 (zu (zu (τ 10) 2 ((τ 10) 1)) 1 ((τ 10) 0))) 11 (zu (τ 11) 2 ((τ 11) 1))) 11 (zu (zu (τ 11) 2 ((τ 11) 1)) 1 ((τ 11) 0))))) rfl (by show (0 ≤ 1 ∧ 1 < ((3 : Nat) : Int)) ∧ (0 = 1 → 0 ≤ ((τ 11) 0) ∧ ((τ 11) 0) < 65536); omega) ?_
  rw [zr_zr]
  refine ex_k 3 (P := none) (g := (cod m4_putAhead 11, [some (.inl 9), some (.inr w), some (.inr d), some (.inr 0)], [.inr 0], (zr (zr τ 10 (zu (zu (τ 10) 2 ((τ 10) 1)) 1 ((τ 10) 0))) 11 (zu (zu (τ 11) 2 ((τ 11) 1)) 1 ((τ 11) 0))))) rfl trivial ?_
  refine ex_b (P := 0 < 0) (ct := (cod m4_putAhead 42, [some (.inl 9), some (.inr w), some (.inr d), some (.inr 0)], [], (zr (zr τ 10 (zu (zu (τ 10) 2 ((τ 10) 1)) 1 ((τ 10) 0))) 11 (zu (zu (τ 11) 2 ((τ 11) 1)) 1 ((τ 11) 0))))) (cf := (cod m4_putAhead 12, [some (.inl 9), some (.inr w), some (.inr d), some (.inr 0)], [], (zr (zr τ 10 (zu (zu (τ 10) 2 ((τ 10) 1)) 1 ((τ 10) 0))) 11 (zu (zu (τ 11) 2 ((τ 11) 1)) 1 ((τ 11) 0))))) rfl ⟨by decide, by decide⟩ (fun hh => absurd hh (by decide)) (fun _ => ?_)
  refine ex_k 4 (P := none) (g := (cod m4_putAhead 16, [some (.inl 9), some (.inr w), some (.inr d), some (.inr 0)], [.inr 0, .inr 0, .inl 10], (zr (zr τ 10 (zu (zu (τ 10) 2 ((τ 10) 1)) 1 ((τ 10) 0))) 11 (zu (zu (τ 11) 2 ((τ 11) 1)) 1 ((τ 11) 0))))) rfl trivial ?_
  refine ex_b (P := 0 ≤ 0) (ct := (cod m4_putAhead 24, [some (.inl 9), some (.inr w), some (.inr d), some (.inr 0)], [.inr 0, .inl 10], (zr (zr τ 10 (zu (zu (τ 10) 2 ((τ 10) 1)) 1 ((τ 10) 0))) 11 (zu (zu (τ 11) 2 ((τ 11) 1)) 1 ((τ 11) 0))))) (cf := (cod m4_putAhead 17, [some (.inl 9), some (.inr w), some (.inr d), some (.inr 0)], [.inr 0, .inl 10], (zr (zr τ 10 (zu (zu (τ 10) 2 ((τ 10) 1)) 1 ((τ 10) 0))) 11 (zu (zu (τ 11) 2 ((τ 11) 1)) 1 ((τ 11) 0))))) rfl ⟨by decide, by decide⟩ (fun _ => ?_) (fun hh => absurd (by decide) hh)
  refine ex_k 2 (P := some ((0 ≤ 0 ∧ 0 < ((3 : Nat) : Int)) ∧ (0 = 1 → 0 ≤ w ∧ w < 65536))) (g := (cod m4_putAhead 26, [some (.inl 9), some (.inr w), some (.inr d), some (.inr 0)], [], (zr (zr (zr τ 10 (zu (zu (τ 10) 2 ((τ 10) 1)) 1 ((τ 10) 0))) 11 (zu (zu (τ 11) 2 ((τ 11) 1)) 1 ((τ 11) 0))) 10 (zu (zu (zu (τ 10) 2 ((τ 10) 1)) 1 ((τ 10) 0)) 0 w)))) rfl (by show (0 ≤ 0 ∧ 0 < ((3 : Nat) : Int)) ∧ (0 = 1 → 0 ≤ w ∧ w < 65536); omega) ?_
  rw [zr_sw (a := 11) (b := 10) (by decide), zr_zr]
  refine ex_k 4 (P := none) (g := (cod m4_putAhead 30, [some (.inl 9), some (.inr w), some (.inr d), some (.inr 0)], [.inr 0, .inr 0, .inl 11], (zr (zr τ 10 (zu (zu (zu (τ 10) 2 ((τ 10) 1)) 1 ((τ 10) 0)) 0 w)) 11 (zu (zu (τ 11) 2 ((τ 11) 1)) 1 ((τ 11) 0))))) rfl trivial ?_
  refine ex_b (P := 0 ≤ 0) (ct := (cod m4_putAhead 38, [some (.inl 9), some (.inr w), some (.inr d), some (.inr 0)], [.inr 0, .inl 11], (zr (zr τ 10 (zu (zu (zu (τ 10) 2 ((τ 10) 1)) 1 ((τ 10) 0)) 0 w)) 11 (zu (zu (τ 11) 2 ((τ 11) 1)) 1 ((τ 11) 0))))) (cf := (cod m4_putAhead 31, [some (.inl 9), some (.inr w), some (.inr d), some (.inr 0)], [.inr 0, .inl 11], (zr (zr τ 10 (zu (zu (zu (τ 10) 2 ((τ 10) 1)) 1 ((τ 10) 0)) 0 w)) 11 (zu (zu (τ 11) 2 ((τ 11) 1)) 1 ((τ 11) 0))))) rfl ⟨by decide, by decide⟩ (fun _ => ?_) (fun hh => absurd (by decide) hh)
  refine ex_k 2 (P := some ((0 ≤ 0 ∧ 0 < ((3 : Nat) : Int)) ∧ (0 = 1 → 0 ≤ d ∧ d < 65536))) (g := (cod m4_putAhead 40, [some (.inl 9), some (.inr w), some (.inr d), some (.inr 0)], [], (zr (zr (zr τ 10 (zu (zu (zu (τ 10) 2 ((τ 10) 1)) 1 ((τ 10) 0)) 0 w)) 11 (zu (zu (τ 11) 2 ((τ 11) 1)) 1 ((τ 11) 0))) 11 (zu (zu (zu (τ 11) 2 ((τ 11) 1)) 1 ((τ 11) 0)) 0 d)))) rfl (by show (0 ≤ 0 ∧ 0 < ((3 : Nat) : Int)) ∧ (0 = 1 → 0 ≤ d ∧ d < 65536); omega) ?_
  rw [zr_zr]
  refine ex_k 3 (P := none) (g := (cod m4_putAhead 11, [some (.inl 9), some (.inr w), some (.inr d), some (.inr (-1))], [.inr (-1)], (zr (zr τ 10 (zu (zu (zu (τ 10) 2 ((τ 10) 1)) 1 ((τ 10) 0)) 0 w)) 11 (zu (zu (zu (τ 11) 2 ((τ 11) 1)) 1 ((τ 11) 0)) 0 d)))) rfl trivial ?_
  refine ex_b (P := (-1) < 0) (ct := (cod m4_putAhead 42, [some (.inl 9), some (.inr w), some (.inr d), some (.inr (-1))], [], (zr (zr τ 10 (zu (zu (zu (τ 10) 2 ((τ 10) 1)) 1 ((τ 10) 0)) 0 w)) 11 (zu (zu (zu (τ 11) 2 ((τ 11) 1)) 1 ((τ 11) 0)) 0 d)))) (cf := (cod m4_putAhead 12, [some (.inl 9), some (.inr w), some (.inr d), some (.inr (-1))], [], (zr (zr τ 10 (zu (zu (zu (τ 10) 2 ((τ 10) 1)) 1 ((τ 10) 0)) 0 w)) 11 (zu (zu (zu (τ 11) 2 ((τ 11) 1)) 1 ((τ 11) 0)) 0 d)))) rfl ⟨by decide, by decide⟩ (fun _ => ?_) (fun hh => absurd (by decide) hh)
  refine ex_k 7 (P := some (Rng (((τ 9) 2) + 1) ∧ Rng 3)) (g := (cod m4_putAhead 49, [some (.inl 9), some (.inr w), some (.inr d), some (.inr (-1))], [.inr (if 3 < (((τ 9) 2) + 1) then 3 else (((τ 9) 2) + 1)), .inl 9], (zr (zr τ 10 (zu (zu (zu (τ 10) 2 ((τ 10) 1)) 1 ((τ 10) 0)) 0 w)) 11 (zu (zu (zu (τ 11) 2 ((τ 11) 1)) 1 ((τ 11) 0)) 0 d)))) rfl ⟨⟨by omega, by omega⟩, ⟨by omega, by omega⟩⟩ ?_
  refine ex_k 1 (P := none) (g := (cod m4_putAhead 50, [some (.inl 9), some (.inr w), some (.inr d), some (.inr (-1))], [], (zr (zr (zr τ 10 (zu (zu (zu (τ 10) 2 ((τ 10) 1)) 1 ((τ 10) 0)) 0 w)) 11 (zu (zu (zu (τ 11) 2 ((τ 11) 1)) 1 ((τ 11) 0)) 0 d)) 9 (zu (τ 9) 2 (if 3 < (((τ 9) 2) + 1) then 3 else (((τ 9) 2) + 1)))))) rfl trivial ?_
  exact ex_r rfl rfl rfl (rfl)
theorem rkp_eq (τ : SZ) (w d : Int) : rpa (zr τ 9 (zu (τ 9) 2 0)) w d = rkp τ w d := by
  show zr (zr (zr (zr τ 9 (zu (τ 9) 2 0)) 10 (pu3 (τ 10) w)) 11 (pu3 (τ 11) d)) 9 (zu (zu (τ 9) 2 0) 2 1) = _
  rw [zr_sw (a := 11) (b := 9) (by decide), zr_sw (a := 10) (b := 9) (by decide), zr_zr, zu_zu]
  unfold rkp
  rw [zr_sw (a := 9) (b := 10) (by decide), zr_sw (a := 9) (b := 11) (by decide)]
theorem s_keepR {w d : Int} {τ : SZ} : RZ 2 m4_keep [.inl 9, .inr w, .inr d] τ (.inl (none, rkp τ w d)) := by
  refine Ex.call ?_ rfl rfl
  show Ex _ _ (cod m4_keep 0, [some (.inl 9), some (.inr w), some (.inr d)], [], τ) _ _
  refine ex_k 3 (P := none) (g := (cod m4_keep 3, [some (.inl 9), some (.inr w), some (.inr d)], [], (zr τ 9 (zu (τ 9) 2 0)))) rfl trivial ?_
  refine ex_k 3 (P := none) (g := (cod m4_keep 6, [some (.inl 9), some (.inr w), some (.inr d)], [.inr d, .inr w, .inl 9], (zr τ 9 (zu (τ 9) 2 0)))) rfl trivial ?_
  refine ex_c (s_putAhead (τ := (zr τ 9 (zu (τ 9) 2 0))) (w := w) (d := d) ⟨show (0 : Int) ≤ 0 by decide, show (0 : Int) ≤ 3 by decide⟩) (is := cod m4_keep 7) (L := [some (.inl 9), some (.inr w), some (.inr d)]) (st := []) rfl rfl rfl ?_
  show Ex _ _ (cod m4_keep 7, [some (.inl 9), some (.inr w), some (.inr d)], [], (rpa (zr τ 9 (zu (τ 9) 2 0)) w d)) _ _
  exact ex_r rfl rfl rfl (rV (rkp_eq τ w d).symm)
theorem s_reasonAt {z : Int} {τ : SZ} (hz : 0 ≤ z ∧ z < 3) : RZ 1 m4_reasonAt [.inl 9, .inr z] τ (.inl (some (.inr (τ 10 z.toNat)), τ)) := by
  refine Ex.call ?_ rfl rfl
  show Ex _ _ (cod m4_reasonAt 0, [some (.inl 9), some (.inr z)], [], τ) _ _
  refine ex_k 1 (P := none) (g := (cod m4_reasonAt 1, [some (.inl 9), some (.inr z)], [.inr z], τ)) rfl trivial ?_
  refine ex_b (P := z < 0) (ct := (cod m4_reasonAt 12, [some (.inl 9), some (.inr z)], [], τ)) (cf := (cod m4_reasonAt 2, [some (.inl 9), some (.inr z)], [], τ)) rfl ⟨by omega, by omega⟩ (fun h1 => ?_) (fun h1 => ?_)
  · first
    | (exfalso; omega)
    | (
        refine ex_k 1 (P := none) (g := (cod m4_reasonAt 13, [some (.inl 9), some (.inr z)], [.inr 0], τ)) rfl trivial ?_
        exact ex_r rfl trivial rfl (rfl))
  · first
    | (exfalso; omega)
    | (
        refine ex_k 4 (P := none) (g := (cod m4_reasonAt 6, [some (.inl 9), some (.inr z)], [.inr 3, .inr z], τ)) rfl trivial ?_
        refine ex_b (P := 3 ≤ z) (ct := (cod m4_reasonAt 12, [some (.inl 9), some (.inr z)], [], τ)) (cf := (cod m4_reasonAt 7, [some (.inl 9), some (.inr z)], [], τ)) rfl ⟨⟨by omega, by omega⟩, ⟨by decide, by decide⟩⟩ (fun h2 => ?_) (fun h2 => ?_)
        · first
          | (exfalso; omega)
          | (
              refine ex_k 1 (P := none) (g := (cod m4_reasonAt 13, [some (.inl 9), some (.inr z)], [.inr 0], τ)) rfl trivial ?_
              exact ex_r rfl trivial rfl (rfl))
        · first
          | (exfalso; omega)
          | (
              refine ex_k 4 (P := some (0 ≤ z ∧ z < ((3 : Nat) : Int))) (g := (cod m4_reasonAt 11, [some (.inl 9), some (.inr z)], [.inr ((τ 10) z.toNat)], τ)) rfl (by show 0 ≤ z ∧ z < ((3 : Nat) : Int); omega) ?_
              refine ex_k 1 (P := none) (g := (cod m4_reasonAt 13, [some (.inl 9), some (.inr z)], [.inr ((τ 10) z.toNat)], τ)) rfl trivial ?_
              exact ex_r rfl trivial rfl (rfl)))
theorem s_detailAt {z : Int} {τ : SZ} (hz : 0 ≤ z ∧ z < 3) : RZ 1 m4_detailAt [.inl 9, .inr z] τ (.inl (some (.inr (τ 11 z.toNat)), τ)) := by
  refine Ex.call ?_ rfl rfl
  show Ex _ _ (cod m4_detailAt 0, [some (.inl 9), some (.inr z)], [], τ) _ _
  refine ex_k 1 (P := none) (g := (cod m4_detailAt 1, [some (.inl 9), some (.inr z)], [.inr z], τ)) rfl trivial ?_
  refine ex_b (P := z < 0) (ct := (cod m4_detailAt 12, [some (.inl 9), some (.inr z)], [], τ)) (cf := (cod m4_detailAt 2, [some (.inl 9), some (.inr z)], [], τ)) rfl ⟨by omega, by omega⟩ (fun h1 => ?_) (fun h1 => ?_)
  · first
    | (exfalso; omega)
    | (
        refine ex_k 1 (P := none) (g := (cod m4_detailAt 13, [some (.inl 9), some (.inr z)], [.inr 0], τ)) rfl trivial ?_
        exact ex_r rfl trivial rfl (rfl))
  · first
    | (exfalso; omega)
    | (
        refine ex_k 4 (P := none) (g := (cod m4_detailAt 6, [some (.inl 9), some (.inr z)], [.inr 3, .inr z], τ)) rfl trivial ?_
        refine ex_b (P := 3 ≤ z) (ct := (cod m4_detailAt 12, [some (.inl 9), some (.inr z)], [], τ)) (cf := (cod m4_detailAt 7, [some (.inl 9), some (.inr z)], [], τ)) rfl ⟨⟨by omega, by omega⟩, ⟨by decide, by decide⟩⟩ (fun h2 => ?_) (fun h2 => ?_)
        · first
          | (exfalso; omega)
          | (
              refine ex_k 1 (P := none) (g := (cod m4_detailAt 13, [some (.inl 9), some (.inr z)], [.inr 0], τ)) rfl trivial ?_
              exact ex_r rfl trivial rfl (rfl))
        · first
          | (exfalso; omega)
          | (
              refine ex_k 4 (P := some (0 ≤ z ∧ z < ((3 : Nat) : Int))) (g := (cod m4_detailAt 11, [some (.inl 9), some (.inr z)], [.inr ((τ 11) z.toNat)], τ)) rfl (by show 0 ≤ z ∧ z < ((3 : Nat) : Int); omega) ?_
              refine ex_k 1 (P := none) (g := (cod m4_detailAt 13, [some (.inl 9), some (.inr z)], [.inr ((τ 11) z.toNat)], τ)) rfl trivial ?_
              exact ex_r rfl trivial rfl (rfl)))
/-- what is, is kept before a change -/
def hkp (τ : SZ) : SZ := zr (zr τ 15 (zc (τ 4) (τ 15) 0 (τ 14 1 * 109).toNat 109)) 14 (zu (zu (τ 14) 1 ((τ 14 1 + 1) % 8)) 2 (if 8 < τ 14 2 + 1 then 8 else τ 14 2 + 1))
def hpb (τ : SZ) : SZ := zr (zr τ 14 (zu (zu (τ 14) 1 ((τ 14 1 + 8 - 1) % 8)) 2 (τ 14 2 - 1))) 4 (zc (τ 15) (τ 4) (((τ 14 1 + 8 - 1) % 8) * 109).toNat 0 109)
theorem s_keepH  {τ : SZ} (hx : 0 ≤ τ 14 1 ∧ τ 14 1 < 8) (hc : 0 ≤ τ 14 2 ∧ τ 14 2 ≤ 8) : RZ 2 m2_keep [.inl 14, .inl 1] τ (.inl (none, hkp τ)) := by
  refine Ex.call ?_ rfl rfl
  show Ex _ _ (cod m2_keep 0, [some (.inl 14), some (.inl 1)], [], τ) _ _
  refine ex_k 7 (P := none) (g := (cod m2_keep 7, [some (.inl 14), some (.inl 1)], [.inr (((τ 14) 1) * 109), .inl 15, .inl 1], τ)) rfl trivial ?_
  refine ex_c (s_copyTo_1_15 (τ := τ) (x := ((τ 14) 1) * 109) (by omega)) (is := cod m2_keep 8) (L := [some (.inl 14), some (.inl 1)]) (st := []) rfl rfl rfl ?_
  show Ex _ _ (cod m2_keep 8, [some (.inl 14), some (.inl 1)], [], (zr τ 15 (zc (τ 4) (τ 15) 0 (((τ 14) 1) * 109).toNat 109))) _ _
  refine ex_k 7 (P := some (0 ≤ (((τ 14) 1) + 1) ∧ (((τ 14) 1) + 1) < 2147483648 ∧ 0 < 8 ∧ 8 < 2147483648)) (g := (cod m2_keep 15, [some (.inl 14), some (.inl 1)], [.inr ((((τ 14) 1) + 1) % 8), .inl 14], (zr τ 15 (zc (τ 4) (τ 15) 0 (((τ 14) 1) * 109).toNat 109)))) rfl (by show 0 ≤ (((τ 14) 1) + 1) ∧ (((τ 14) 1) + 1) < 2147483648 ∧ 0 < 8 ∧ 8 < 2147483648; omega) ?_
  refine ex_k 1 (P := none) (g := (cod m2_keep 16, [some (.inl 14), some (.inl 1)], [], (zr (zr τ 15 (zc (τ 4) (τ 15) 0 (((τ 14) 1) * 109).toNat 109)) 14 (zu (τ 14) 1 ((((τ 14) 1) + 1) % 8))))) rfl trivial ?_
  refine ex_k 7 (P := some (Rng (((τ 14) 2) + 1) ∧ Rng 8)) (g := (cod m2_keep 23, [some (.inl 14), some (.inl 1)], [.inr (if 8 < (((τ 14) 2) + 1) then 8 else (((τ 14) 2) + 1)), .inl 14], (zr (zr τ 15 (zc (τ 4) (τ 15) 0 (((τ 14) 1) * 109).toNat 109)) 14 (zu (τ 14) 1 ((((τ 14) 1) + 1) % 8))))) rfl ⟨⟨by omega, by omega⟩, ⟨by omega, by omega⟩⟩ ?_
  refine ex_k 1 (P := none) (g := (cod m2_keep 24, [some (.inl 14), some (.inl 1)], [], (zr (zr (zr τ 15 (zc (τ 4) (τ 15) 0 (((τ 14) 1) * 109).toNat 109)) 14 (zu (τ 14) 1 ((((τ 14) 1) + 1) % 8))) 14 (zu (zu (τ 14) 1 ((((τ 14) 1) + 1) % 8)) 2 (if 8 < (((τ 14) 2) + 1) then 8 else (((τ 14) 2) + 1)))))) rfl trivial ?_
  rw [zr_zr]
  exact ex_r rfl rfl rfl (rfl)
theorem s_putBack  {τ : SZ} (hx : 0 ≤ τ 14 1 ∧ τ 14 1 < 8) (hc : 0 ≤ τ 14 2 ∧ τ 14 2 ≤ 8) : RZ 2 m2_putBack [.inl 14, .inl 1] τ (.inl (none, hpb τ)) := by
  refine Ex.call ?_ rfl rfl
  show Ex _ _ (cod m2_putBack 0, [some (.inl 14), some (.inl 1)], [], τ) _ _
  refine ex_k 9 (P := some (0 ≤ ((((τ 14) 1) + 8) - 1) ∧ ((((τ 14) 1) + 8) - 1) < 2147483648 ∧ 0 < 8 ∧ 8 < 2147483648)) (g := (cod m2_putBack 9, [some (.inl 14), some (.inl 1)], [.inr (((((τ 14) 1) + 8) - 1) % 8), .inl 14], τ)) rfl (by show 0 ≤ ((((τ 14) 1) + 8) - 1) ∧ ((((τ 14) 1) + 8) - 1) < 2147483648 ∧ 0 < 8 ∧ 8 < 2147483648; omega) ?_
  refine ex_k 1 (P := none) (g := (cod m2_putBack 10, [some (.inl 14), some (.inl 1)], [], (zr τ 14 (zu (τ 14) 1 (((((τ 14) 1) + 8) - 1) % 8))))) rfl trivial ?_
  refine ex_k 7 (P := none) (g := (cod m2_putBack 17, [some (.inl 14), some (.inl 1)], [.inr ((((((τ 14) 1) + 8) - 1) % 8) * 109), .inl 15, .inl 1], (zr τ 14 (zu (τ 14) 1 (((((τ 14) 1) + 8) - 1) % 8))))) rfl trivial ?_
  refine ex_c (s_copyFrom (τ := (zr τ 14 (zu (τ 14) 1 (((((τ 14) 1) + 8) - 1) % 8)))) (x := (((((τ 14) 1) + 8) - 1) % 8) * 109) (by omega)) (is := cod m2_putBack 18) (L := [some (.inl 14), some (.inl 1)]) (st := []) rfl rfl rfl ?_
  show Ex _ _ (cod m2_putBack 18, [some (.inl 14), some (.inl 1)], [], (zr (zr τ 14 (zu (τ 14) 1 (((((τ 14) 1) + 8) - 1) % 8))) 4 (zc (τ 15) (τ 4) ((((((τ 14) 1) + 8) - 1) % 8) * 109).toNat 0 109))) _ _
  refine ex_k 6 (P := none) (g := (cod m2_putBack 24, [some (.inl 14), some (.inl 1)], [], (zr (zr (zr τ 14 (zu (τ 14) 1 (((((τ 14) 1) + 8) - 1) % 8))) 4 (zc (τ 15) (τ 4) ((((((τ 14) 1) + 8) - 1) % 8) * 109).toNat 0 109)) 14 (zu (zu (τ 14) 1 (((((τ 14) 1) + 8) - 1) % 8)) 2 (((τ 14) 2) - 1))))) rfl trivial ?_
  rw [zr_sw (a := 4) (b := 14) (by decide), zr_zr]
  exact ex_r rfl rfl rfl (rV (by unfold hpb; first | rfl | (rw [zr_sw (a := 4) (b := 14) (by decide), zr_zr]) | skip))
def DA (δ γ ρ a : Nat) : Prop := (δ = 12 ∧ γ = 7 ∧ ρ = 1 ∧ a = 4) ∨ (δ = 13 ∧ γ = 8 ∧ ρ = 2 ∧ a = 5)
theorem s_refuse {δ γ ρ a : Nat} {w d : Int} {τ : SZ} (hδ : DA δ γ ρ a) : RZ 3 m0_refuse [.inl δ, .inr w, .inr d] τ (.inl (some (.inr 3), rkp τ w d)) := by
  rcases hδ with ⟨rfl, rfl, rfl, rfl⟩ | ⟨rfl, rfl, rfl, rfl⟩
  · refine Ex.call ?_ rfl rfl
    show Ex _ _ (cod m0_refuse 0, [some (.inl 12), some (.inr w), some (.inr d)], [], τ) _ _
    refine ex_k 4 (P := none) (g := (cod m0_refuse 4, [some (.inl 12), some (.inr w), some (.inr d)], [.inr d, .inr w, .inl 9], τ)) rfl trivial ?_
    refine ex_c (s_keepR (τ := τ) (w := w) (d := d)) (is := cod m0_refuse 5) (L := [some (.inl 12), some (.inr w), some (.inr d)]) (st := []) rfl rfl rfl ?_
    show Ex _ _ (cod m0_refuse 5, [some (.inl 12), some (.inr w), some (.inr d)], [], rkp τ w d) _ _
    refine ex_k 1 (P := none) (g := (cod m0_refuse 6, [some (.inl 12), some (.inr w), some (.inr d)], [.inr 3], rkp τ w d)) rfl trivial ?_
    exact ex_r rfl trivial rfl (rfl)
  · refine Ex.call ?_ rfl rfl
    show Ex _ _ (cod m0_refuse 0, [some (.inl 13), some (.inr w), some (.inr d)], [], τ) _ _
    refine ex_k 4 (P := none) (g := (cod m0_refuse 4, [some (.inl 13), some (.inr w), some (.inr d)], [.inr d, .inr w, .inl 9], τ)) rfl trivial ?_
    refine ex_c (s_keepR (τ := τ) (w := w) (d := d)) (is := cod m0_refuse 5) (L := [some (.inl 13), some (.inr w), some (.inr d)]) (st := []) rfl rfl rfl ?_
    show Ex _ _ (cod m0_refuse 5, [some (.inl 13), some (.inr w), some (.inr d)], [], rkp τ w d) _ _
    refine ex_k 1 (P := none) (g := (cod m0_refuse 6, [some (.inl 13), some (.inr w), some (.inr d)], [.inr 3], rkp τ w d)) rfl trivial ?_
    exact ex_r rfl trivial rfl (rfl)
def obF (c : Nat → Int) (x p q : Int) : Int := if ¬ ((0 ≤ x ∧ x < 2) ∧ (0 ≤ p ∧ p < 12) ∧ (0 ≤ q ∧ q < 12)) then 2 else if 8 ≤ cel c 107 then 3 else if ¬ ((0 ≤ p ∧ p < 12) ∧ cel c (48 + 0 * 12 + p) = -1) then 3 else if ¬ ((0 ≤ q ∧ q < 12) ∧ cel c (48 + 1 * 12 + q) = -1) then 3 else 0
def rwF (c : Nat → Int) : Int := if 8 ≤ cel c 107 then 1 else 2
def rdF (c : Nat → Int) (p q : Int) : Int := if 8 ≤ cel c 107 then 8 else if ¬ ((0 ≤ p ∧ p < 12) ∧ cel c (48 + 0 * 12 + p) = -1) then p else q
def obT (c : Nat → Int) (r p : Int) : Int := if ¬ ((0 ≤ r ∧ r < 2) ∧ (0 ≤ p ∧ p < 12)) then 1 else if 4 ≤ sm (fun k => b2 (whz c r (k : Int) = 8)) 12 then 3 else if ¬ ((0 ≤ p ∧ p < 12) ∧ cel c (48 + r * 12 + p) = -1) then 3 else 0
def rwT (c : Nat → Int) (r : Int) : Int := if 4 ≤ sm (fun k => b2 (whz c r (k : Int) = 8)) 12 then 1 else 2
def rdT (c : Nat → Int) (r p : Int) : Int := if 4 ≤ sm (fun k => b2 (whz c r (k : Int) = 8)) 12 then 4 else p
def obL (c : Nat → Int) (r p v : Int) : Int := if ¬ ((0 ≤ r ∧ r < 2) ∧ (0 ≤ p ∧ p < 12)) then 1 else if ¬ (0 ≤ v ∧ v ≤ 3) then 2 else if usz c r p = v then 3 else 0
def obG (c : Nat → Int) (r p v : Int) : Int := if ¬ ((0 ≤ r ∧ r < 2) ∧ (0 ≤ p ∧ p < 12)) then 1 else if ¬ (0 ≤ v ∧ v ≤ 4) then 2 else if cel c (96 + r) = p ∧ cel c (98 + r) = v then 3 else 0
def obM (c : Nat → Int) (f r s : Int) : Int := if ¬ ((0 ≤ f ∧ f < cel c 107) ∧ (0 ≤ r ∧ r < 2)) then 1 else if ocn c f r s = 1 ∨ ocn c f r s = 2 ∨ ocn c f r s = 3 then 0 else 3
theorem s_objF {δ γ ρ a : Nat} {x p q : Int} {τ : SZ} (hδ : DA δ γ ρ a) (hx : Rng x) (hp : Rng p) (hq : Rng q) {B : Int} (hS : Sh B (τ a)) : RZ 4 m0_objectionToFerry [.inl δ, .inr x, .inr p, .inr q] τ (.inl (some (.inr (obF (τ a) x p q)), if obF (τ a) x p q = 3 then rkp τ (rwF (τ a)) (rdF (τ a) p q) else τ)) := by
  have hN := hS.n
  obtain ⟨hx1, hx2⟩ := hx
  obtain ⟨hp1, hp2⟩ := hp
  obtain ⟨hq1, hq2⟩ := hq
  rcases hδ with ⟨rfl, rfl, rfl, rfl⟩ | ⟨rfl, rfl, rfl, rfl⟩
  · refine Ex.call ?_ rfl rfl
    show Ex _ _ (cod m0_objectionToFerry 0, [some (.inl 12), some (.inr x), some (.inr p), some (.inr q)], [], τ) _ _
    refine ex_k 1 (P := none) (g := (cod m0_objectionToFerry 1, [some (.inl 12), some (.inr x), some (.inr p), some (.inr q)], [.inr x], τ)) rfl trivial ?_
    refine ex_c (s_isSide (τ := τ) (z := x) ⟨by omega, by omega⟩) (is := cod m0_objectionToFerry 2) (L := [some (.inl 12), some (.inr x), some (.inr p), some (.inr q)]) (st := []) rfl rfl rfl ?_
    show Ex _ _ (cod m0_objectionToFerry 2, [some (.inl 12), some (.inr x), some (.inr p), some (.inr q)], [.inr (b2 (0 ≤ x ∧ x < 2))], τ) _ _
    refine ex_b (P := (b2 (0 ≤ x ∧ x < 2)) = 0) (ct := (cod m0_objectionToFerry 9, [some (.inl 12), some (.inr x), some (.inr p), some (.inr q)], [], τ)) (cf := (cod m0_objectionToFerry 3, [some (.inl 12), some (.inr x), some (.inr p), some (.inr q)], [], τ)) rfl b2_rng (fun h1 => ?_) (fun h1 => ?_)
    · first
      | (exfalso; have h1 := b2_e0 h1; omega)
      | (
          have h1 := b2_e0 h1
          refine ex_k 1 (P := none) (g := (cod m0_objectionToFerry 10, [some (.inl 12), some (.inr x), some (.inr p), some (.inr q)], [.inr 2], τ)) rfl trivial ?_
          exact ex_r rfl trivial rfl (rIV (by unfold obF; (repeat (first | rw [if_pos (by omega)] | rw [if_neg (by omega)])); first | done | rfl) (if_neg (by unfold obF; (repeat (first | rw [if_pos (by omega)] | rw [if_neg (by omega)])); first | omega | decide))))
    · first
      | (exfalso; have h1 := b2_n0 h1; omega)
      | (
          have h1 := b2_n0 h1
          refine ex_k 1 (P := none) (g := (cod m0_objectionToFerry 4, [some (.inl 12), some (.inr x), some (.inr p), some (.inr q)], [.inr p], τ)) rfl trivial ?_
          refine ex_c (s_isPlace (τ := τ) (z := p) ⟨by omega, by omega⟩) (is := cod m0_objectionToFerry 5) (L := [some (.inl 12), some (.inr x), some (.inr p), some (.inr q)]) (st := []) rfl rfl rfl ?_
          show Ex _ _ (cod m0_objectionToFerry 5, [some (.inl 12), some (.inr x), some (.inr p), some (.inr q)], [.inr (b2 (0 ≤ p ∧ p < 12))], τ) _ _
          refine ex_b (P := (b2 (0 ≤ p ∧ p < 12)) = 0) (ct := (cod m0_objectionToFerry 9, [some (.inl 12), some (.inr x), some (.inr p), some (.inr q)], [], τ)) (cf := (cod m0_objectionToFerry 6, [some (.inl 12), some (.inr x), some (.inr p), some (.inr q)], [], τ)) rfl b2_rng (fun h2 => ?_) (fun h2 => ?_)
          · first
            | (exfalso; have h2 := b2_e0 h2; omega)
            | (
                have h2 := b2_e0 h2
                refine ex_k 1 (P := none) (g := (cod m0_objectionToFerry 10, [some (.inl 12), some (.inr x), some (.inr p), some (.inr q)], [.inr 2], τ)) rfl trivial ?_
                exact ex_r rfl trivial rfl (rIV (by unfold obF; (repeat (first | rw [if_pos (by omega)] | rw [if_neg (by omega)])); first | done | rfl) (if_neg (by unfold obF; (repeat (first | rw [if_pos (by omega)] | rw [if_neg (by omega)])); first | omega | decide))))
          · first
            | (exfalso; have h2 := b2_n0 h2; omega)
            | (
                have h2 := b2_n0 h2
                refine ex_k 1 (P := none) (g := (cod m0_objectionToFerry 7, [some (.inl 12), some (.inr x), some (.inr p), some (.inr q)], [.inr q], τ)) rfl trivial ?_
                refine ex_c (s_isPlace (τ := τ) (z := q) ⟨by omega, by omega⟩) (is := cod m0_objectionToFerry 8) (L := [some (.inl 12), some (.inr x), some (.inr p), some (.inr q)]) (st := []) rfl rfl rfl ?_
                show Ex _ _ (cod m0_objectionToFerry 8, [some (.inl 12), some (.inr x), some (.inr p), some (.inr q)], [.inr (b2 (0 ≤ q ∧ q < 12))], τ) _ _
                refine ex_b (P := ¬ (b2 (0 ≤ q ∧ q < 12)) = 0) (ct := (cod m0_objectionToFerry 11, [some (.inl 12), some (.inr x), some (.inr p), some (.inr q)], [], τ)) (cf := (cod m0_objectionToFerry 9, [some (.inl 12), some (.inr x), some (.inr p), some (.inr q)], [], τ)) rfl b2_rng (fun h3 => ?_) (fun h3 => ?_)
                · first
                  | (exfalso; have h3 := b2_n0 h3; omega)
                  | (
                      have h3 := b2_n0 h3
                      refine ex_k 3 (P := none) (g := (cod m0_objectionToFerry 14, [some (.inl 12), some (.inr x), some (.inr p), some (.inr q)], [.inr 7, .inl 1], τ)) rfl trivial ?_
                      refine ex_c (s_total (τ := τ) (w := 7) (Or.inl ⟨rfl, rfl⟩) (by omega)) (is := cod m0_objectionToFerry 15) (L := [some (.inl 12), some (.inr x), some (.inr p), some (.inr q)]) (st := []) rfl rfl rfl ?_
                      show Ex _ _ (cod m0_objectionToFerry 15, [some (.inl 12), some (.inr x), some (.inr p), some (.inr q)], [.inr (cel (τ 4) 107)], τ) _ _
                      refine ex_k 1 (P := none) (g := (cod m0_objectionToFerry 16, [some (.inl 12), some (.inr x), some (.inr p), some (.inr q)], [.inr 8, .inr (cel (τ 4) 107)], τ)) rfl trivial ?_
                      refine ex_b (P := (cel (τ 4) 107) < 8) (ct := (cod m0_objectionToFerry 22, [some (.inl 12), some (.inr x), some (.inr p), some (.inr q)], [], τ)) (cf := (cod m0_objectionToFerry 17, [some (.inl 12), some (.inr x), some (.inr p), some (.inr q)], [], τ)) rfl ⟨⟨by omega, by omega⟩, ⟨by decide, by decide⟩⟩ (fun h4 => ?_) (fun h4 => ?_)
                      · first
                        | (exfalso; omega)
                        | (
                            refine ex_k 4 (P := none) (g := (cod m0_objectionToFerry 26, [some (.inl 12), some (.inr x), some (.inr p), some (.inr q)], [.inr p, .inr 0, .inl 1], τ)) rfl trivial ?_
                            refine ex_c (s_isFree (τ := τ) (r := 0) (p := p) (Or.inl ⟨rfl, rfl⟩) (by omega) ⟨by omega, by omega⟩ hS.bd) (is := cod m0_objectionToFerry 27) (L := [some (.inl 12), some (.inr x), some (.inr p), some (.inr q)]) (st := []) rfl rfl rfl ?_
                            show Ex _ _ (cod m0_objectionToFerry 27, [some (.inl 12), some (.inr x), some (.inr p), some (.inr q)], [.inr (b2 ((0 ≤ p ∧ p < 12) ∧ cel (τ 4) (48 + 0 * 12 + p) = -1))], τ) _ _
                            refine ex_b (P := ¬ (b2 ((0 ≤ p ∧ p < 12) ∧ cel (τ 4) (48 + 0 * 12 + p) = -1)) = 0) (ct := (cod m0_objectionToFerry 33, [some (.inl 12), some (.inr x), some (.inr p), some (.inr q)], [], τ)) (cf := (cod m0_objectionToFerry 28, [some (.inl 12), some (.inr x), some (.inr p), some (.inr q)], [], τ)) rfl b2_rng (fun h5 => ?_) (fun h5 => ?_)
                            · first
                              | (exfalso; have h5 := b2_n0 h5; omega)
                              | (
                                  have h5 := b2_n0 h5
                                  refine ex_k 4 (P := none) (g := (cod m0_objectionToFerry 37, [some (.inl 12), some (.inr x), some (.inr p), some (.inr q)], [.inr q, .inr 1, .inl 1], τ)) rfl trivial ?_
                                  refine ex_c (s_isFree (τ := τ) (r := 1) (p := q) (Or.inl ⟨rfl, rfl⟩) (by omega) ⟨by omega, by omega⟩ hS.bd) (is := cod m0_objectionToFerry 38) (L := [some (.inl 12), some (.inr x), some (.inr p), some (.inr q)]) (st := []) rfl rfl rfl ?_
                                  show Ex _ _ (cod m0_objectionToFerry 38, [some (.inl 12), some (.inr x), some (.inr p), some (.inr q)], [.inr (b2 ((0 ≤ q ∧ q < 12) ∧ cel (τ 4) (48 + 1 * 12 + q) = -1))], τ) _ _
                                  refine ex_b (P := (b2 ((0 ≤ q ∧ q < 12) ∧ cel (τ 4) (48 + 1 * 12 + q) = -1)) = 0) (ct := (cod m0_objectionToFerry 41, [some (.inl 12), some (.inr x), some (.inr p), some (.inr q)], [], τ)) (cf := (cod m0_objectionToFerry 39, [some (.inl 12), some (.inr x), some (.inr p), some (.inr q)], [], τ)) rfl b2_rng (fun h6 => ?_) (fun h6 => ?_)
                                  · first
                                    | (exfalso; have h6 := b2_e0 h6; omega)
                                    | (
                                        have h6 := b2_e0 h6
                                        refine ex_k 3 (P := none) (g := (cod m0_objectionToFerry 44, [some (.inl 12), some (.inr x), some (.inr p), some (.inr q)], [.inr q, .inr 2, .inl 12], τ)) rfl trivial ?_
                                        refine ex_c (s_refuse (τ := τ) (w := 2) (d := q) (Or.inl ⟨rfl, rfl, rfl, rfl⟩)) (is := cod m0_objectionToFerry 45) (L := [some (.inl 12), some (.inr x), some (.inr p), some (.inr q)]) (st := []) rfl rfl rfl ?_
                                        show Ex _ _ (cod m0_objectionToFerry 45, [some (.inl 12), some (.inr x), some (.inr p), some (.inr q)], [.inr 3], rkp τ 2 q) _ _
                                        exact ex_r rfl trivial rfl (rIV (by unfold obF; (repeat (first | rw [if_pos (by omega)] | rw [if_neg (by omega)])); first | done | rfl) (by rw [if_pos (by unfold obF; (repeat (first | rw [if_pos (by omega)] | rw [if_neg (by omega)])); first | done | rfl)]; unfold rwF rdF; (repeat (first | rw [if_pos (by omega)] | rw [if_neg (by omega)])); first | done | rfl)))
                                  · first
                                    | (exfalso; have h6 := b2_n0 h6; omega)
                                    | (
                                        have h6 := b2_n0 h6
                                        refine ex_k 2 (P := none) (g := (cod m0_objectionToFerry 45, [some (.inl 12), some (.inr x), some (.inr p), some (.inr q)], [.inr 0], τ)) rfl trivial ?_
                                        exact ex_r rfl trivial rfl (rIV (by unfold obF; (repeat (first | rw [if_pos (by omega)] | rw [if_neg (by omega)])); first | done | rfl) (if_neg (by unfold obF; (repeat (first | rw [if_pos (by omega)] | rw [if_neg (by omega)])); first | omega | decide)))))
                            · first
                              | (exfalso; have h5 := b2_nn0 h5; omega)
                              | (
                                  have h5 := b2_nn0 h5
                                  refine ex_k 3 (P := none) (g := (cod m0_objectionToFerry 31, [some (.inl 12), some (.inr x), some (.inr p), some (.inr q)], [.inr p, .inr 2, .inl 12], τ)) rfl trivial ?_
                                  refine ex_c (s_refuse (τ := τ) (w := 2) (d := p) (Or.inl ⟨rfl, rfl, rfl, rfl⟩)) (is := cod m0_objectionToFerry 32) (L := [some (.inl 12), some (.inr x), some (.inr p), some (.inr q)]) (st := []) rfl rfl rfl ?_
                                  show Ex _ _ (cod m0_objectionToFerry 32, [some (.inl 12), some (.inr x), some (.inr p), some (.inr q)], [.inr 3], rkp τ 2 p) _ _
                                  exact ex_r rfl trivial rfl (rIV (by unfold obF; (repeat (first | rw [if_pos (by omega)] | rw [if_neg (by omega)])); first | done | rfl) (by rw [if_pos (by unfold obF; (repeat (first | rw [if_pos (by omega)] | rw [if_neg (by omega)])); first | done | rfl)]; unfold rwF rdF; (repeat (first | rw [if_pos (by omega)] | rw [if_neg (by omega)])); first | done | rfl))))
                      · first
                        | (exfalso; omega)
                        | (
                            refine ex_k 3 (P := none) (g := (cod m0_objectionToFerry 20, [some (.inl 12), some (.inr x), some (.inr p), some (.inr q)], [.inr 8, .inr 1, .inl 12], τ)) rfl trivial ?_
                            refine ex_c (s_refuse (τ := τ) (w := 1) (d := 8) (Or.inl ⟨rfl, rfl, rfl, rfl⟩)) (is := cod m0_objectionToFerry 21) (L := [some (.inl 12), some (.inr x), some (.inr p), some (.inr q)]) (st := []) rfl rfl rfl ?_
                            show Ex _ _ (cod m0_objectionToFerry 21, [some (.inl 12), some (.inr x), some (.inr p), some (.inr q)], [.inr 3], rkp τ 1 8) _ _
                            exact ex_r rfl trivial rfl (rIV (by unfold obF; (repeat (first | rw [if_pos (by omega)] | rw [if_neg (by omega)])); first | done | rfl) (by rw [if_pos (by unfold obF; (repeat (first | rw [if_pos (by omega)] | rw [if_neg (by omega)])); first | done | rfl)]; unfold rwF rdF; (repeat (first | rw [if_pos (by omega)] | rw [if_neg (by omega)])); first | done | rfl))))
                · first
                  | (exfalso; have h3 := b2_nn0 h3; omega)
                  | (
                      have h3 := b2_nn0 h3
                      refine ex_k 1 (P := none) (g := (cod m0_objectionToFerry 10, [some (.inl 12), some (.inr x), some (.inr p), some (.inr q)], [.inr 2], τ)) rfl trivial ?_
                      exact ex_r rfl trivial rfl (rIV (by unfold obF; (repeat (first | rw [if_pos (by omega)] | rw [if_neg (by omega)])); first | done | rfl) (if_neg (by unfold obF; (repeat (first | rw [if_pos (by omega)] | rw [if_neg (by omega)])); first | omega | decide))))))
  · refine Ex.call ?_ rfl rfl
    show Ex _ _ (cod m0_objectionToFerry 0, [some (.inl 13), some (.inr x), some (.inr p), some (.inr q)], [], τ) _ _
    refine ex_k 1 (P := none) (g := (cod m0_objectionToFerry 1, [some (.inl 13), some (.inr x), some (.inr p), some (.inr q)], [.inr x], τ)) rfl trivial ?_
    refine ex_c (s_isSide (τ := τ) (z := x) ⟨by omega, by omega⟩) (is := cod m0_objectionToFerry 2) (L := [some (.inl 13), some (.inr x), some (.inr p), some (.inr q)]) (st := []) rfl rfl rfl ?_
    show Ex _ _ (cod m0_objectionToFerry 2, [some (.inl 13), some (.inr x), some (.inr p), some (.inr q)], [.inr (b2 (0 ≤ x ∧ x < 2))], τ) _ _
    refine ex_b (P := (b2 (0 ≤ x ∧ x < 2)) = 0) (ct := (cod m0_objectionToFerry 9, [some (.inl 13), some (.inr x), some (.inr p), some (.inr q)], [], τ)) (cf := (cod m0_objectionToFerry 3, [some (.inl 13), some (.inr x), some (.inr p), some (.inr q)], [], τ)) rfl b2_rng (fun h1 => ?_) (fun h1 => ?_)
    · first
      | (exfalso; have h1 := b2_e0 h1; omega)
      | (
          have h1 := b2_e0 h1
          refine ex_k 1 (P := none) (g := (cod m0_objectionToFerry 10, [some (.inl 13), some (.inr x), some (.inr p), some (.inr q)], [.inr 2], τ)) rfl trivial ?_
          exact ex_r rfl trivial rfl (rIV (by unfold obF; (repeat (first | rw [if_pos (by omega)] | rw [if_neg (by omega)])); first | done | rfl) (if_neg (by unfold obF; (repeat (first | rw [if_pos (by omega)] | rw [if_neg (by omega)])); first | omega | decide))))
    · first
      | (exfalso; have h1 := b2_n0 h1; omega)
      | (
          have h1 := b2_n0 h1
          refine ex_k 1 (P := none) (g := (cod m0_objectionToFerry 4, [some (.inl 13), some (.inr x), some (.inr p), some (.inr q)], [.inr p], τ)) rfl trivial ?_
          refine ex_c (s_isPlace (τ := τ) (z := p) ⟨by omega, by omega⟩) (is := cod m0_objectionToFerry 5) (L := [some (.inl 13), some (.inr x), some (.inr p), some (.inr q)]) (st := []) rfl rfl rfl ?_
          show Ex _ _ (cod m0_objectionToFerry 5, [some (.inl 13), some (.inr x), some (.inr p), some (.inr q)], [.inr (b2 (0 ≤ p ∧ p < 12))], τ) _ _
          refine ex_b (P := (b2 (0 ≤ p ∧ p < 12)) = 0) (ct := (cod m0_objectionToFerry 9, [some (.inl 13), some (.inr x), some (.inr p), some (.inr q)], [], τ)) (cf := (cod m0_objectionToFerry 6, [some (.inl 13), some (.inr x), some (.inr p), some (.inr q)], [], τ)) rfl b2_rng (fun h2 => ?_) (fun h2 => ?_)
          · first
            | (exfalso; have h2 := b2_e0 h2; omega)
            | (
                have h2 := b2_e0 h2
                refine ex_k 1 (P := none) (g := (cod m0_objectionToFerry 10, [some (.inl 13), some (.inr x), some (.inr p), some (.inr q)], [.inr 2], τ)) rfl trivial ?_
                exact ex_r rfl trivial rfl (rIV (by unfold obF; (repeat (first | rw [if_pos (by omega)] | rw [if_neg (by omega)])); first | done | rfl) (if_neg (by unfold obF; (repeat (first | rw [if_pos (by omega)] | rw [if_neg (by omega)])); first | omega | decide))))
          · first
            | (exfalso; have h2 := b2_n0 h2; omega)
            | (
                have h2 := b2_n0 h2
                refine ex_k 1 (P := none) (g := (cod m0_objectionToFerry 7, [some (.inl 13), some (.inr x), some (.inr p), some (.inr q)], [.inr q], τ)) rfl trivial ?_
                refine ex_c (s_isPlace (τ := τ) (z := q) ⟨by omega, by omega⟩) (is := cod m0_objectionToFerry 8) (L := [some (.inl 13), some (.inr x), some (.inr p), some (.inr q)]) (st := []) rfl rfl rfl ?_
                show Ex _ _ (cod m0_objectionToFerry 8, [some (.inl 13), some (.inr x), some (.inr p), some (.inr q)], [.inr (b2 (0 ≤ q ∧ q < 12))], τ) _ _
                refine ex_b (P := ¬ (b2 (0 ≤ q ∧ q < 12)) = 0) (ct := (cod m0_objectionToFerry 11, [some (.inl 13), some (.inr x), some (.inr p), some (.inr q)], [], τ)) (cf := (cod m0_objectionToFerry 9, [some (.inl 13), some (.inr x), some (.inr p), some (.inr q)], [], τ)) rfl b2_rng (fun h3 => ?_) (fun h3 => ?_)
                · first
                  | (exfalso; have h3 := b2_n0 h3; omega)
                  | (
                      have h3 := b2_n0 h3
                      refine ex_k 3 (P := none) (g := (cod m0_objectionToFerry 14, [some (.inl 13), some (.inr x), some (.inr p), some (.inr q)], [.inr 7, .inl 2], τ)) rfl trivial ?_
                      refine ex_c (s_total (τ := τ) (w := 7) (Or.inr (Or.inl ⟨rfl, rfl⟩)) (by omega)) (is := cod m0_objectionToFerry 15) (L := [some (.inl 13), some (.inr x), some (.inr p), some (.inr q)]) (st := []) rfl rfl rfl ?_
                      show Ex _ _ (cod m0_objectionToFerry 15, [some (.inl 13), some (.inr x), some (.inr p), some (.inr q)], [.inr (cel (τ 5) 107)], τ) _ _
                      refine ex_k 1 (P := none) (g := (cod m0_objectionToFerry 16, [some (.inl 13), some (.inr x), some (.inr p), some (.inr q)], [.inr 8, .inr (cel (τ 5) 107)], τ)) rfl trivial ?_
                      refine ex_b (P := (cel (τ 5) 107) < 8) (ct := (cod m0_objectionToFerry 22, [some (.inl 13), some (.inr x), some (.inr p), some (.inr q)], [], τ)) (cf := (cod m0_objectionToFerry 17, [some (.inl 13), some (.inr x), some (.inr p), some (.inr q)], [], τ)) rfl ⟨⟨by omega, by omega⟩, ⟨by decide, by decide⟩⟩ (fun h4 => ?_) (fun h4 => ?_)
                      · first
                        | (exfalso; omega)
                        | (
                            refine ex_k 4 (P := none) (g := (cod m0_objectionToFerry 26, [some (.inl 13), some (.inr x), some (.inr p), some (.inr q)], [.inr p, .inr 0, .inl 2], τ)) rfl trivial ?_
                            refine ex_c (s_isFree (τ := τ) (r := 0) (p := p) (Or.inr (Or.inl ⟨rfl, rfl⟩)) (by omega) ⟨by omega, by omega⟩ hS.bd) (is := cod m0_objectionToFerry 27) (L := [some (.inl 13), some (.inr x), some (.inr p), some (.inr q)]) (st := []) rfl rfl rfl ?_
                            show Ex _ _ (cod m0_objectionToFerry 27, [some (.inl 13), some (.inr x), some (.inr p), some (.inr q)], [.inr (b2 ((0 ≤ p ∧ p < 12) ∧ cel (τ 5) (48 + 0 * 12 + p) = -1))], τ) _ _
                            refine ex_b (P := ¬ (b2 ((0 ≤ p ∧ p < 12) ∧ cel (τ 5) (48 + 0 * 12 + p) = -1)) = 0) (ct := (cod m0_objectionToFerry 33, [some (.inl 13), some (.inr x), some (.inr p), some (.inr q)], [], τ)) (cf := (cod m0_objectionToFerry 28, [some (.inl 13), some (.inr x), some (.inr p), some (.inr q)], [], τ)) rfl b2_rng (fun h5 => ?_) (fun h5 => ?_)
                            · first
                              | (exfalso; have h5 := b2_n0 h5; omega)
                              | (
                                  have h5 := b2_n0 h5
                                  refine ex_k 4 (P := none) (g := (cod m0_objectionToFerry 37, [some (.inl 13), some (.inr x), some (.inr p), some (.inr q)], [.inr q, .inr 1, .inl 2], τ)) rfl trivial ?_
                                  refine ex_c (s_isFree (τ := τ) (r := 1) (p := q) (Or.inr (Or.inl ⟨rfl, rfl⟩)) (by omega) ⟨by omega, by omega⟩ hS.bd) (is := cod m0_objectionToFerry 38) (L := [some (.inl 13), some (.inr x), some (.inr p), some (.inr q)]) (st := []) rfl rfl rfl ?_
                                  show Ex _ _ (cod m0_objectionToFerry 38, [some (.inl 13), some (.inr x), some (.inr p), some (.inr q)], [.inr (b2 ((0 ≤ q ∧ q < 12) ∧ cel (τ 5) (48 + 1 * 12 + q) = -1))], τ) _ _
                                  refine ex_b (P := (b2 ((0 ≤ q ∧ q < 12) ∧ cel (τ 5) (48 + 1 * 12 + q) = -1)) = 0) (ct := (cod m0_objectionToFerry 41, [some (.inl 13), some (.inr x), some (.inr p), some (.inr q)], [], τ)) (cf := (cod m0_objectionToFerry 39, [some (.inl 13), some (.inr x), some (.inr p), some (.inr q)], [], τ)) rfl b2_rng (fun h6 => ?_) (fun h6 => ?_)
                                  · first
                                    | (exfalso; have h6 := b2_e0 h6; omega)
                                    | (
                                        have h6 := b2_e0 h6
                                        refine ex_k 3 (P := none) (g := (cod m0_objectionToFerry 44, [some (.inl 13), some (.inr x), some (.inr p), some (.inr q)], [.inr q, .inr 2, .inl 13], τ)) rfl trivial ?_
                                        refine ex_c (s_refuse (τ := τ) (w := 2) (d := q) (Or.inr ⟨rfl, rfl, rfl, rfl⟩)) (is := cod m0_objectionToFerry 45) (L := [some (.inl 13), some (.inr x), some (.inr p), some (.inr q)]) (st := []) rfl rfl rfl ?_
                                        show Ex _ _ (cod m0_objectionToFerry 45, [some (.inl 13), some (.inr x), some (.inr p), some (.inr q)], [.inr 3], rkp τ 2 q) _ _
                                        exact ex_r rfl trivial rfl (rIV (by unfold obF; (repeat (first | rw [if_pos (by omega)] | rw [if_neg (by omega)])); first | done | rfl) (by rw [if_pos (by unfold obF; (repeat (first | rw [if_pos (by omega)] | rw [if_neg (by omega)])); first | done | rfl)]; unfold rwF rdF; (repeat (first | rw [if_pos (by omega)] | rw [if_neg (by omega)])); first | done | rfl)))
                                  · first
                                    | (exfalso; have h6 := b2_n0 h6; omega)
                                    | (
                                        have h6 := b2_n0 h6
                                        refine ex_k 2 (P := none) (g := (cod m0_objectionToFerry 45, [some (.inl 13), some (.inr x), some (.inr p), some (.inr q)], [.inr 0], τ)) rfl trivial ?_
                                        exact ex_r rfl trivial rfl (rIV (by unfold obF; (repeat (first | rw [if_pos (by omega)] | rw [if_neg (by omega)])); first | done | rfl) (if_neg (by unfold obF; (repeat (first | rw [if_pos (by omega)] | rw [if_neg (by omega)])); first | omega | decide)))))
                            · first
                              | (exfalso; have h5 := b2_nn0 h5; omega)
                              | (
                                  have h5 := b2_nn0 h5
                                  refine ex_k 3 (P := none) (g := (cod m0_objectionToFerry 31, [some (.inl 13), some (.inr x), some (.inr p), some (.inr q)], [.inr p, .inr 2, .inl 13], τ)) rfl trivial ?_
                                  refine ex_c (s_refuse (τ := τ) (w := 2) (d := p) (Or.inr ⟨rfl, rfl, rfl, rfl⟩)) (is := cod m0_objectionToFerry 32) (L := [some (.inl 13), some (.inr x), some (.inr p), some (.inr q)]) (st := []) rfl rfl rfl ?_
                                  show Ex _ _ (cod m0_objectionToFerry 32, [some (.inl 13), some (.inr x), some (.inr p), some (.inr q)], [.inr 3], rkp τ 2 p) _ _
                                  exact ex_r rfl trivial rfl (rIV (by unfold obF; (repeat (first | rw [if_pos (by omega)] | rw [if_neg (by omega)])); first | done | rfl) (by rw [if_pos (by unfold obF; (repeat (first | rw [if_pos (by omega)] | rw [if_neg (by omega)])); first | done | rfl)]; unfold rwF rdF; (repeat (first | rw [if_pos (by omega)] | rw [if_neg (by omega)])); first | done | rfl))))
                      · first
                        | (exfalso; omega)
                        | (
                            refine ex_k 3 (P := none) (g := (cod m0_objectionToFerry 20, [some (.inl 13), some (.inr x), some (.inr p), some (.inr q)], [.inr 8, .inr 1, .inl 13], τ)) rfl trivial ?_
                            refine ex_c (s_refuse (τ := τ) (w := 1) (d := 8) (Or.inr ⟨rfl, rfl, rfl, rfl⟩)) (is := cod m0_objectionToFerry 21) (L := [some (.inl 13), some (.inr x), some (.inr p), some (.inr q)]) (st := []) rfl rfl rfl ?_
                            show Ex _ _ (cod m0_objectionToFerry 21, [some (.inl 13), some (.inr x), some (.inr p), some (.inr q)], [.inr 3], rkp τ 1 8) _ _
                            exact ex_r rfl trivial rfl (rIV (by unfold obF; (repeat (first | rw [if_pos (by omega)] | rw [if_neg (by omega)])); first | done | rfl) (by rw [if_pos (by unfold obF; (repeat (first | rw [if_pos (by omega)] | rw [if_neg (by omega)])); first | done | rfl)]; unfold rwF rdF; (repeat (first | rw [if_pos (by omega)] | rw [if_neg (by omega)])); first | done | rfl))))
                · first
                  | (exfalso; have h3 := b2_nn0 h3; omega)
                  | (
                      have h3 := b2_nn0 h3
                      refine ex_k 1 (P := none) (g := (cod m0_objectionToFerry 10, [some (.inl 13), some (.inr x), some (.inr p), some (.inr q)], [.inr 2], τ)) rfl trivial ?_
                      exact ex_r rfl trivial rfl (rIV (by unfold obF; (repeat (first | rw [if_pos (by omega)] | rw [if_neg (by omega)])); first | done | rfl) (if_neg (by unfold obF; (repeat (first | rw [if_pos (by omega)] | rw [if_neg (by omega)])); first | omega | decide))))))
theorem s_objT {δ γ ρ a : Nat} {r p : Int} {τ : SZ} (hδ : DA δ γ ρ a) (hr : Rng r) (hp : Rng p) {B : Int} (hS : Sh B (τ a)) : RZ 4 m0_objectionToTug [.inl δ, .inr r, .inr p] τ (.inl (some (.inr (obT (τ a) r p)), if obT (τ a) r p = 3 then rkp τ (rwT (τ a) r) (rdT (τ a) r p) else τ)) := by
  have hN := hS.n
  obtain ⟨hr1, hr2⟩ := hr
  obtain ⟨hp1, hp2⟩ := hp
  have ht : 0 ≤ sm (fun k => b2 (whz (τ a) r (k : Int) = 8)) 12 ∧ sm (fun k => b2 (whz (τ a) r (k : Int) = 8)) 12 ≤ ((12 : Nat) : Int) := sm_01 (fun k _ => b2_01)
  rcases hδ with ⟨rfl, rfl, rfl, rfl⟩ | ⟨rfl, rfl, rfl, rfl⟩
  · refine Ex.call ?_ rfl rfl
    show Ex _ _ (cod m0_objectionToTug 0, [some (.inl 12), some (.inr r), some (.inr p)], [], τ) _ _
    refine ex_k 1 (P := none) (g := (cod m0_objectionToTug 1, [some (.inl 12), some (.inr r), some (.inr p)], [.inr r], τ)) rfl trivial ?_
    refine ex_c (s_isRiver (τ := τ) (z := r) ⟨by omega, by omega⟩) (is := cod m0_objectionToTug 2) (L := [some (.inl 12), some (.inr r), some (.inr p)]) (st := []) rfl rfl rfl ?_
    show Ex _ _ (cod m0_objectionToTug 2, [some (.inl 12), some (.inr r), some (.inr p)], [.inr (b2 (0 ≤ r ∧ r < 2))], τ) _ _
    refine ex_b (P := (b2 (0 ≤ r ∧ r < 2)) = 0) (ct := (cod m0_objectionToTug 6, [some (.inl 12), some (.inr r), some (.inr p)], [], τ)) (cf := (cod m0_objectionToTug 3, [some (.inl 12), some (.inr r), some (.inr p)], [], τ)) rfl b2_rng (fun h1 => ?_) (fun h1 => ?_)
    · first
      | (exfalso; have h1 := b2_e0 h1; omega)
      | (
          have h1 := b2_e0 h1
          refine ex_k 1 (P := none) (g := (cod m0_objectionToTug 7, [some (.inl 12), some (.inr r), some (.inr p)], [.inr 1], τ)) rfl trivial ?_
          exact ex_r rfl trivial rfl (rIV (by unfold obT; (repeat (first | rw [if_pos (by omega)] | rw [if_neg (by omega)])); first | done | rfl) (if_neg (by unfold obT; (repeat (first | rw [if_pos (by omega)] | rw [if_neg (by omega)])); first | omega | decide))))
    · first
      | (exfalso; have h1 := b2_n0 h1; omega)
      | (
          have h1 := b2_n0 h1
          refine ex_k 1 (P := none) (g := (cod m0_objectionToTug 4, [some (.inl 12), some (.inr r), some (.inr p)], [.inr p], τ)) rfl trivial ?_
          refine ex_c (s_isPlace (τ := τ) (z := p) ⟨by omega, by omega⟩) (is := cod m0_objectionToTug 5) (L := [some (.inl 12), some (.inr r), some (.inr p)]) (st := []) rfl rfl rfl ?_
          show Ex _ _ (cod m0_objectionToTug 5, [some (.inl 12), some (.inr r), some (.inr p)], [.inr (b2 (0 ≤ p ∧ p < 12))], τ) _ _
          refine ex_b (P := ¬ (b2 (0 ≤ p ∧ p < 12)) = 0) (ct := (cod m0_objectionToTug 8, [some (.inl 12), some (.inr r), some (.inr p)], [], τ)) (cf := (cod m0_objectionToTug 6, [some (.inl 12), some (.inr r), some (.inr p)], [], τ)) rfl b2_rng (fun h2 => ?_) (fun h2 => ?_)
          · first
            | (exfalso; have h2 := b2_n0 h2; omega)
            | (
                have h2 := b2_n0 h2
                refine ex_k 3 (P := none) (g := (cod m0_objectionToTug 11, [some (.inl 12), some (.inr r), some (.inr p)], [.inr r, .inl 1], τ)) rfl trivial ?_
                refine ex_c (s_tugsOn (τ := τ) (r := r) (Or.inl ⟨rfl, rfl⟩) (by omega) hS.bd) (is := cod m0_objectionToTug 12) (L := [some (.inl 12), some (.inr r), some (.inr p)]) (st := []) rfl rfl rfl ?_
                show Ex _ _ (cod m0_objectionToTug 12, [some (.inl 12), some (.inr r), some (.inr p)], [.inr (sm (fun k => b2 (whz (τ 4) r (k : Int) = 8)) 12)], τ) _ _
                refine ex_k 1 (P := none) (g := (cod m0_objectionToTug 13, [some (.inl 12), some (.inr r), some (.inr p)], [.inr 4, .inr (sm (fun k => b2 (whz (τ 4) r (k : Int) = 8)) 12)], τ)) rfl trivial ?_
                refine ex_b (P := (sm (fun k => b2 (whz (τ 4) r (k : Int) = 8)) 12) < 4) (ct := (cod m0_objectionToTug 19, [some (.inl 12), some (.inr r), some (.inr p)], [], τ)) (cf := (cod m0_objectionToTug 14, [some (.inl 12), some (.inr r), some (.inr p)], [], τ)) rfl ⟨⟨by omega, by omega⟩, ⟨by decide, by decide⟩⟩ (fun h3 => ?_) (fun h3 => ?_)
                · first
                  | (exfalso; omega)
                  | (
                      refine ex_k 4 (P := none) (g := (cod m0_objectionToTug 23, [some (.inl 12), some (.inr r), some (.inr p)], [.inr p, .inr r, .inl 1], τ)) rfl trivial ?_
                      refine ex_c (s_isFree (τ := τ) (r := r) (p := p) (Or.inl ⟨rfl, rfl⟩) (by omega) ⟨by omega, by omega⟩ hS.bd) (is := cod m0_objectionToTug 24) (L := [some (.inl 12), some (.inr r), some (.inr p)]) (st := []) rfl rfl rfl ?_
                      show Ex _ _ (cod m0_objectionToTug 24, [some (.inl 12), some (.inr r), some (.inr p)], [.inr (b2 ((0 ≤ p ∧ p < 12) ∧ cel (τ 4) (48 + r * 12 + p) = -1))], τ) _ _
                      refine ex_b (P := (b2 ((0 ≤ p ∧ p < 12) ∧ cel (τ 4) (48 + r * 12 + p) = -1)) = 0) (ct := (cod m0_objectionToTug 27, [some (.inl 12), some (.inr r), some (.inr p)], [], τ)) (cf := (cod m0_objectionToTug 25, [some (.inl 12), some (.inr r), some (.inr p)], [], τ)) rfl b2_rng (fun h4 => ?_) (fun h4 => ?_)
                      · first
                        | (exfalso; have h4 := b2_e0 h4; omega)
                        | (
                            have h4 := b2_e0 h4
                            refine ex_k 3 (P := none) (g := (cod m0_objectionToTug 30, [some (.inl 12), some (.inr r), some (.inr p)], [.inr p, .inr 2, .inl 12], τ)) rfl trivial ?_
                            refine ex_c (s_refuse (τ := τ) (w := 2) (d := p) (Or.inl ⟨rfl, rfl, rfl, rfl⟩)) (is := cod m0_objectionToTug 31) (L := [some (.inl 12), some (.inr r), some (.inr p)]) (st := []) rfl rfl rfl ?_
                            show Ex _ _ (cod m0_objectionToTug 31, [some (.inl 12), some (.inr r), some (.inr p)], [.inr 3], rkp τ 2 p) _ _
                            exact ex_r rfl trivial rfl (rIV (by unfold obT; (repeat (first | rw [if_pos (by omega)] | rw [if_neg (by omega)])); first | done | rfl) (by rw [if_pos (by unfold obT; (repeat (first | rw [if_pos (by omega)] | rw [if_neg (by omega)])); first | done | rfl)]; unfold rwT rdT; (repeat (first | rw [if_pos (by omega)] | rw [if_neg (by omega)])); first | done | rfl)))
                      · first
                        | (exfalso; have h4 := b2_n0 h4; omega)
                        | (
                            have h4 := b2_n0 h4
                            refine ex_k 2 (P := none) (g := (cod m0_objectionToTug 31, [some (.inl 12), some (.inr r), some (.inr p)], [.inr 0], τ)) rfl trivial ?_
                            exact ex_r rfl trivial rfl (rIV (by unfold obT; (repeat (first | rw [if_pos (by omega)] | rw [if_neg (by omega)])); first | done | rfl) (if_neg (by unfold obT; (repeat (first | rw [if_pos (by omega)] | rw [if_neg (by omega)])); first | omega | decide)))))
                · first
                  | (exfalso; omega)
                  | (
                      refine ex_k 3 (P := none) (g := (cod m0_objectionToTug 17, [some (.inl 12), some (.inr r), some (.inr p)], [.inr 4, .inr 1, .inl 12], τ)) rfl trivial ?_
                      refine ex_c (s_refuse (τ := τ) (w := 1) (d := 4) (Or.inl ⟨rfl, rfl, rfl, rfl⟩)) (is := cod m0_objectionToTug 18) (L := [some (.inl 12), some (.inr r), some (.inr p)]) (st := []) rfl rfl rfl ?_
                      show Ex _ _ (cod m0_objectionToTug 18, [some (.inl 12), some (.inr r), some (.inr p)], [.inr 3], rkp τ 1 4) _ _
                      exact ex_r rfl trivial rfl (rIV (by unfold obT; (repeat (first | rw [if_pos (by omega)] | rw [if_neg (by omega)])); first | done | rfl) (by rw [if_pos (by unfold obT; (repeat (first | rw [if_pos (by omega)] | rw [if_neg (by omega)])); first | done | rfl)]; unfold rwT rdT; (repeat (first | rw [if_pos (by omega)] | rw [if_neg (by omega)])); first | done | rfl))))
          · first
            | (exfalso; have h2 := b2_nn0 h2; omega)
            | (
                have h2 := b2_nn0 h2
                refine ex_k 1 (P := none) (g := (cod m0_objectionToTug 7, [some (.inl 12), some (.inr r), some (.inr p)], [.inr 1], τ)) rfl trivial ?_
                exact ex_r rfl trivial rfl (rIV (by unfold obT; (repeat (first | rw [if_pos (by omega)] | rw [if_neg (by omega)])); first | done | rfl) (if_neg (by unfold obT; (repeat (first | rw [if_pos (by omega)] | rw [if_neg (by omega)])); first | omega | decide)))))
  · refine Ex.call ?_ rfl rfl
    show Ex _ _ (cod m0_objectionToTug 0, [some (.inl 13), some (.inr r), some (.inr p)], [], τ) _ _
    refine ex_k 1 (P := none) (g := (cod m0_objectionToTug 1, [some (.inl 13), some (.inr r), some (.inr p)], [.inr r], τ)) rfl trivial ?_
    refine ex_c (s_isRiver (τ := τ) (z := r) ⟨by omega, by omega⟩) (is := cod m0_objectionToTug 2) (L := [some (.inl 13), some (.inr r), some (.inr p)]) (st := []) rfl rfl rfl ?_
    show Ex _ _ (cod m0_objectionToTug 2, [some (.inl 13), some (.inr r), some (.inr p)], [.inr (b2 (0 ≤ r ∧ r < 2))], τ) _ _
    refine ex_b (P := (b2 (0 ≤ r ∧ r < 2)) = 0) (ct := (cod m0_objectionToTug 6, [some (.inl 13), some (.inr r), some (.inr p)], [], τ)) (cf := (cod m0_objectionToTug 3, [some (.inl 13), some (.inr r), some (.inr p)], [], τ)) rfl b2_rng (fun h1 => ?_) (fun h1 => ?_)
    · first
      | (exfalso; have h1 := b2_e0 h1; omega)
      | (
          have h1 := b2_e0 h1
          refine ex_k 1 (P := none) (g := (cod m0_objectionToTug 7, [some (.inl 13), some (.inr r), some (.inr p)], [.inr 1], τ)) rfl trivial ?_
          exact ex_r rfl trivial rfl (rIV (by unfold obT; (repeat (first | rw [if_pos (by omega)] | rw [if_neg (by omega)])); first | done | rfl) (if_neg (by unfold obT; (repeat (first | rw [if_pos (by omega)] | rw [if_neg (by omega)])); first | omega | decide))))
    · first
      | (exfalso; have h1 := b2_n0 h1; omega)
      | (
          have h1 := b2_n0 h1
          refine ex_k 1 (P := none) (g := (cod m0_objectionToTug 4, [some (.inl 13), some (.inr r), some (.inr p)], [.inr p], τ)) rfl trivial ?_
          refine ex_c (s_isPlace (τ := τ) (z := p) ⟨by omega, by omega⟩) (is := cod m0_objectionToTug 5) (L := [some (.inl 13), some (.inr r), some (.inr p)]) (st := []) rfl rfl rfl ?_
          show Ex _ _ (cod m0_objectionToTug 5, [some (.inl 13), some (.inr r), some (.inr p)], [.inr (b2 (0 ≤ p ∧ p < 12))], τ) _ _
          refine ex_b (P := ¬ (b2 (0 ≤ p ∧ p < 12)) = 0) (ct := (cod m0_objectionToTug 8, [some (.inl 13), some (.inr r), some (.inr p)], [], τ)) (cf := (cod m0_objectionToTug 6, [some (.inl 13), some (.inr r), some (.inr p)], [], τ)) rfl b2_rng (fun h2 => ?_) (fun h2 => ?_)
          · first
            | (exfalso; have h2 := b2_n0 h2; omega)
            | (
                have h2 := b2_n0 h2
                refine ex_k 3 (P := none) (g := (cod m0_objectionToTug 11, [some (.inl 13), some (.inr r), some (.inr p)], [.inr r, .inl 2], τ)) rfl trivial ?_
                refine ex_c (s_tugsOn (τ := τ) (r := r) (Or.inr (Or.inl ⟨rfl, rfl⟩)) (by omega) hS.bd) (is := cod m0_objectionToTug 12) (L := [some (.inl 13), some (.inr r), some (.inr p)]) (st := []) rfl rfl rfl ?_
                show Ex _ _ (cod m0_objectionToTug 12, [some (.inl 13), some (.inr r), some (.inr p)], [.inr (sm (fun k => b2 (whz (τ 5) r (k : Int) = 8)) 12)], τ) _ _
                refine ex_k 1 (P := none) (g := (cod m0_objectionToTug 13, [some (.inl 13), some (.inr r), some (.inr p)], [.inr 4, .inr (sm (fun k => b2 (whz (τ 5) r (k : Int) = 8)) 12)], τ)) rfl trivial ?_
                refine ex_b (P := (sm (fun k => b2 (whz (τ 5) r (k : Int) = 8)) 12) < 4) (ct := (cod m0_objectionToTug 19, [some (.inl 13), some (.inr r), some (.inr p)], [], τ)) (cf := (cod m0_objectionToTug 14, [some (.inl 13), some (.inr r), some (.inr p)], [], τ)) rfl ⟨⟨by omega, by omega⟩, ⟨by decide, by decide⟩⟩ (fun h3 => ?_) (fun h3 => ?_)
                · first
                  | (exfalso; omega)
                  | (
                      refine ex_k 4 (P := none) (g := (cod m0_objectionToTug 23, [some (.inl 13), some (.inr r), some (.inr p)], [.inr p, .inr r, .inl 2], τ)) rfl trivial ?_
                      refine ex_c (s_isFree (τ := τ) (r := r) (p := p) (Or.inr (Or.inl ⟨rfl, rfl⟩)) (by omega) ⟨by omega, by omega⟩ hS.bd) (is := cod m0_objectionToTug 24) (L := [some (.inl 13), some (.inr r), some (.inr p)]) (st := []) rfl rfl rfl ?_
                      show Ex _ _ (cod m0_objectionToTug 24, [some (.inl 13), some (.inr r), some (.inr p)], [.inr (b2 ((0 ≤ p ∧ p < 12) ∧ cel (τ 5) (48 + r * 12 + p) = -1))], τ) _ _
                      refine ex_b (P := (b2 ((0 ≤ p ∧ p < 12) ∧ cel (τ 5) (48 + r * 12 + p) = -1)) = 0) (ct := (cod m0_objectionToTug 27, [some (.inl 13), some (.inr r), some (.inr p)], [], τ)) (cf := (cod m0_objectionToTug 25, [some (.inl 13), some (.inr r), some (.inr p)], [], τ)) rfl b2_rng (fun h4 => ?_) (fun h4 => ?_)
                      · first
                        | (exfalso; have h4 := b2_e0 h4; omega)
                        | (
                            have h4 := b2_e0 h4
                            refine ex_k 3 (P := none) (g := (cod m0_objectionToTug 30, [some (.inl 13), some (.inr r), some (.inr p)], [.inr p, .inr 2, .inl 13], τ)) rfl trivial ?_
                            refine ex_c (s_refuse (τ := τ) (w := 2) (d := p) (Or.inr ⟨rfl, rfl, rfl, rfl⟩)) (is := cod m0_objectionToTug 31) (L := [some (.inl 13), some (.inr r), some (.inr p)]) (st := []) rfl rfl rfl ?_
                            show Ex _ _ (cod m0_objectionToTug 31, [some (.inl 13), some (.inr r), some (.inr p)], [.inr 3], rkp τ 2 p) _ _
                            exact ex_r rfl trivial rfl (rIV (by unfold obT; (repeat (first | rw [if_pos (by omega)] | rw [if_neg (by omega)])); first | done | rfl) (by rw [if_pos (by unfold obT; (repeat (first | rw [if_pos (by omega)] | rw [if_neg (by omega)])); first | done | rfl)]; unfold rwT rdT; (repeat (first | rw [if_pos (by omega)] | rw [if_neg (by omega)])); first | done | rfl)))
                      · first
                        | (exfalso; have h4 := b2_n0 h4; omega)
                        | (
                            have h4 := b2_n0 h4
                            refine ex_k 2 (P := none) (g := (cod m0_objectionToTug 31, [some (.inl 13), some (.inr r), some (.inr p)], [.inr 0], τ)) rfl trivial ?_
                            exact ex_r rfl trivial rfl (rIV (by unfold obT; (repeat (first | rw [if_pos (by omega)] | rw [if_neg (by omega)])); first | done | rfl) (if_neg (by unfold obT; (repeat (first | rw [if_pos (by omega)] | rw [if_neg (by omega)])); first | omega | decide)))))
                · first
                  | (exfalso; omega)
                  | (
                      refine ex_k 3 (P := none) (g := (cod m0_objectionToTug 17, [some (.inl 13), some (.inr r), some (.inr p)], [.inr 4, .inr 1, .inl 13], τ)) rfl trivial ?_
                      refine ex_c (s_refuse (τ := τ) (w := 1) (d := 4) (Or.inr ⟨rfl, rfl, rfl, rfl⟩)) (is := cod m0_objectionToTug 18) (L := [some (.inl 13), some (.inr r), some (.inr p)]) (st := []) rfl rfl rfl ?_
                      show Ex _ _ (cod m0_objectionToTug 18, [some (.inl 13), some (.inr r), some (.inr p)], [.inr 3], rkp τ 1 4) _ _
                      exact ex_r rfl trivial rfl (rIV (by unfold obT; (repeat (first | rw [if_pos (by omega)] | rw [if_neg (by omega)])); first | done | rfl) (by rw [if_pos (by unfold obT; (repeat (first | rw [if_pos (by omega)] | rw [if_neg (by omega)])); first | done | rfl)]; unfold rwT rdT; (repeat (first | rw [if_pos (by omega)] | rw [if_neg (by omega)])); first | done | rfl))))
          · first
            | (exfalso; have h2 := b2_nn0 h2; omega)
            | (
                have h2 := b2_nn0 h2
                refine ex_k 1 (P := none) (g := (cod m0_objectionToTug 7, [some (.inl 13), some (.inr r), some (.inr p)], [.inr 1], τ)) rfl trivial ?_
                exact ex_r rfl trivial rfl (rIV (by unfold obT; (repeat (first | rw [if_pos (by omega)] | rw [if_neg (by omega)])); first | done | rfl) (if_neg (by unfold obT; (repeat (first | rw [if_pos (by omega)] | rw [if_neg (by omega)])); first | omega | decide)))))
theorem s_objL {δ γ ρ a : Nat} {r p v : Int} {τ : SZ} (hδ : DA δ γ ρ a) (hr : Rng r) (hp : Rng p) (hv : Rng v) {B : Int} (hS : Sh B (τ a)) : RZ 4 m0_objectionToLock [.inl δ, .inr r, .inr p, .inr v] τ (.inl (some (.inr (obL (τ a) r p v)), if obL (τ a) r p v = 3 then rkp τ 3 v else τ)) := by
  obtain ⟨hr1, hr2⟩ := hr
  obtain ⟨hp1, hp2⟩ := hp
  obtain ⟨hv1, hv2⟩ := hv
  have hu : 0 ≤ r → r < 2 → 0 ≤ usz (τ a) r p ∧ usz (τ a) r p ≤ 3 := fun q1 q2 => hS.us ⟨q1, q2⟩
  rcases hδ with ⟨rfl, rfl, rfl, rfl⟩ | ⟨rfl, rfl, rfl, rfl⟩
  · refine Ex.call ?_ rfl rfl
    show Ex _ _ (cod m0_objectionToLock 0, [some (.inl 12), some (.inr r), some (.inr p), some (.inr v)], [], τ) _ _
    refine ex_k 1 (P := none) (g := (cod m0_objectionToLock 1, [some (.inl 12), some (.inr r), some (.inr p), some (.inr v)], [.inr r], τ)) rfl trivial ?_
    refine ex_c (s_isRiver (τ := τ) (z := r) ⟨by omega, by omega⟩) (is := cod m0_objectionToLock 2) (L := [some (.inl 12), some (.inr r), some (.inr p), some (.inr v)]) (st := []) rfl rfl rfl ?_
    show Ex _ _ (cod m0_objectionToLock 2, [some (.inl 12), some (.inr r), some (.inr p), some (.inr v)], [.inr (b2 (0 ≤ r ∧ r < 2))], τ) _ _
    refine ex_b (P := (b2 (0 ≤ r ∧ r < 2)) = 0) (ct := (cod m0_objectionToLock 6, [some (.inl 12), some (.inr r), some (.inr p), some (.inr v)], [], τ)) (cf := (cod m0_objectionToLock 3, [some (.inl 12), some (.inr r), some (.inr p), some (.inr v)], [], τ)) rfl b2_rng (fun h1 => ?_) (fun h1 => ?_)
    · first
      | (exfalso; have h1 := b2_e0 h1; omega)
      | (
          have h1 := b2_e0 h1
          refine ex_k 1 (P := none) (g := (cod m0_objectionToLock 7, [some (.inl 12), some (.inr r), some (.inr p), some (.inr v)], [.inr 1], τ)) rfl trivial ?_
          exact ex_r rfl trivial rfl (rIV (by unfold obL; (repeat (first | rw [if_pos (by omega)] | rw [if_neg (by omega)])); first | done | rfl) (if_neg (by unfold obL; (repeat (first | rw [if_pos (by omega)] | rw [if_neg (by omega)])); first | omega | decide))))
    · first
      | (exfalso; have h1 := b2_n0 h1; omega)
      | (
          have h1 := b2_n0 h1
          refine ex_k 1 (P := none) (g := (cod m0_objectionToLock 4, [some (.inl 12), some (.inr r), some (.inr p), some (.inr v)], [.inr p], τ)) rfl trivial ?_
          refine ex_c (s_isPlace (τ := τ) (z := p) ⟨by omega, by omega⟩) (is := cod m0_objectionToLock 5) (L := [some (.inl 12), some (.inr r), some (.inr p), some (.inr v)]) (st := []) rfl rfl rfl ?_
          show Ex _ _ (cod m0_objectionToLock 5, [some (.inl 12), some (.inr r), some (.inr p), some (.inr v)], [.inr (b2 (0 ≤ p ∧ p < 12))], τ) _ _
          refine ex_b (P := ¬ (b2 (0 ≤ p ∧ p < 12)) = 0) (ct := (cod m0_objectionToLock 8, [some (.inl 12), some (.inr r), some (.inr p), some (.inr v)], [], τ)) (cf := (cod m0_objectionToLock 6, [some (.inl 12), some (.inr r), some (.inr p), some (.inr v)], [], τ)) rfl b2_rng (fun h2 => ?_) (fun h2 => ?_)
          · first
            | (exfalso; have h2 := b2_n0 h2; omega)
            | (
                have h2 := b2_n0 h2
                refine ex_k 1 (P := none) (g := (cod m0_objectionToLock 9, [some (.inl 12), some (.inr r), some (.inr p), some (.inr v)], [.inr v], τ)) rfl trivial ?_
                refine ex_b (P := v < 0) (ct := (cod m0_objectionToLock 13, [some (.inl 12), some (.inr r), some (.inr p), some (.inr v)], [], τ)) (cf := (cod m0_objectionToLock 10, [some (.inl 12), some (.inr r), some (.inr p), some (.inr v)], [], τ)) rfl ⟨by omega, by omega⟩ (fun h3 => ?_) (fun h3 => ?_)
                · first
                  | (exfalso; omega)
                  | (
                      refine ex_k 1 (P := none) (g := (cod m0_objectionToLock 14, [some (.inl 12), some (.inr r), some (.inr p), some (.inr v)], [.inr 2], τ)) rfl trivial ?_
                      exact ex_r rfl trivial rfl (rIV (by unfold obL; (repeat (first | rw [if_pos (by omega)] | rw [if_neg (by omega)])); first | done | rfl) (if_neg (by unfold obL; (repeat (first | rw [if_pos (by omega)] | rw [if_neg (by omega)])); first | omega | decide))))
                · first
                  | (exfalso; omega)
                  | (
                      refine ex_k 2 (P := none) (g := (cod m0_objectionToLock 12, [some (.inl 12), some (.inr r), some (.inr p), some (.inr v)], [.inr 3, .inr v], τ)) rfl trivial ?_
                      refine ex_b (P := v ≤ 3) (ct := (cod m0_objectionToLock 15, [some (.inl 12), some (.inr r), some (.inr p), some (.inr v)], [], τ)) (cf := (cod m0_objectionToLock 13, [some (.inl 12), some (.inr r), some (.inr p), some (.inr v)], [], τ)) rfl ⟨⟨by omega, by omega⟩, ⟨by decide, by decide⟩⟩ (fun h4 => ?_) (fun h4 => ?_)
                      · first
                        | (exfalso; omega)
                        | (
                            refine ex_k 4 (P := none) (g := (cod m0_objectionToLock 19, [some (.inl 12), some (.inr r), some (.inr p), some (.inr v)], [.inr p, .inr r, .inl 1], τ)) rfl trivial ?_
                            refine ex_c (s_usesAt (τ := τ) (r := r) (p := p) (Or.inl ⟨rfl, rfl⟩) (by omega) ⟨by omega, by omega⟩) (is := cod m0_objectionToLock 20) (L := [some (.inl 12), some (.inr r), some (.inr p), some (.inr v)]) (st := []) rfl rfl rfl ?_
                            show Ex _ _ (cod m0_objectionToLock 20, [some (.inl 12), some (.inr r), some (.inr p), some (.inr v)], [.inr (usz (τ 4) r p)], τ) _ _
                            refine ex_k 1 (P := none) (g := (cod m0_objectionToLock 21, [some (.inl 12), some (.inr r), some (.inr p), some (.inr v)], [.inr v, .inr (usz (τ 4) r p)], τ)) rfl trivial ?_
                            refine ex_b (P := ¬ (usz (τ 4) r p) = v) (ct := (cod m0_objectionToLock 27, [some (.inl 12), some (.inr r), some (.inr p), some (.inr v)], [], τ)) (cf := (cod m0_objectionToLock 22, [some (.inl 12), some (.inr r), some (.inr p), some (.inr v)], [], τ)) rfl ⟨⟨by omega, by omega⟩, ⟨by omega, by omega⟩⟩ (fun h5 => ?_) (fun h5 => ?_)
                            · first
                              | (exfalso; omega)
                              | (
                                  refine ex_k 1 (P := none) (g := (cod m0_objectionToLock 28, [some (.inl 12), some (.inr r), some (.inr p), some (.inr v)], [.inr 0], τ)) rfl trivial ?_
                                  exact ex_r rfl trivial rfl (rIV (by unfold obL; (repeat (first | rw [if_pos (by omega)] | rw [if_neg (by omega)])); first | done | rfl) (if_neg (by unfold obL; (repeat (first | rw [if_pos (by omega)] | rw [if_neg (by omega)])); first | omega | decide))))
                            · first
                              | (exfalso; omega)
                              | (
                                  refine ex_k 3 (P := none) (g := (cod m0_objectionToLock 25, [some (.inl 12), some (.inr r), some (.inr p), some (.inr v)], [.inr v, .inr 3, .inl 12], τ)) rfl trivial ?_
                                  refine ex_c (s_refuse (τ := τ) (w := 3) (d := v) (Or.inl ⟨rfl, rfl, rfl, rfl⟩)) (is := cod m0_objectionToLock 26) (L := [some (.inl 12), some (.inr r), some (.inr p), some (.inr v)]) (st := []) rfl rfl rfl ?_
                                  show Ex _ _ (cod m0_objectionToLock 26, [some (.inl 12), some (.inr r), some (.inr p), some (.inr v)], [.inr 3], rkp τ 3 v) _ _
                                  refine ex_k 1 (P := none) (g := (cod m0_objectionToLock 28, [some (.inl 12), some (.inr r), some (.inr p), some (.inr v)], [.inr 3], rkp τ 3 v)) rfl trivial ?_
                                  exact ex_r rfl trivial rfl (rIV (by unfold obL; (repeat (first | rw [if_pos (by omega)] | rw [if_neg (by omega)])); first | done | rfl) (by rw [if_pos (by unfold obL; (repeat (first | rw [if_pos (by omega)] | rw [if_neg (by omega)])); first | done | rfl)]))))
                      · first
                        | (exfalso; omega)
                        | (
                            refine ex_k 1 (P := none) (g := (cod m0_objectionToLock 14, [some (.inl 12), some (.inr r), some (.inr p), some (.inr v)], [.inr 2], τ)) rfl trivial ?_
                            exact ex_r rfl trivial rfl (rIV (by unfold obL; (repeat (first | rw [if_pos (by omega)] | rw [if_neg (by omega)])); first | done | rfl) (if_neg (by unfold obL; (repeat (first | rw [if_pos (by omega)] | rw [if_neg (by omega)])); first | omega | decide))))))
          · first
            | (exfalso; have h2 := b2_nn0 h2; omega)
            | (
                have h2 := b2_nn0 h2
                refine ex_k 1 (P := none) (g := (cod m0_objectionToLock 7, [some (.inl 12), some (.inr r), some (.inr p), some (.inr v)], [.inr 1], τ)) rfl trivial ?_
                exact ex_r rfl trivial rfl (rIV (by unfold obL; (repeat (first | rw [if_pos (by omega)] | rw [if_neg (by omega)])); first | done | rfl) (if_neg (by unfold obL; (repeat (first | rw [if_pos (by omega)] | rw [if_neg (by omega)])); first | omega | decide)))))
  · refine Ex.call ?_ rfl rfl
    show Ex _ _ (cod m0_objectionToLock 0, [some (.inl 13), some (.inr r), some (.inr p), some (.inr v)], [], τ) _ _
    refine ex_k 1 (P := none) (g := (cod m0_objectionToLock 1, [some (.inl 13), some (.inr r), some (.inr p), some (.inr v)], [.inr r], τ)) rfl trivial ?_
    refine ex_c (s_isRiver (τ := τ) (z := r) ⟨by omega, by omega⟩) (is := cod m0_objectionToLock 2) (L := [some (.inl 13), some (.inr r), some (.inr p), some (.inr v)]) (st := []) rfl rfl rfl ?_
    show Ex _ _ (cod m0_objectionToLock 2, [some (.inl 13), some (.inr r), some (.inr p), some (.inr v)], [.inr (b2 (0 ≤ r ∧ r < 2))], τ) _ _
    refine ex_b (P := (b2 (0 ≤ r ∧ r < 2)) = 0) (ct := (cod m0_objectionToLock 6, [some (.inl 13), some (.inr r), some (.inr p), some (.inr v)], [], τ)) (cf := (cod m0_objectionToLock 3, [some (.inl 13), some (.inr r), some (.inr p), some (.inr v)], [], τ)) rfl b2_rng (fun h1 => ?_) (fun h1 => ?_)
    · first
      | (exfalso; have h1 := b2_e0 h1; omega)
      | (
          have h1 := b2_e0 h1
          refine ex_k 1 (P := none) (g := (cod m0_objectionToLock 7, [some (.inl 13), some (.inr r), some (.inr p), some (.inr v)], [.inr 1], τ)) rfl trivial ?_
          exact ex_r rfl trivial rfl (rIV (by unfold obL; (repeat (first | rw [if_pos (by omega)] | rw [if_neg (by omega)])); first | done | rfl) (if_neg (by unfold obL; (repeat (first | rw [if_pos (by omega)] | rw [if_neg (by omega)])); first | omega | decide))))
    · first
      | (exfalso; have h1 := b2_n0 h1; omega)
      | (
          have h1 := b2_n0 h1
          refine ex_k 1 (P := none) (g := (cod m0_objectionToLock 4, [some (.inl 13), some (.inr r), some (.inr p), some (.inr v)], [.inr p], τ)) rfl trivial ?_
          refine ex_c (s_isPlace (τ := τ) (z := p) ⟨by omega, by omega⟩) (is := cod m0_objectionToLock 5) (L := [some (.inl 13), some (.inr r), some (.inr p), some (.inr v)]) (st := []) rfl rfl rfl ?_
          show Ex _ _ (cod m0_objectionToLock 5, [some (.inl 13), some (.inr r), some (.inr p), some (.inr v)], [.inr (b2 (0 ≤ p ∧ p < 12))], τ) _ _
          refine ex_b (P := ¬ (b2 (0 ≤ p ∧ p < 12)) = 0) (ct := (cod m0_objectionToLock 8, [some (.inl 13), some (.inr r), some (.inr p), some (.inr v)], [], τ)) (cf := (cod m0_objectionToLock 6, [some (.inl 13), some (.inr r), some (.inr p), some (.inr v)], [], τ)) rfl b2_rng (fun h2 => ?_) (fun h2 => ?_)
          · first
            | (exfalso; have h2 := b2_n0 h2; omega)
            | (
                have h2 := b2_n0 h2
                refine ex_k 1 (P := none) (g := (cod m0_objectionToLock 9, [some (.inl 13), some (.inr r), some (.inr p), some (.inr v)], [.inr v], τ)) rfl trivial ?_
                refine ex_b (P := v < 0) (ct := (cod m0_objectionToLock 13, [some (.inl 13), some (.inr r), some (.inr p), some (.inr v)], [], τ)) (cf := (cod m0_objectionToLock 10, [some (.inl 13), some (.inr r), some (.inr p), some (.inr v)], [], τ)) rfl ⟨by omega, by omega⟩ (fun h3 => ?_) (fun h3 => ?_)
                · first
                  | (exfalso; omega)
                  | (
                      refine ex_k 1 (P := none) (g := (cod m0_objectionToLock 14, [some (.inl 13), some (.inr r), some (.inr p), some (.inr v)], [.inr 2], τ)) rfl trivial ?_
                      exact ex_r rfl trivial rfl (rIV (by unfold obL; (repeat (first | rw [if_pos (by omega)] | rw [if_neg (by omega)])); first | done | rfl) (if_neg (by unfold obL; (repeat (first | rw [if_pos (by omega)] | rw [if_neg (by omega)])); first | omega | decide))))
                · first
                  | (exfalso; omega)
                  | (
                      refine ex_k 2 (P := none) (g := (cod m0_objectionToLock 12, [some (.inl 13), some (.inr r), some (.inr p), some (.inr v)], [.inr 3, .inr v], τ)) rfl trivial ?_
                      refine ex_b (P := v ≤ 3) (ct := (cod m0_objectionToLock 15, [some (.inl 13), some (.inr r), some (.inr p), some (.inr v)], [], τ)) (cf := (cod m0_objectionToLock 13, [some (.inl 13), some (.inr r), some (.inr p), some (.inr v)], [], τ)) rfl ⟨⟨by omega, by omega⟩, ⟨by decide, by decide⟩⟩ (fun h4 => ?_) (fun h4 => ?_)
                      · first
                        | (exfalso; omega)
                        | (
                            refine ex_k 4 (P := none) (g := (cod m0_objectionToLock 19, [some (.inl 13), some (.inr r), some (.inr p), some (.inr v)], [.inr p, .inr r, .inl 2], τ)) rfl trivial ?_
                            refine ex_c (s_usesAt (τ := τ) (r := r) (p := p) (Or.inr (Or.inl ⟨rfl, rfl⟩)) (by omega) ⟨by omega, by omega⟩) (is := cod m0_objectionToLock 20) (L := [some (.inl 13), some (.inr r), some (.inr p), some (.inr v)]) (st := []) rfl rfl rfl ?_
                            show Ex _ _ (cod m0_objectionToLock 20, [some (.inl 13), some (.inr r), some (.inr p), some (.inr v)], [.inr (usz (τ 5) r p)], τ) _ _
                            refine ex_k 1 (P := none) (g := (cod m0_objectionToLock 21, [some (.inl 13), some (.inr r), some (.inr p), some (.inr v)], [.inr v, .inr (usz (τ 5) r p)], τ)) rfl trivial ?_
                            refine ex_b (P := ¬ (usz (τ 5) r p) = v) (ct := (cod m0_objectionToLock 27, [some (.inl 13), some (.inr r), some (.inr p), some (.inr v)], [], τ)) (cf := (cod m0_objectionToLock 22, [some (.inl 13), some (.inr r), some (.inr p), some (.inr v)], [], τ)) rfl ⟨⟨by omega, by omega⟩, ⟨by omega, by omega⟩⟩ (fun h5 => ?_) (fun h5 => ?_)
                            · first
                              | (exfalso; omega)
                              | (
                                  refine ex_k 1 (P := none) (g := (cod m0_objectionToLock 28, [some (.inl 13), some (.inr r), some (.inr p), some (.inr v)], [.inr 0], τ)) rfl trivial ?_
                                  exact ex_r rfl trivial rfl (rIV (by unfold obL; (repeat (first | rw [if_pos (by omega)] | rw [if_neg (by omega)])); first | done | rfl) (if_neg (by unfold obL; (repeat (first | rw [if_pos (by omega)] | rw [if_neg (by omega)])); first | omega | decide))))
                            · first
                              | (exfalso; omega)
                              | (
                                  refine ex_k 3 (P := none) (g := (cod m0_objectionToLock 25, [some (.inl 13), some (.inr r), some (.inr p), some (.inr v)], [.inr v, .inr 3, .inl 13], τ)) rfl trivial ?_
                                  refine ex_c (s_refuse (τ := τ) (w := 3) (d := v) (Or.inr ⟨rfl, rfl, rfl, rfl⟩)) (is := cod m0_objectionToLock 26) (L := [some (.inl 13), some (.inr r), some (.inr p), some (.inr v)]) (st := []) rfl rfl rfl ?_
                                  show Ex _ _ (cod m0_objectionToLock 26, [some (.inl 13), some (.inr r), some (.inr p), some (.inr v)], [.inr 3], rkp τ 3 v) _ _
                                  refine ex_k 1 (P := none) (g := (cod m0_objectionToLock 28, [some (.inl 13), some (.inr r), some (.inr p), some (.inr v)], [.inr 3], rkp τ 3 v)) rfl trivial ?_
                                  exact ex_r rfl trivial rfl (rIV (by unfold obL; (repeat (first | rw [if_pos (by omega)] | rw [if_neg (by omega)])); first | done | rfl) (by rw [if_pos (by unfold obL; (repeat (first | rw [if_pos (by omega)] | rw [if_neg (by omega)])); first | done | rfl)]))))
                      · first
                        | (exfalso; omega)
                        | (
                            refine ex_k 1 (P := none) (g := (cod m0_objectionToLock 14, [some (.inl 13), some (.inr r), some (.inr p), some (.inr v)], [.inr 2], τ)) rfl trivial ?_
                            exact ex_r rfl trivial rfl (rIV (by unfold obL; (repeat (first | rw [if_pos (by omega)] | rw [if_neg (by omega)])); first | done | rfl) (if_neg (by unfold obL; (repeat (first | rw [if_pos (by omega)] | rw [if_neg (by omega)])); first | omega | decide))))))
          · first
            | (exfalso; have h2 := b2_nn0 h2; omega)
            | (
                have h2 := b2_nn0 h2
                refine ex_k 1 (P := none) (g := (cod m0_objectionToLock 7, [some (.inl 13), some (.inr r), some (.inr p), some (.inr v)], [.inr 1], τ)) rfl trivial ?_
                exact ex_r rfl trivial rfl (rIV (by unfold obL; (repeat (first | rw [if_pos (by omega)] | rw [if_neg (by omega)])); first | done | rfl) (if_neg (by unfold obL; (repeat (first | rw [if_pos (by omega)] | rw [if_neg (by omega)])); first | omega | decide)))))
theorem s_objG {δ γ ρ a : Nat} {r p v : Int} {τ : SZ} (hδ : DA δ γ ρ a) (hr : Rng r) (hp : Rng p) (hv : Rng v) {B : Int} (hS : Sh B (τ a)) : RZ 4 m0_objectionToFog [.inl δ, .inr r, .inr p, .inr v] τ (.inl (some (.inr (obG (τ a) r p v)), if obG (τ a) r p v = 3 then rkp τ 3 v else τ)) := by
  obtain ⟨hr1, hr2⟩ := hr
  obtain ⟨hp1, hp2⟩ := hp
  obtain ⟨hv1, hv2⟩ := hv
  have hu : 0 ≤ r → r < 2 → 0 ≤ cel (τ a) (96 + r) ∧ cel (τ a) (96 + r) ≤ 11 := fun q1 q2 => hS.fb ⟨q1, q2⟩
  have hu2 : 0 ≤ r → r < 2 → 0 ≤ cel (τ a) (98 + r) ∧ cel (τ a) (98 + r) ≤ 4 := fun q1 q2 => hS.fw ⟨q1, q2⟩
  rcases hδ with ⟨rfl, rfl, rfl, rfl⟩ | ⟨rfl, rfl, rfl, rfl⟩
  · refine Ex.call ?_ rfl rfl
    show Ex _ _ (cod m0_objectionToFog 0, [some (.inl 12), some (.inr r), some (.inr p), some (.inr v), none], [], τ) _ _
    refine ex_k 1 (P := none) (g := (cod m0_objectionToFog 1, [some (.inl 12), some (.inr r), some (.inr p), some (.inr v), none], [.inr r], τ)) rfl trivial ?_
    refine ex_c (s_isRiver (τ := τ) (z := r) ⟨by omega, by omega⟩) (is := cod m0_objectionToFog 2) (L := [some (.inl 12), some (.inr r), some (.inr p), some (.inr v), none]) (st := []) rfl rfl rfl ?_
    show Ex _ _ (cod m0_objectionToFog 2, [some (.inl 12), some (.inr r), some (.inr p), some (.inr v), none], [.inr (b2 (0 ≤ r ∧ r < 2))], τ) _ _
    refine ex_b (P := (b2 (0 ≤ r ∧ r < 2)) = 0) (ct := (cod m0_objectionToFog 6, [some (.inl 12), some (.inr r), some (.inr p), some (.inr v), none], [], τ)) (cf := (cod m0_objectionToFog 3, [some (.inl 12), some (.inr r), some (.inr p), some (.inr v), none], [], τ)) rfl b2_rng (fun h1 => ?_) (fun h1 => ?_)
    · first
      | (exfalso; have h1 := b2_e0 h1; omega)
      | (
          have h1 := b2_e0 h1
          refine ex_k 1 (P := none) (g := (cod m0_objectionToFog 7, [some (.inl 12), some (.inr r), some (.inr p), some (.inr v), none], [.inr 1], τ)) rfl trivial ?_
          exact ex_r rfl trivial rfl (rIV (by unfold obG; (repeat (first | rw [if_pos (by omega)] | rw [if_neg (by omega)])); first | done | rfl) (if_neg (by unfold obG; (repeat (first | rw [if_pos (by omega)] | rw [if_neg (by omega)])); first | omega | decide))))
    · first
      | (exfalso; have h1 := b2_n0 h1; omega)
      | (
          have h1 := b2_n0 h1
          refine ex_k 1 (P := none) (g := (cod m0_objectionToFog 4, [some (.inl 12), some (.inr r), some (.inr p), some (.inr v), none], [.inr p], τ)) rfl trivial ?_
          refine ex_c (s_isPlace (τ := τ) (z := p) ⟨by omega, by omega⟩) (is := cod m0_objectionToFog 5) (L := [some (.inl 12), some (.inr r), some (.inr p), some (.inr v), none]) (st := []) rfl rfl rfl ?_
          show Ex _ _ (cod m0_objectionToFog 5, [some (.inl 12), some (.inr r), some (.inr p), some (.inr v), none], [.inr (b2 (0 ≤ p ∧ p < 12))], τ) _ _
          refine ex_b (P := ¬ (b2 (0 ≤ p ∧ p < 12)) = 0) (ct := (cod m0_objectionToFog 8, [some (.inl 12), some (.inr r), some (.inr p), some (.inr v), none], [], τ)) (cf := (cod m0_objectionToFog 6, [some (.inl 12), some (.inr r), some (.inr p), some (.inr v), none], [], τ)) rfl b2_rng (fun h2 => ?_) (fun h2 => ?_)
          · first
            | (exfalso; have h2 := b2_n0 h2; omega)
            | (
                have h2 := b2_n0 h2
                refine ex_k 1 (P := none) (g := (cod m0_objectionToFog 9, [some (.inl 12), some (.inr r), some (.inr p), some (.inr v), none], [.inr v], τ)) rfl trivial ?_
                refine ex_b (P := v < 0) (ct := (cod m0_objectionToFog 13, [some (.inl 12), some (.inr r), some (.inr p), some (.inr v), none], [], τ)) (cf := (cod m0_objectionToFog 10, [some (.inl 12), some (.inr r), some (.inr p), some (.inr v), none], [], τ)) rfl ⟨by omega, by omega⟩ (fun h3 => ?_) (fun h3 => ?_)
                · first
                  | (exfalso; omega)
                  | (
                      refine ex_k 1 (P := none) (g := (cod m0_objectionToFog 14, [some (.inl 12), some (.inr r), some (.inr p), some (.inr v), none], [.inr 2], τ)) rfl trivial ?_
                      exact ex_r rfl trivial rfl (rIV (by unfold obG; (repeat (first | rw [if_pos (by omega)] | rw [if_neg (by omega)])); first | done | rfl) (if_neg (by unfold obG; (repeat (first | rw [if_pos (by omega)] | rw [if_neg (by omega)])); first | omega | decide))))
                · first
                  | (exfalso; omega)
                  | (
                      refine ex_k 2 (P := none) (g := (cod m0_objectionToFog 12, [some (.inl 12), some (.inr r), some (.inr p), some (.inr v), none], [.inr 4, .inr v], τ)) rfl trivial ?_
                      refine ex_b (P := v ≤ 4) (ct := (cod m0_objectionToFog 15, [some (.inl 12), some (.inr r), some (.inr p), some (.inr v), none], [], τ)) (cf := (cod m0_objectionToFog 13, [some (.inl 12), some (.inr r), some (.inr p), some (.inr v), none], [], τ)) rfl ⟨⟨by omega, by omega⟩, ⟨by decide, by decide⟩⟩ (fun h4 => ?_) (fun h4 => ?_)
                      · first
                        | (exfalso; omega)
                        | (
                            refine ex_k 3 (P := none) (g := (cod m0_objectionToFog 18, [some (.inl 12), some (.inr r), some (.inr p), some (.inr v), none], [.inr r, .inl 1], τ)) rfl trivial ?_
                            refine ex_c (s_fogBegin (τ := τ) (r := r) (Or.inl ⟨rfl, rfl⟩) (by omega)) (is := cod m0_objectionToFog 19) (L := [some (.inl 12), some (.inr r), some (.inr p), some (.inr v), none]) (st := []) rfl rfl rfl ?_
                            show Ex _ _ (cod m0_objectionToFog 19, [some (.inl 12), some (.inr r), some (.inr p), some (.inr v), none], [.inr (cel (τ 4) (96 + r))], τ) _ _
                            refine ex_k 1 (P := none) (g := (cod m0_objectionToFog 20, [some (.inl 12), some (.inr r), some (.inr p), some (.inr v), none], [.inr p, .inr (cel (τ 4) (96 + r))], τ)) rfl trivial ?_
                            refine ex_b (P := ¬ (cel (τ 4) (96 + r)) = p) (ct := (cod m0_objectionToFog 29, [some (.inl 12), some (.inr r), some (.inr p), some (.inr v), none], [], τ)) (cf := (cod m0_objectionToFog 21, [some (.inl 12), some (.inr r), some (.inr p), some (.inr v), none], [], τ)) rfl ⟨⟨by omega, by omega⟩, ⟨by omega, by omega⟩⟩ (fun h5 => ?_) (fun h5 => ?_)
                            · first
                              | (exfalso; omega)
                              | (
                                  refine ex_k 3 (P := none) (g := (cod m0_objectionToFog 32, [some (.inl 12), some (.inr r), some (.inr p), some (.inr v), some (.inr 0)], [.inr 0], τ)) rfl trivial ?_
                                  refine ex_b (P := 0 = 0) (ct := (cod m0_objectionToFog 38, [some (.inl 12), some (.inr r), some (.inr p), some (.inr v), some (.inr 0)], [], τ)) (cf := (cod m0_objectionToFog 33, [some (.inl 12), some (.inr r), some (.inr p), some (.inr v), some (.inr 0)], [], τ)) rfl ⟨by decide, by decide⟩ (fun _ => ?_) (fun hh => absurd (by decide) hh)
                                  refine ex_k 1 (P := none) (g := (cod m0_objectionToFog 39, [some (.inl 12), some (.inr r), some (.inr p), some (.inr v), some (.inr 0)], [.inr 0], τ)) rfl trivial ?_
                                  exact ex_r rfl trivial rfl (rIV (by unfold obG; (repeat (first | rw [if_pos (by omega)] | rw [if_neg (by omega)])); first | done | rfl) (if_neg (by unfold obG; (repeat (first | rw [if_pos (by omega)] | rw [if_neg (by omega)])); first | omega | decide))))
                            · first
                              | (exfalso; omega)
                              | (
                                  refine ex_k 3 (P := none) (g := (cod m0_objectionToFog 24, [some (.inl 12), some (.inr r), some (.inr p), some (.inr v), none], [.inr r, .inl 1], τ)) rfl trivial ?_
                                  refine ex_c (s_fogWidth (τ := τ) (r := r) (Or.inl ⟨rfl, rfl⟩) (by omega)) (is := cod m0_objectionToFog 25) (L := [some (.inl 12), some (.inr r), some (.inr p), some (.inr v), none]) (st := []) rfl rfl rfl ?_
                                  show Ex _ _ (cod m0_objectionToFog 25, [some (.inl 12), some (.inr r), some (.inr p), some (.inr v), none], [.inr (cel (τ 4) (98 + r))], τ) _ _
                                  refine ex_k 1 (P := none) (g := (cod m0_objectionToFog 26, [some (.inl 12), some (.inr r), some (.inr p), some (.inr v), none], [.inr v, .inr (cel (τ 4) (98 + r))], τ)) rfl trivial ?_
                                  refine ex_b (P := ¬ (cel (τ 4) (98 + r)) = v) (ct := (cod m0_objectionToFog 29, [some (.inl 12), some (.inr r), some (.inr p), some (.inr v), none], [], τ)) (cf := (cod m0_objectionToFog 27, [some (.inl 12), some (.inr r), some (.inr p), some (.inr v), none], [], τ)) rfl ⟨⟨by omega, by omega⟩, ⟨by omega, by omega⟩⟩ (fun h7 => ?_) (fun h7 => ?_)
                                  · first
                                    | (exfalso; omega)
                                    | (
                                        refine ex_k 3 (P := none) (g := (cod m0_objectionToFog 32, [some (.inl 12), some (.inr r), some (.inr p), some (.inr v), some (.inr 0)], [.inr 0], τ)) rfl trivial ?_
                                        refine ex_b (P := 0 = 0) (ct := (cod m0_objectionToFog 38, [some (.inl 12), some (.inr r), some (.inr p), some (.inr v), some (.inr 0)], [], τ)) (cf := (cod m0_objectionToFog 33, [some (.inl 12), some (.inr r), some (.inr p), some (.inr v), some (.inr 0)], [], τ)) rfl ⟨by decide, by decide⟩ (fun _ => ?_) (fun hh => absurd (by decide) hh)
                                        refine ex_k 1 (P := none) (g := (cod m0_objectionToFog 39, [some (.inl 12), some (.inr r), some (.inr p), some (.inr v), some (.inr 0)], [.inr 0], τ)) rfl trivial ?_
                                        exact ex_r rfl trivial rfl (rIV (by unfold obG; (repeat (first | rw [if_pos (by omega)] | rw [if_neg (by omega)])); first | done | rfl) (if_neg (by unfold obG; (repeat (first | rw [if_pos (by omega)] | rw [if_neg (by omega)])); first | omega | decide))))
                                  · first
                                    | (exfalso; omega)
                                    | (
                                        refine ex_k 4 (P := none) (g := (cod m0_objectionToFog 32, [some (.inl 12), some (.inr r), some (.inr p), some (.inr v), some (.inr 1)], [.inr 1], τ)) rfl trivial ?_
                                        refine ex_b (P := 1 = 0) (ct := (cod m0_objectionToFog 38, [some (.inl 12), some (.inr r), some (.inr p), some (.inr v), some (.inr 1)], [], τ)) (cf := (cod m0_objectionToFog 33, [some (.inl 12), some (.inr r), some (.inr p), some (.inr v), some (.inr 1)], [], τ)) rfl ⟨by decide, by decide⟩ (fun hh => absurd hh (by decide)) (fun _ => ?_)
                                        refine ex_k 3 (P := none) (g := (cod m0_objectionToFog 36, [some (.inl 12), some (.inr r), some (.inr p), some (.inr v), some (.inr 1)], [.inr v, .inr 3, .inl 12], τ)) rfl trivial ?_
                                        refine ex_c (s_refuse (τ := τ) (w := 3) (d := v) (Or.inl ⟨rfl, rfl, rfl, rfl⟩)) (is := cod m0_objectionToFog 37) (L := [some (.inl 12), some (.inr r), some (.inr p), some (.inr v), some (.inr 1)]) (st := []) rfl rfl rfl ?_
                                        show Ex _ _ (cod m0_objectionToFog 37, [some (.inl 12), some (.inr r), some (.inr p), some (.inr v), some (.inr 1)], [.inr 3], rkp τ 3 v) _ _
                                        refine ex_k 1 (P := none) (g := (cod m0_objectionToFog 39, [some (.inl 12), some (.inr r), some (.inr p), some (.inr v), some (.inr 1)], [.inr 3], rkp τ 3 v)) rfl trivial ?_
                                        exact ex_r rfl trivial rfl (rIV (by unfold obG; (repeat (first | rw [if_pos (by omega)] | rw [if_neg (by omega)])); first | done | rfl) (by rw [if_pos (by unfold obG; (repeat (first | rw [if_pos (by omega)] | rw [if_neg (by omega)])); first | done | rfl)])))))
                      · first
                        | (exfalso; omega)
                        | (
                            refine ex_k 1 (P := none) (g := (cod m0_objectionToFog 14, [some (.inl 12), some (.inr r), some (.inr p), some (.inr v), none], [.inr 2], τ)) rfl trivial ?_
                            exact ex_r rfl trivial rfl (rIV (by unfold obG; (repeat (first | rw [if_pos (by omega)] | rw [if_neg (by omega)])); first | done | rfl) (if_neg (by unfold obG; (repeat (first | rw [if_pos (by omega)] | rw [if_neg (by omega)])); first | omega | decide))))))
          · first
            | (exfalso; have h2 := b2_nn0 h2; omega)
            | (
                have h2 := b2_nn0 h2
                refine ex_k 1 (P := none) (g := (cod m0_objectionToFog 7, [some (.inl 12), some (.inr r), some (.inr p), some (.inr v), none], [.inr 1], τ)) rfl trivial ?_
                exact ex_r rfl trivial rfl (rIV (by unfold obG; (repeat (first | rw [if_pos (by omega)] | rw [if_neg (by omega)])); first | done | rfl) (if_neg (by unfold obG; (repeat (first | rw [if_pos (by omega)] | rw [if_neg (by omega)])); first | omega | decide)))))
  · refine Ex.call ?_ rfl rfl
    show Ex _ _ (cod m0_objectionToFog 0, [some (.inl 13), some (.inr r), some (.inr p), some (.inr v), none], [], τ) _ _
    refine ex_k 1 (P := none) (g := (cod m0_objectionToFog 1, [some (.inl 13), some (.inr r), some (.inr p), some (.inr v), none], [.inr r], τ)) rfl trivial ?_
    refine ex_c (s_isRiver (τ := τ) (z := r) ⟨by omega, by omega⟩) (is := cod m0_objectionToFog 2) (L := [some (.inl 13), some (.inr r), some (.inr p), some (.inr v), none]) (st := []) rfl rfl rfl ?_
    show Ex _ _ (cod m0_objectionToFog 2, [some (.inl 13), some (.inr r), some (.inr p), some (.inr v), none], [.inr (b2 (0 ≤ r ∧ r < 2))], τ) _ _
    refine ex_b (P := (b2 (0 ≤ r ∧ r < 2)) = 0) (ct := (cod m0_objectionToFog 6, [some (.inl 13), some (.inr r), some (.inr p), some (.inr v), none], [], τ)) (cf := (cod m0_objectionToFog 3, [some (.inl 13), some (.inr r), some (.inr p), some (.inr v), none], [], τ)) rfl b2_rng (fun h1 => ?_) (fun h1 => ?_)
    · first
      | (exfalso; have h1 := b2_e0 h1; omega)
      | (
          have h1 := b2_e0 h1
          refine ex_k 1 (P := none) (g := (cod m0_objectionToFog 7, [some (.inl 13), some (.inr r), some (.inr p), some (.inr v), none], [.inr 1], τ)) rfl trivial ?_
          exact ex_r rfl trivial rfl (rIV (by unfold obG; (repeat (first | rw [if_pos (by omega)] | rw [if_neg (by omega)])); first | done | rfl) (if_neg (by unfold obG; (repeat (first | rw [if_pos (by omega)] | rw [if_neg (by omega)])); first | omega | decide))))
    · first
      | (exfalso; have h1 := b2_n0 h1; omega)
      | (
          have h1 := b2_n0 h1
          refine ex_k 1 (P := none) (g := (cod m0_objectionToFog 4, [some (.inl 13), some (.inr r), some (.inr p), some (.inr v), none], [.inr p], τ)) rfl trivial ?_
          refine ex_c (s_isPlace (τ := τ) (z := p) ⟨by omega, by omega⟩) (is := cod m0_objectionToFog 5) (L := [some (.inl 13), some (.inr r), some (.inr p), some (.inr v), none]) (st := []) rfl rfl rfl ?_
          show Ex _ _ (cod m0_objectionToFog 5, [some (.inl 13), some (.inr r), some (.inr p), some (.inr v), none], [.inr (b2 (0 ≤ p ∧ p < 12))], τ) _ _
          refine ex_b (P := ¬ (b2 (0 ≤ p ∧ p < 12)) = 0) (ct := (cod m0_objectionToFog 8, [some (.inl 13), some (.inr r), some (.inr p), some (.inr v), none], [], τ)) (cf := (cod m0_objectionToFog 6, [some (.inl 13), some (.inr r), some (.inr p), some (.inr v), none], [], τ)) rfl b2_rng (fun h2 => ?_) (fun h2 => ?_)
          · first
            | (exfalso; have h2 := b2_n0 h2; omega)
            | (
                have h2 := b2_n0 h2
                refine ex_k 1 (P := none) (g := (cod m0_objectionToFog 9, [some (.inl 13), some (.inr r), some (.inr p), some (.inr v), none], [.inr v], τ)) rfl trivial ?_
                refine ex_b (P := v < 0) (ct := (cod m0_objectionToFog 13, [some (.inl 13), some (.inr r), some (.inr p), some (.inr v), none], [], τ)) (cf := (cod m0_objectionToFog 10, [some (.inl 13), some (.inr r), some (.inr p), some (.inr v), none], [], τ)) rfl ⟨by omega, by omega⟩ (fun h3 => ?_) (fun h3 => ?_)
                · first
                  | (exfalso; omega)
                  | (
                      refine ex_k 1 (P := none) (g := (cod m0_objectionToFog 14, [some (.inl 13), some (.inr r), some (.inr p), some (.inr v), none], [.inr 2], τ)) rfl trivial ?_
                      exact ex_r rfl trivial rfl (rIV (by unfold obG; (repeat (first | rw [if_pos (by omega)] | rw [if_neg (by omega)])); first | done | rfl) (if_neg (by unfold obG; (repeat (first | rw [if_pos (by omega)] | rw [if_neg (by omega)])); first | omega | decide))))
                · first
                  | (exfalso; omega)
                  | (
                      refine ex_k 2 (P := none) (g := (cod m0_objectionToFog 12, [some (.inl 13), some (.inr r), some (.inr p), some (.inr v), none], [.inr 4, .inr v], τ)) rfl trivial ?_
                      refine ex_b (P := v ≤ 4) (ct := (cod m0_objectionToFog 15, [some (.inl 13), some (.inr r), some (.inr p), some (.inr v), none], [], τ)) (cf := (cod m0_objectionToFog 13, [some (.inl 13), some (.inr r), some (.inr p), some (.inr v), none], [], τ)) rfl ⟨⟨by omega, by omega⟩, ⟨by decide, by decide⟩⟩ (fun h4 => ?_) (fun h4 => ?_)
                      · first
                        | (exfalso; omega)
                        | (
                            refine ex_k 3 (P := none) (g := (cod m0_objectionToFog 18, [some (.inl 13), some (.inr r), some (.inr p), some (.inr v), none], [.inr r, .inl 2], τ)) rfl trivial ?_
                            refine ex_c (s_fogBegin (τ := τ) (r := r) (Or.inr (Or.inl ⟨rfl, rfl⟩)) (by omega)) (is := cod m0_objectionToFog 19) (L := [some (.inl 13), some (.inr r), some (.inr p), some (.inr v), none]) (st := []) rfl rfl rfl ?_
                            show Ex _ _ (cod m0_objectionToFog 19, [some (.inl 13), some (.inr r), some (.inr p), some (.inr v), none], [.inr (cel (τ 5) (96 + r))], τ) _ _
                            refine ex_k 1 (P := none) (g := (cod m0_objectionToFog 20, [some (.inl 13), some (.inr r), some (.inr p), some (.inr v), none], [.inr p, .inr (cel (τ 5) (96 + r))], τ)) rfl trivial ?_
                            refine ex_b (P := ¬ (cel (τ 5) (96 + r)) = p) (ct := (cod m0_objectionToFog 29, [some (.inl 13), some (.inr r), some (.inr p), some (.inr v), none], [], τ)) (cf := (cod m0_objectionToFog 21, [some (.inl 13), some (.inr r), some (.inr p), some (.inr v), none], [], τ)) rfl ⟨⟨by omega, by omega⟩, ⟨by omega, by omega⟩⟩ (fun h5 => ?_) (fun h5 => ?_)
                            · first
                              | (exfalso; omega)
                              | (
                                  refine ex_k 3 (P := none) (g := (cod m0_objectionToFog 32, [some (.inl 13), some (.inr r), some (.inr p), some (.inr v), some (.inr 0)], [.inr 0], τ)) rfl trivial ?_
                                  refine ex_b (P := 0 = 0) (ct := (cod m0_objectionToFog 38, [some (.inl 13), some (.inr r), some (.inr p), some (.inr v), some (.inr 0)], [], τ)) (cf := (cod m0_objectionToFog 33, [some (.inl 13), some (.inr r), some (.inr p), some (.inr v), some (.inr 0)], [], τ)) rfl ⟨by decide, by decide⟩ (fun _ => ?_) (fun hh => absurd (by decide) hh)
                                  refine ex_k 1 (P := none) (g := (cod m0_objectionToFog 39, [some (.inl 13), some (.inr r), some (.inr p), some (.inr v), some (.inr 0)], [.inr 0], τ)) rfl trivial ?_
                                  exact ex_r rfl trivial rfl (rIV (by unfold obG; (repeat (first | rw [if_pos (by omega)] | rw [if_neg (by omega)])); first | done | rfl) (if_neg (by unfold obG; (repeat (first | rw [if_pos (by omega)] | rw [if_neg (by omega)])); first | omega | decide))))
                            · first
                              | (exfalso; omega)
                              | (
                                  refine ex_k 3 (P := none) (g := (cod m0_objectionToFog 24, [some (.inl 13), some (.inr r), some (.inr p), some (.inr v), none], [.inr r, .inl 2], τ)) rfl trivial ?_
                                  refine ex_c (s_fogWidth (τ := τ) (r := r) (Or.inr (Or.inl ⟨rfl, rfl⟩)) (by omega)) (is := cod m0_objectionToFog 25) (L := [some (.inl 13), some (.inr r), some (.inr p), some (.inr v), none]) (st := []) rfl rfl rfl ?_
                                  show Ex _ _ (cod m0_objectionToFog 25, [some (.inl 13), some (.inr r), some (.inr p), some (.inr v), none], [.inr (cel (τ 5) (98 + r))], τ) _ _
                                  refine ex_k 1 (P := none) (g := (cod m0_objectionToFog 26, [some (.inl 13), some (.inr r), some (.inr p), some (.inr v), none], [.inr v, .inr (cel (τ 5) (98 + r))], τ)) rfl trivial ?_
                                  refine ex_b (P := ¬ (cel (τ 5) (98 + r)) = v) (ct := (cod m0_objectionToFog 29, [some (.inl 13), some (.inr r), some (.inr p), some (.inr v), none], [], τ)) (cf := (cod m0_objectionToFog 27, [some (.inl 13), some (.inr r), some (.inr p), some (.inr v), none], [], τ)) rfl ⟨⟨by omega, by omega⟩, ⟨by omega, by omega⟩⟩ (fun h7 => ?_) (fun h7 => ?_)
                                  · first
                                    | (exfalso; omega)
                                    | (
                                        refine ex_k 3 (P := none) (g := (cod m0_objectionToFog 32, [some (.inl 13), some (.inr r), some (.inr p), some (.inr v), some (.inr 0)], [.inr 0], τ)) rfl trivial ?_
                                        refine ex_b (P := 0 = 0) (ct := (cod m0_objectionToFog 38, [some (.inl 13), some (.inr r), some (.inr p), some (.inr v), some (.inr 0)], [], τ)) (cf := (cod m0_objectionToFog 33, [some (.inl 13), some (.inr r), some (.inr p), some (.inr v), some (.inr 0)], [], τ)) rfl ⟨by decide, by decide⟩ (fun _ => ?_) (fun hh => absurd (by decide) hh)
                                        refine ex_k 1 (P := none) (g := (cod m0_objectionToFog 39, [some (.inl 13), some (.inr r), some (.inr p), some (.inr v), some (.inr 0)], [.inr 0], τ)) rfl trivial ?_
                                        exact ex_r rfl trivial rfl (rIV (by unfold obG; (repeat (first | rw [if_pos (by omega)] | rw [if_neg (by omega)])); first | done | rfl) (if_neg (by unfold obG; (repeat (first | rw [if_pos (by omega)] | rw [if_neg (by omega)])); first | omega | decide))))
                                  · first
                                    | (exfalso; omega)
                                    | (
                                        refine ex_k 4 (P := none) (g := (cod m0_objectionToFog 32, [some (.inl 13), some (.inr r), some (.inr p), some (.inr v), some (.inr 1)], [.inr 1], τ)) rfl trivial ?_
                                        refine ex_b (P := 1 = 0) (ct := (cod m0_objectionToFog 38, [some (.inl 13), some (.inr r), some (.inr p), some (.inr v), some (.inr 1)], [], τ)) (cf := (cod m0_objectionToFog 33, [some (.inl 13), some (.inr r), some (.inr p), some (.inr v), some (.inr 1)], [], τ)) rfl ⟨by decide, by decide⟩ (fun hh => absurd hh (by decide)) (fun _ => ?_)
                                        refine ex_k 3 (P := none) (g := (cod m0_objectionToFog 36, [some (.inl 13), some (.inr r), some (.inr p), some (.inr v), some (.inr 1)], [.inr v, .inr 3, .inl 13], τ)) rfl trivial ?_
                                        refine ex_c (s_refuse (τ := τ) (w := 3) (d := v) (Or.inr ⟨rfl, rfl, rfl, rfl⟩)) (is := cod m0_objectionToFog 37) (L := [some (.inl 13), some (.inr r), some (.inr p), some (.inr v), some (.inr 1)]) (st := []) rfl rfl rfl ?_
                                        show Ex _ _ (cod m0_objectionToFog 37, [some (.inl 13), some (.inr r), some (.inr p), some (.inr v), some (.inr 1)], [.inr 3], rkp τ 3 v) _ _
                                        refine ex_k 1 (P := none) (g := (cod m0_objectionToFog 39, [some (.inl 13), some (.inr r), some (.inr p), some (.inr v), some (.inr 1)], [.inr 3], rkp τ 3 v)) rfl trivial ?_
                                        exact ex_r rfl trivial rfl (rIV (by unfold obG; (repeat (first | rw [if_pos (by omega)] | rw [if_neg (by omega)])); first | done | rfl) (by rw [if_pos (by unfold obG; (repeat (first | rw [if_pos (by omega)] | rw [if_neg (by omega)])); first | done | rfl)])))))
                      · first
                        | (exfalso; omega)
                        | (
                            refine ex_k 1 (P := none) (g := (cod m0_objectionToFog 14, [some (.inl 13), some (.inr r), some (.inr p), some (.inr v), none], [.inr 2], τ)) rfl trivial ?_
                            exact ex_r rfl trivial rfl (rIV (by unfold obG; (repeat (first | rw [if_pos (by omega)] | rw [if_neg (by omega)])); first | done | rfl) (if_neg (by unfold obG; (repeat (first | rw [if_pos (by omega)] | rw [if_neg (by omega)])); first | omega | decide))))))
          · first
            | (exfalso; have h2 := b2_nn0 h2; omega)
            | (
                have h2 := b2_nn0 h2
                refine ex_k 1 (P := none) (g := (cod m0_objectionToFog 7, [some (.inl 13), some (.inr r), some (.inr p), some (.inr v), none], [.inr 1], τ)) rfl trivial ?_
                exact ex_r rfl trivial rfl (rIV (by unfold obG; (repeat (first | rw [if_pos (by omega)] | rw [if_neg (by omega)])); first | done | rfl) (if_neg (by unfold obG; (repeat (first | rw [if_pos (by omega)] | rw [if_neg (by omega)])); first | omega | decide)))))
theorem ocn_in {c : Nat → Int} {f r s : Int} : (1 ≤ ocn c f r s ∧ ocn c f r s ≤ 3) ∨ (11 ≤ ocn c f r s ∧ ocn c f r s ≤ 16) := by
  have h := @oco_in c f r s
  unfold ocn
  split <;> omega
theorem dtl_in {B : Int} {c : Nat → Int} (h : Sh B c) {x f r s : Int} (hf : 0 ≤ f ∧ f < 8) (hr : 0 ≤ r ∧ r < 2) (hs : s = 1 ∨ s = -1) : -100 ≤ dtl c x f r s ∧ dtl c x f r s ≤ 100 := by
  have h1 := h.tu
  have h2 := h.fw hr
  have h3 := h.wh (p := cel c (0 + f * 6 + (1 + r)) + s) hr
  have h4 := h.pl hf hr
  unfold dtl
  repeat (first | omega | split)
theorem s_objM {δ γ ρ a : Nat} {f r s : Int} {τ : SZ} (hδ : DA δ γ ρ a) (hf : Rng f) (hr : Rng r) (hs : s = 1 ∨ s = -1) {B : Int} (hS : Sh B (τ a)) : RZ 5 m0_objectionToMove [.inl δ, .inr f, .inr r, .inr s] τ (.inl (some (.inr (obM (τ a) f r s)), if obM (τ a) f r s = 3 then rpa (rkp τ (ocn (τ a) f r s) (dtl (τ a) (ocn (τ a) f r s) f r s)) 4 f else τ)) := by
  have hN := hS.n
  have ho := @ocn_in (τ a) f r s
  obtain ⟨hr1, hr2⟩ := hr
  obtain ⟨hf1, hf2⟩ := hf
  rcases hδ with ⟨rfl, rfl, rfl, rfl⟩ | ⟨rfl, rfl, rfl, rfl⟩
  · refine Ex.call ?_ rfl rfl
    show Ex _ _ (cod m0_objectionToMove 0, [some (.inl 12), some (.inr f), some (.inr r), some (.inr s), none], [], τ) _ _
    refine ex_k 3 (P := none) (g := (cod m0_objectionToMove 3, [some (.inl 12), some (.inr f), some (.inr r), some (.inr s), none], [.inr f, .inl 1], τ)) rfl trivial ?_
    refine ex_c (s_isFerry (τ := τ) (f := f) (Or.inl ⟨rfl, rfl⟩) ⟨by omega, by omega⟩ hS.bd) (is := cod m0_objectionToMove 4) (L := [some (.inl 12), some (.inr f), some (.inr r), some (.inr s), none]) (st := []) rfl rfl rfl ?_
    show Ex _ _ (cod m0_objectionToMove 4, [some (.inl 12), some (.inr f), some (.inr r), some (.inr s), none], [.inr (b2 (0 ≤ f ∧ f < cel (τ 4) 107))], τ) _ _
    refine ex_b (P := (b2 (0 ≤ f ∧ f < cel (τ 4) 107)) = 0) (ct := (cod m0_objectionToMove 8, [some (.inl 12), some (.inr f), some (.inr r), some (.inr s), none], [], τ)) (cf := (cod m0_objectionToMove 5, [some (.inl 12), some (.inr f), some (.inr r), some (.inr s), none], [], τ)) rfl b2_rng (fun h1 => ?_) (fun h1 => ?_)
    · first
      | (exfalso; have h1 := b2_e0 h1; omega)
      | (
          have h1 := b2_e0 h1
          refine ex_k 1 (P := none) (g := (cod m0_objectionToMove 9, [some (.inl 12), some (.inr f), some (.inr r), some (.inr s), none], [.inr 1], τ)) rfl trivial ?_
          exact ex_r rfl trivial rfl (rIV (by unfold obM; (repeat (first | rw [if_pos (by omega)] | rw [if_neg (by omega)])); first | done | rfl) (if_neg (by unfold obM; (repeat (first | rw [if_pos (by omega)] | rw [if_neg (by omega)])); first | omega | decide))))
    · first
      | (exfalso; have h1 := b2_n0 h1; omega)
      | (
          have h1 := b2_n0 h1
          refine ex_k 1 (P := none) (g := (cod m0_objectionToMove 6, [some (.inl 12), some (.inr f), some (.inr r), some (.inr s), none], [.inr r], τ)) rfl trivial ?_
          refine ex_c (s_isRiver (τ := τ) (z := r) ⟨by omega, by omega⟩) (is := cod m0_objectionToMove 7) (L := [some (.inl 12), some (.inr f), some (.inr r), some (.inr s), none]) (st := []) rfl rfl rfl ?_
          show Ex _ _ (cod m0_objectionToMove 7, [some (.inl 12), some (.inr f), some (.inr r), some (.inr s), none], [.inr (b2 (0 ≤ r ∧ r < 2))], τ) _ _
          refine ex_b (P := ¬ (b2 (0 ≤ r ∧ r < 2)) = 0) (ct := (cod m0_objectionToMove 10, [some (.inl 12), some (.inr f), some (.inr r), some (.inr s), none], [], τ)) (cf := (cod m0_objectionToMove 8, [some (.inl 12), some (.inr f), some (.inr r), some (.inr s), none], [], τ)) rfl b2_rng (fun h2 => ?_) (fun h2 => ?_)
          · first
            | (exfalso; have h2 := b2_n0 h2; omega)
            | (
                have h2 := b2_n0 h2
                refine ex_k 5 (P := none) (g := (cod m0_objectionToMove 15, [some (.inl 12), some (.inr f), some (.inr r), some (.inr s), none], [.inr s, .inr r, .inr f, .inl 7], τ)) rfl trivial ?_
                refine ex_c (s_outcomeNow (τ := τ) (f := f) (r := r) (s := s) (Or.inl ⟨rfl, rfl, rfl⟩) (by omega) (by omega) (by omega) hS.cw) (is := cod m0_objectionToMove 16) (L := [some (.inl 12), some (.inr f), some (.inr r), some (.inr s), none]) (st := []) rfl rfl rfl ?_
                show Ex _ _ (cod m0_objectionToMove 16, [some (.inl 12), some (.inr f), some (.inr r), some (.inr s), none], [.inr (ocn (τ 4) f r s)], τ) _ _
                refine ex_k 2 (P := none) (g := (cod m0_objectionToMove 18, [some (.inl 12), some (.inr f), some (.inr r), some (.inr s), some (.inr (ocn (τ 4) f r s))], [.inr (ocn (τ 4) f r s)], τ)) rfl trivial ?_
                refine ex_c (s_isMove (τ := τ) (z := ocn (τ 4) f r s) ⟨by omega, by omega⟩) (is := cod m0_objectionToMove 19) (L := [some (.inl 12), some (.inr f), some (.inr r), some (.inr s), some (.inr (ocn (τ 4) f r s))]) (st := []) rfl rfl rfl ?_
                show Ex _ _ (cod m0_objectionToMove 19, [some (.inl 12), some (.inr f), some (.inr r), some (.inr s), some (.inr (ocn (τ 4) f r s))], [.inr (b2 ((ocn (τ 4) f r s) = 1 ∨ (ocn (τ 4) f r s) = 2 ∨ (ocn (τ 4) f r s) = 3))], τ) _ _
                refine ex_b (P := (b2 ((ocn (τ 4) f r s) = 1 ∨ (ocn (τ 4) f r s) = 2 ∨ (ocn (τ 4) f r s) = 3)) = 0) (ct := (cod m0_objectionToMove 22, [some (.inl 12), some (.inr f), some (.inr r), some (.inr s), some (.inr (ocn (τ 4) f r s))], [], τ)) (cf := (cod m0_objectionToMove 20, [some (.inl 12), some (.inr f), some (.inr r), some (.inr s), some (.inr (ocn (τ 4) f r s))], [], τ)) rfl b2_rng (fun h3 => ?_) (fun h3 => ?_)
                · first
                  | (exfalso; have h3 := b2_e0 h3; omega)
                  | (
                      have h3 := b2_e0 h3
                      refine ex_k 8 (P := none) (g := (cod m0_objectionToMove 30, [some (.inl 12), some (.inr f), some (.inr r), some (.inr s), some (.inr (ocn (τ 4) f r s))], [.inr s, .inr r, .inr f, .inr (ocn (τ 4) f r s), .inl 7, .inr (ocn (τ 4) f r s), .inl 12], τ)) rfl trivial ?_
                      refine ex_c (s_detailOf (τ := τ) (x := ocn (τ 4) f r s) (f := f) (r := r) (s := s) (Or.inl ⟨rfl, rfl, rfl⟩) (by omega) (by omega) (by omega) (by omega) hS.cw) (is := cod m0_objectionToMove 31) (L := [some (.inl 12), some (.inr f), some (.inr r), some (.inr s), some (.inr (ocn (τ 4) f r s))]) (st := [.inr (ocn (τ 4) f r s), .inl 12]) rfl rfl rfl ?_
                      show Ex _ _ (cod m0_objectionToMove 31, [some (.inl 12), some (.inr f), some (.inr r), some (.inr s), some (.inr (ocn (τ 4) f r s))], [.inr (dtl (τ 4) (ocn (τ 4) f r s) f r s), .inr (ocn (τ 4) f r s), .inl 12], τ) _ _
                      refine ex_c (s_refuse (τ := τ) (w := ocn (τ 4) f r s) (d := dtl (τ 4) (ocn (τ 4) f r s) f r s) (Or.inl ⟨rfl, rfl, rfl, rfl⟩)) (is := cod m0_objectionToMove 32) (L := [some (.inl 12), some (.inr f), some (.inr r), some (.inr s), some (.inr (ocn (τ 4) f r s))]) (st := []) rfl rfl rfl ?_
                      show Ex _ _ (cod m0_objectionToMove 32, [some (.inl 12), some (.inr f), some (.inr r), some (.inr s), some (.inr (ocn (τ 4) f r s))], [.inr 3], rkp τ (ocn (τ 4) f r s) (dtl (τ 4) (ocn (τ 4) f r s) f r s)) _ _
                      refine ex_k 5 (P := none) (g := (cod m0_objectionToMove 37, [some (.inl 12), some (.inr f), some (.inr r), some (.inr s), some (.inr (ocn (τ 4) f r s))], [.inr f, .inr 4, .inl 9], rkp τ (ocn (τ 4) f r s) (dtl (τ 4) (ocn (τ 4) f r s) f r s))) rfl trivial ?_
                      refine ex_c (s_putAhead (τ := rkp τ (ocn (τ 4) f r s) (dtl (τ 4) (ocn (τ 4) f r s) f r s)) (w := 4) (d := f) (by first | omega | exact ⟨show (0 : Int) ≤ 1 by decide, show (1 : Int) ≤ 3 by decide⟩)) (is := cod m0_objectionToMove 38) (L := [some (.inl 12), some (.inr f), some (.inr r), some (.inr s), some (.inr (ocn (τ 4) f r s))]) (st := []) rfl rfl rfl ?_
                      show Ex _ _ (cod m0_objectionToMove 38, [some (.inl 12), some (.inr f), some (.inr r), some (.inr s), some (.inr (ocn (τ 4) f r s))], [], rpa (rkp τ (ocn (τ 4) f r s) (dtl (τ 4) (ocn (τ 4) f r s) f r s)) 4 f) _ _
                      refine ex_k 1 (P := none) (g := (cod m0_objectionToMove 39, [some (.inl 12), some (.inr f), some (.inr r), some (.inr s), some (.inr (ocn (τ 4) f r s))], [.inr 3], rpa (rkp τ (ocn (τ 4) f r s) (dtl (τ 4) (ocn (τ 4) f r s) f r s)) 4 f)) rfl trivial ?_
                      exact ex_r rfl trivial rfl (rIV (by unfold obM; (repeat (first | rw [if_pos (by omega)] | rw [if_neg (by omega)])); first | done | rfl) (by rw [if_pos (by unfold obM; (repeat (first | rw [if_pos (by omega)] | rw [if_neg (by omega)])); first | done | rfl)])))
                · first
                  | (exfalso; have h3 := b2_n0 h3; omega)
                  | (
                      have h3 := b2_n0 h3
                      refine ex_k 1 (P := none) (g := (cod m0_objectionToMove 21, [some (.inl 12), some (.inr f), some (.inr r), some (.inr s), some (.inr (ocn (τ 4) f r s))], [.inr 0], τ)) rfl trivial ?_
                      exact ex_r rfl trivial rfl (rIV (by unfold obM; (repeat (first | rw [if_pos (by omega)] | rw [if_neg (by omega)])); first | done | rfl) (if_neg (by unfold obM; (repeat (first | rw [if_pos (by omega)] | rw [if_neg (by omega)])); first | omega | decide)))))
          · first
            | (exfalso; have h2 := b2_nn0 h2; omega)
            | (
                have h2 := b2_nn0 h2
                refine ex_k 1 (P := none) (g := (cod m0_objectionToMove 9, [some (.inl 12), some (.inr f), some (.inr r), some (.inr s), none], [.inr 1], τ)) rfl trivial ?_
                exact ex_r rfl trivial rfl (rIV (by unfold obM; (repeat (first | rw [if_pos (by omega)] | rw [if_neg (by omega)])); first | done | rfl) (if_neg (by unfold obM; (repeat (first | rw [if_pos (by omega)] | rw [if_neg (by omega)])); first | omega | decide)))))
  · refine Ex.call ?_ rfl rfl
    show Ex _ _ (cod m0_objectionToMove 0, [some (.inl 13), some (.inr f), some (.inr r), some (.inr s), none], [], τ) _ _
    refine ex_k 3 (P := none) (g := (cod m0_objectionToMove 3, [some (.inl 13), some (.inr f), some (.inr r), some (.inr s), none], [.inr f, .inl 2], τ)) rfl trivial ?_
    refine ex_c (s_isFerry (τ := τ) (f := f) (Or.inr (Or.inl ⟨rfl, rfl⟩)) ⟨by omega, by omega⟩ hS.bd) (is := cod m0_objectionToMove 4) (L := [some (.inl 13), some (.inr f), some (.inr r), some (.inr s), none]) (st := []) rfl rfl rfl ?_
    show Ex _ _ (cod m0_objectionToMove 4, [some (.inl 13), some (.inr f), some (.inr r), some (.inr s), none], [.inr (b2 (0 ≤ f ∧ f < cel (τ 5) 107))], τ) _ _
    refine ex_b (P := (b2 (0 ≤ f ∧ f < cel (τ 5) 107)) = 0) (ct := (cod m0_objectionToMove 8, [some (.inl 13), some (.inr f), some (.inr r), some (.inr s), none], [], τ)) (cf := (cod m0_objectionToMove 5, [some (.inl 13), some (.inr f), some (.inr r), some (.inr s), none], [], τ)) rfl b2_rng (fun h1 => ?_) (fun h1 => ?_)
    · first
      | (exfalso; have h1 := b2_e0 h1; omega)
      | (
          have h1 := b2_e0 h1
          refine ex_k 1 (P := none) (g := (cod m0_objectionToMove 9, [some (.inl 13), some (.inr f), some (.inr r), some (.inr s), none], [.inr 1], τ)) rfl trivial ?_
          exact ex_r rfl trivial rfl (rIV (by unfold obM; (repeat (first | rw [if_pos (by omega)] | rw [if_neg (by omega)])); first | done | rfl) (if_neg (by unfold obM; (repeat (first | rw [if_pos (by omega)] | rw [if_neg (by omega)])); first | omega | decide))))
    · first
      | (exfalso; have h1 := b2_n0 h1; omega)
      | (
          have h1 := b2_n0 h1
          refine ex_k 1 (P := none) (g := (cod m0_objectionToMove 6, [some (.inl 13), some (.inr f), some (.inr r), some (.inr s), none], [.inr r], τ)) rfl trivial ?_
          refine ex_c (s_isRiver (τ := τ) (z := r) ⟨by omega, by omega⟩) (is := cod m0_objectionToMove 7) (L := [some (.inl 13), some (.inr f), some (.inr r), some (.inr s), none]) (st := []) rfl rfl rfl ?_
          show Ex _ _ (cod m0_objectionToMove 7, [some (.inl 13), some (.inr f), some (.inr r), some (.inr s), none], [.inr (b2 (0 ≤ r ∧ r < 2))], τ) _ _
          refine ex_b (P := ¬ (b2 (0 ≤ r ∧ r < 2)) = 0) (ct := (cod m0_objectionToMove 10, [some (.inl 13), some (.inr f), some (.inr r), some (.inr s), none], [], τ)) (cf := (cod m0_objectionToMove 8, [some (.inl 13), some (.inr f), some (.inr r), some (.inr s), none], [], τ)) rfl b2_rng (fun h2 => ?_) (fun h2 => ?_)
          · first
            | (exfalso; have h2 := b2_n0 h2; omega)
            | (
                have h2 := b2_n0 h2
                refine ex_k 5 (P := none) (g := (cod m0_objectionToMove 15, [some (.inl 13), some (.inr f), some (.inr r), some (.inr s), none], [.inr s, .inr r, .inr f, .inl 8], τ)) rfl trivial ?_
                refine ex_c (s_outcomeNow (τ := τ) (f := f) (r := r) (s := s) (Or.inr ⟨rfl, rfl, rfl⟩) (by omega) (by omega) (by omega) hS.cw) (is := cod m0_objectionToMove 16) (L := [some (.inl 13), some (.inr f), some (.inr r), some (.inr s), none]) (st := []) rfl rfl rfl ?_
                show Ex _ _ (cod m0_objectionToMove 16, [some (.inl 13), some (.inr f), some (.inr r), some (.inr s), none], [.inr (ocn (τ 5) f r s)], τ) _ _
                refine ex_k 2 (P := none) (g := (cod m0_objectionToMove 18, [some (.inl 13), some (.inr f), some (.inr r), some (.inr s), some (.inr (ocn (τ 5) f r s))], [.inr (ocn (τ 5) f r s)], τ)) rfl trivial ?_
                refine ex_c (s_isMove (τ := τ) (z := ocn (τ 5) f r s) ⟨by omega, by omega⟩) (is := cod m0_objectionToMove 19) (L := [some (.inl 13), some (.inr f), some (.inr r), some (.inr s), some (.inr (ocn (τ 5) f r s))]) (st := []) rfl rfl rfl ?_
                show Ex _ _ (cod m0_objectionToMove 19, [some (.inl 13), some (.inr f), some (.inr r), some (.inr s), some (.inr (ocn (τ 5) f r s))], [.inr (b2 ((ocn (τ 5) f r s) = 1 ∨ (ocn (τ 5) f r s) = 2 ∨ (ocn (τ 5) f r s) = 3))], τ) _ _
                refine ex_b (P := (b2 ((ocn (τ 5) f r s) = 1 ∨ (ocn (τ 5) f r s) = 2 ∨ (ocn (τ 5) f r s) = 3)) = 0) (ct := (cod m0_objectionToMove 22, [some (.inl 13), some (.inr f), some (.inr r), some (.inr s), some (.inr (ocn (τ 5) f r s))], [], τ)) (cf := (cod m0_objectionToMove 20, [some (.inl 13), some (.inr f), some (.inr r), some (.inr s), some (.inr (ocn (τ 5) f r s))], [], τ)) rfl b2_rng (fun h3 => ?_) (fun h3 => ?_)
                · first
                  | (exfalso; have h3 := b2_e0 h3; omega)
                  | (
                      have h3 := b2_e0 h3
                      refine ex_k 8 (P := none) (g := (cod m0_objectionToMove 30, [some (.inl 13), some (.inr f), some (.inr r), some (.inr s), some (.inr (ocn (τ 5) f r s))], [.inr s, .inr r, .inr f, .inr (ocn (τ 5) f r s), .inl 8, .inr (ocn (τ 5) f r s), .inl 13], τ)) rfl trivial ?_
                      refine ex_c (s_detailOf (τ := τ) (x := ocn (τ 5) f r s) (f := f) (r := r) (s := s) (Or.inr ⟨rfl, rfl, rfl⟩) (by omega) (by omega) (by omega) (by omega) hS.cw) (is := cod m0_objectionToMove 31) (L := [some (.inl 13), some (.inr f), some (.inr r), some (.inr s), some (.inr (ocn (τ 5) f r s))]) (st := [.inr (ocn (τ 5) f r s), .inl 13]) rfl rfl rfl ?_
                      show Ex _ _ (cod m0_objectionToMove 31, [some (.inl 13), some (.inr f), some (.inr r), some (.inr s), some (.inr (ocn (τ 5) f r s))], [.inr (dtl (τ 5) (ocn (τ 5) f r s) f r s), .inr (ocn (τ 5) f r s), .inl 13], τ) _ _
                      refine ex_c (s_refuse (τ := τ) (w := ocn (τ 5) f r s) (d := dtl (τ 5) (ocn (τ 5) f r s) f r s) (Or.inr ⟨rfl, rfl, rfl, rfl⟩)) (is := cod m0_objectionToMove 32) (L := [some (.inl 13), some (.inr f), some (.inr r), some (.inr s), some (.inr (ocn (τ 5) f r s))]) (st := []) rfl rfl rfl ?_
                      show Ex _ _ (cod m0_objectionToMove 32, [some (.inl 13), some (.inr f), some (.inr r), some (.inr s), some (.inr (ocn (τ 5) f r s))], [.inr 3], rkp τ (ocn (τ 5) f r s) (dtl (τ 5) (ocn (τ 5) f r s) f r s)) _ _
                      refine ex_k 5 (P := none) (g := (cod m0_objectionToMove 37, [some (.inl 13), some (.inr f), some (.inr r), some (.inr s), some (.inr (ocn (τ 5) f r s))], [.inr f, .inr 4, .inl 9], rkp τ (ocn (τ 5) f r s) (dtl (τ 5) (ocn (τ 5) f r s) f r s))) rfl trivial ?_
                      refine ex_c (s_putAhead (τ := rkp τ (ocn (τ 5) f r s) (dtl (τ 5) (ocn (τ 5) f r s) f r s)) (w := 4) (d := f) (by first | omega | exact ⟨show (0 : Int) ≤ 1 by decide, show (1 : Int) ≤ 3 by decide⟩)) (is := cod m0_objectionToMove 38) (L := [some (.inl 13), some (.inr f), some (.inr r), some (.inr s), some (.inr (ocn (τ 5) f r s))]) (st := []) rfl rfl rfl ?_
                      show Ex _ _ (cod m0_objectionToMove 38, [some (.inl 13), some (.inr f), some (.inr r), some (.inr s), some (.inr (ocn (τ 5) f r s))], [], rpa (rkp τ (ocn (τ 5) f r s) (dtl (τ 5) (ocn (τ 5) f r s) f r s)) 4 f) _ _
                      refine ex_k 1 (P := none) (g := (cod m0_objectionToMove 39, [some (.inl 13), some (.inr f), some (.inr r), some (.inr s), some (.inr (ocn (τ 5) f r s))], [.inr 3], rpa (rkp τ (ocn (τ 5) f r s) (dtl (τ 5) (ocn (τ 5) f r s) f r s)) 4 f)) rfl trivial ?_
                      exact ex_r rfl trivial rfl (rIV (by unfold obM; (repeat (first | rw [if_pos (by omega)] | rw [if_neg (by omega)])); first | done | rfl) (by rw [if_pos (by unfold obM; (repeat (first | rw [if_pos (by omega)] | rw [if_neg (by omega)])); first | done | rfl)])))
                · first
                  | (exfalso; have h3 := b2_n0 h3; omega)
                  | (
                      have h3 := b2_n0 h3
                      refine ex_k 1 (P := none) (g := (cod m0_objectionToMove 21, [some (.inl 13), some (.inr f), some (.inr r), some (.inr s), some (.inr (ocn (τ 5) f r s))], [.inr 0], τ)) rfl trivial ?_
                      exact ex_r rfl trivial rfl (rIV (by unfold obM; (repeat (first | rw [if_pos (by omega)] | rw [if_neg (by omega)])); first | done | rfl) (if_neg (by unfold obM; (repeat (first | rw [if_pos (by omega)] | rw [if_neg (by omega)])); first | omega | decide)))))
          · first
            | (exfalso; have h2 := b2_nn0 h2; omega)
            | (
                have h2 := b2_nn0 h2
                refine ex_k 1 (P := none) (g := (cod m0_objectionToMove 9, [some (.inl 13), some (.inr f), some (.inr r), some (.inr s), none], [.inr 1], τ)) rfl trivial ?_
                exact ex_r rfl trivial rfl (rIV (by unfold obM; (repeat (first | rw [if_pos (by omega)] | rw [if_neg (by omega)])); first | done | rfl) (if_neg (by unfold obM; (repeat (first | rw [if_pos (by omega)] | rw [if_neg (by omega)])); first | omega | decide)))))
/-- the first ferry of the side of the turn that can move, from one on -/
def fsm (c : Nat → Int) : Nat → Int → Int
  | 0, _ => -1
  | j + 1, z => if cel c (0 + z * 6 + 0) = cel c 108 ∧ 0 < mvo c z then z else fsm c j (z + 1)
theorem fsm_in {c : Nat → Int} : ∀ (j : Nat) (z : Int), fsm c j z = -1 ∨ (z ≤ fsm c j z ∧ fsm c j z < z + (j : Int))
  | 0, _ => Or.inl rfl
  | j + 1, z => by
    unfold fsm
    have h := fsm_in (c := c) j (z + 1)
    split <;> omega
def obP (c : Nat → Int) : Int := if fsm c (cel c 107).toNat 0 = -1 then 0 else 3
theorem lp_objP_4 {τ : SZ} {B : Int} (hS : Sh B (τ 4)) : ∀ (j : Nat) (z : Int), 0 ≤ z → z + (j : Int) = cel (τ 4) 107 → Ex 4 m0_objectionToPass (cod m0_objectionToPass 7, [some (.inl 12), some (.inr (cel (τ 4) 108)), some (.inr z)], [], τ) 0 (.inl (some (.inr (if fsm (τ 4) j z = -1 then 0 else 3)), if fsm (τ 4) j z = -1 then τ else rkp τ 5 (fsm (τ 4) j z))) := by
  intro j
  induction j with
  | zero =>
    intro z hz hj
    have hN := hS.n
    have hm := @mvo_in (τ 4) z
    have hb := cel_bd hS.bd (0 + z * 6 + 0)
    have htu := hS.tu
    refine ex_k 4 (P := none) (g := (cod m0_objectionToPass 11, [some (.inl 12), some (.inr (cel (τ 4) 108)), some (.inr z)], [.inr 7, .inl 1, .inr z], τ)) rfl trivial ?_
    refine ex_c (s_total (τ := τ) (w := 7) (Or.inl ⟨rfl, rfl⟩) (by omega)) (is := cod m0_objectionToPass 12) (L := [some (.inl 12), some (.inr (cel (τ 4) 108)), some (.inr z)]) (st := [.inr z]) rfl rfl rfl ?_
    show Ex _ _ (cod m0_objectionToPass 12, [some (.inl 12), some (.inr (cel (τ 4) 108)), some (.inr z)], [.inr (cel (τ 4) 107), .inr z], τ) _ _
    refine ex_b (P := (cel (τ 4) 107) ≤ z) (ct := (cod m0_objectionToPass 32, [some (.inl 12), some (.inr (cel (τ 4) 108)), some (.inr z)], [], τ)) (cf := (cod m0_objectionToPass 13, [some (.inl 12), some (.inr (cel (τ 4) 108)), some (.inr z)], [], τ)) rfl ⟨⟨by omega, by omega⟩, ⟨by omega, by omega⟩⟩ (fun _ => ?_) (fun hh => absurd (by omega) hh)
    refine ex_k 1 (P := none) (g := (cod m0_objectionToPass 33, [some (.inl 12), some (.inr (cel (τ 4) 108)), some (.inr z)], [.inr 0], τ)) rfl trivial ?_
    exact ex_r rfl trivial rfl (rfl)
  | succ j ih =>
    intro z hz hj
    have hN := hS.n
    have hm := @mvo_in (τ 4) z
    have hb := cel_bd hS.bd (0 + z * 6 + 0)
    have htu := hS.tu
    refine ex_k 4 (P := none) (g := (cod m0_objectionToPass 11, [some (.inl 12), some (.inr (cel (τ 4) 108)), some (.inr z)], [.inr 7, .inl 1, .inr z], τ)) rfl trivial ?_
    refine ex_c (s_total (τ := τ) (w := 7) (Or.inl ⟨rfl, rfl⟩) (by omega)) (is := cod m0_objectionToPass 12) (L := [some (.inl 12), some (.inr (cel (τ 4) 108)), some (.inr z)]) (st := [.inr z]) rfl rfl rfl ?_
    show Ex _ _ (cod m0_objectionToPass 12, [some (.inl 12), some (.inr (cel (τ 4) 108)), some (.inr z)], [.inr (cel (τ 4) 107), .inr z], τ) _ _
    refine ex_b (P := (cel (τ 4) 107) ≤ z) (ct := (cod m0_objectionToPass 32, [some (.inl 12), some (.inr (cel (τ 4) 108)), some (.inr z)], [], τ)) (cf := (cod m0_objectionToPass 13, [some (.inl 12), some (.inr (cel (τ 4) 108)), some (.inr z)], [], τ)) rfl ⟨⟨by omega, by omega⟩, ⟨by omega, by omega⟩⟩ (fun hh => absurd hh (by omega)) (fun _ => ?_)
    refine ex_k 4 (P := none) (g := (cod m0_objectionToPass 17, [some (.inl 12), some (.inr (cel (τ 4) 108)), some (.inr z)], [.inr 0, .inr z, .inl 1], τ)) rfl trivial ?_
    refine ex_c (s_number (τ := τ) (f := z) (w := 0) (Or.inl ⟨rfl, rfl⟩) (by omega) (by omega)) (is := cod m0_objectionToPass 18) (L := [some (.inl 12), some (.inr (cel (τ 4) 108)), some (.inr z)]) (st := []) rfl rfl rfl ?_
    show Ex _ _ (cod m0_objectionToPass 18, [some (.inl 12), some (.inr (cel (τ 4) 108)), some (.inr z)], [.inr (cel (τ 4) (0 + z * 6 + 0))], τ) _ _
    refine ex_k 1 (P := none) (g := (cod m0_objectionToPass 19, [some (.inl 12), some (.inr (cel (τ 4) 108)), some (.inr z)], [.inr (cel (τ 4) 108), .inr (cel (τ 4) (0 + z * 6 + 0))], τ)) rfl trivial ?_
    refine ex_b (P := ¬ (cel (τ 4) (0 + z * 6 + 0)) = (cel (τ 4) 108)) (ct := (cod m0_objectionToPass 30, [some (.inl 12), some (.inr (cel (τ 4) 108)), some (.inr z)], [], τ)) (cf := (cod m0_objectionToPass 20, [some (.inl 12), some (.inr (cel (τ 4) 108)), some (.inr z)], [], τ)) rfl ⟨⟨by omega, by omega⟩, ⟨by omega, by omega⟩⟩ (fun h2 => ?_) (fun h2 => ?_)
    · first
      | (exfalso; omega)
      | (
          refine ex_k 2 (P := none) (g := (cod m0_objectionToPass 7, [some (.inl 12), some (.inr (cel (τ 4) 108)), some (.inr (z + 1))], [], τ)) rfl trivial ?_
          rw [show fsm (τ 4) (j + 1) z = fsm (τ 4) j (z + 1) from if_neg (by omega)]
          exact ih (z + 1) (by omega) (by omega))
    · first
      | (exfalso; omega)
      | (
          refine ex_k 3 (P := none) (g := (cod m0_objectionToPass 23, [some (.inl 12), some (.inr (cel (τ 4) 108)), some (.inr z)], [.inr z, .inl 7], τ)) rfl trivial ?_
          refine ex_c (s_movesOf (τ := τ) (f := z) (Or.inl ⟨rfl, rfl, rfl⟩) (by omega) hS) (is := cod m0_objectionToPass 24) (L := [some (.inl 12), some (.inr (cel (τ 4) 108)), some (.inr z)]) (st := []) rfl rfl rfl ?_
          show Ex _ _ (cod m0_objectionToPass 24, [some (.inl 12), some (.inr (cel (τ 4) 108)), some (.inr z)], [.inr (mvo (τ 4) z)], τ) _ _
          refine ex_b (P := (mvo (τ 4) z) ≤ 0) (ct := (cod m0_objectionToPass 30, [some (.inl 12), some (.inr (cel (τ 4) 108)), some (.inr z)], [], τ)) (cf := (cod m0_objectionToPass 25, [some (.inl 12), some (.inr (cel (τ 4) 108)), some (.inr z)], [], τ)) rfl ⟨by omega, by omega⟩ (fun h3 => ?_) (fun h3 => ?_)
          · first
            | (exfalso; omega)
            | (
                refine ex_k 2 (P := none) (g := (cod m0_objectionToPass 7, [some (.inl 12), some (.inr (cel (τ 4) 108)), some (.inr (z + 1))], [], τ)) rfl trivial ?_
                rw [show fsm (τ 4) (j + 1) z = fsm (τ 4) j (z + 1) from if_neg (by omega)]
                exact ih (z + 1) (by omega) (by omega))
          · first
            | (exfalso; omega)
            | (
                refine ex_k 3 (P := none) (g := (cod m0_objectionToPass 28, [some (.inl 12), some (.inr (cel (τ 4) 108)), some (.inr z)], [.inr z, .inr 5, .inl 12], τ)) rfl trivial ?_
                refine ex_c (s_refuse (τ := τ) (w := 5) (d := z) (Or.inl ⟨rfl, rfl, rfl, rfl⟩)) (is := cod m0_objectionToPass 29) (L := [some (.inl 12), some (.inr (cel (τ 4) 108)), some (.inr z)]) (st := []) rfl rfl rfl ?_
                show Ex _ _ (cod m0_objectionToPass 29, [some (.inl 12), some (.inr (cel (τ 4) 108)), some (.inr z)], [.inr 3], rkp τ 5 z) _ _
                exact ex_r rfl trivial rfl (by rw [show fsm (τ 4) (j + 1) z = z from if_pos (by omega), if_neg (by omega), if_neg (by omega)])))
theorem lp_objP_5 {τ : SZ} {B : Int} (hS : Sh B (τ 5)) : ∀ (j : Nat) (z : Int), 0 ≤ z → z + (j : Int) = cel (τ 5) 107 → Ex 4 m0_objectionToPass (cod m0_objectionToPass 7, [some (.inl 13), some (.inr (cel (τ 5) 108)), some (.inr z)], [], τ) 0 (.inl (some (.inr (if fsm (τ 5) j z = -1 then 0 else 3)), if fsm (τ 5) j z = -1 then τ else rkp τ 5 (fsm (τ 5) j z))) := by
  intro j
  induction j with
  | zero =>
    intro z hz hj
    have hN := hS.n
    have hm := @mvo_in (τ 5) z
    have hb := cel_bd hS.bd (0 + z * 6 + 0)
    have htu := hS.tu
    refine ex_k 4 (P := none) (g := (cod m0_objectionToPass 11, [some (.inl 13), some (.inr (cel (τ 5) 108)), some (.inr z)], [.inr 7, .inl 2, .inr z], τ)) rfl trivial ?_
    refine ex_c (s_total (τ := τ) (w := 7) (Or.inr (Or.inl ⟨rfl, rfl⟩)) (by omega)) (is := cod m0_objectionToPass 12) (L := [some (.inl 13), some (.inr (cel (τ 5) 108)), some (.inr z)]) (st := [.inr z]) rfl rfl rfl ?_
    show Ex _ _ (cod m0_objectionToPass 12, [some (.inl 13), some (.inr (cel (τ 5) 108)), some (.inr z)], [.inr (cel (τ 5) 107), .inr z], τ) _ _
    refine ex_b (P := (cel (τ 5) 107) ≤ z) (ct := (cod m0_objectionToPass 32, [some (.inl 13), some (.inr (cel (τ 5) 108)), some (.inr z)], [], τ)) (cf := (cod m0_objectionToPass 13, [some (.inl 13), some (.inr (cel (τ 5) 108)), some (.inr z)], [], τ)) rfl ⟨⟨by omega, by omega⟩, ⟨by omega, by omega⟩⟩ (fun _ => ?_) (fun hh => absurd (by omega) hh)
    refine ex_k 1 (P := none) (g := (cod m0_objectionToPass 33, [some (.inl 13), some (.inr (cel (τ 5) 108)), some (.inr z)], [.inr 0], τ)) rfl trivial ?_
    exact ex_r rfl trivial rfl (rfl)
  | succ j ih =>
    intro z hz hj
    have hN := hS.n
    have hm := @mvo_in (τ 5) z
    have hb := cel_bd hS.bd (0 + z * 6 + 0)
    have htu := hS.tu
    refine ex_k 4 (P := none) (g := (cod m0_objectionToPass 11, [some (.inl 13), some (.inr (cel (τ 5) 108)), some (.inr z)], [.inr 7, .inl 2, .inr z], τ)) rfl trivial ?_
    refine ex_c (s_total (τ := τ) (w := 7) (Or.inr (Or.inl ⟨rfl, rfl⟩)) (by omega)) (is := cod m0_objectionToPass 12) (L := [some (.inl 13), some (.inr (cel (τ 5) 108)), some (.inr z)]) (st := [.inr z]) rfl rfl rfl ?_
    show Ex _ _ (cod m0_objectionToPass 12, [some (.inl 13), some (.inr (cel (τ 5) 108)), some (.inr z)], [.inr (cel (τ 5) 107), .inr z], τ) _ _
    refine ex_b (P := (cel (τ 5) 107) ≤ z) (ct := (cod m0_objectionToPass 32, [some (.inl 13), some (.inr (cel (τ 5) 108)), some (.inr z)], [], τ)) (cf := (cod m0_objectionToPass 13, [some (.inl 13), some (.inr (cel (τ 5) 108)), some (.inr z)], [], τ)) rfl ⟨⟨by omega, by omega⟩, ⟨by omega, by omega⟩⟩ (fun hh => absurd hh (by omega)) (fun _ => ?_)
    refine ex_k 4 (P := none) (g := (cod m0_objectionToPass 17, [some (.inl 13), some (.inr (cel (τ 5) 108)), some (.inr z)], [.inr 0, .inr z, .inl 2], τ)) rfl trivial ?_
    refine ex_c (s_number (τ := τ) (f := z) (w := 0) (Or.inr (Or.inl ⟨rfl, rfl⟩)) (by omega) (by omega)) (is := cod m0_objectionToPass 18) (L := [some (.inl 13), some (.inr (cel (τ 5) 108)), some (.inr z)]) (st := []) rfl rfl rfl ?_
    show Ex _ _ (cod m0_objectionToPass 18, [some (.inl 13), some (.inr (cel (τ 5) 108)), some (.inr z)], [.inr (cel (τ 5) (0 + z * 6 + 0))], τ) _ _
    refine ex_k 1 (P := none) (g := (cod m0_objectionToPass 19, [some (.inl 13), some (.inr (cel (τ 5) 108)), some (.inr z)], [.inr (cel (τ 5) 108), .inr (cel (τ 5) (0 + z * 6 + 0))], τ)) rfl trivial ?_
    refine ex_b (P := ¬ (cel (τ 5) (0 + z * 6 + 0)) = (cel (τ 5) 108)) (ct := (cod m0_objectionToPass 30, [some (.inl 13), some (.inr (cel (τ 5) 108)), some (.inr z)], [], τ)) (cf := (cod m0_objectionToPass 20, [some (.inl 13), some (.inr (cel (τ 5) 108)), some (.inr z)], [], τ)) rfl ⟨⟨by omega, by omega⟩, ⟨by omega, by omega⟩⟩ (fun h2 => ?_) (fun h2 => ?_)
    · first
      | (exfalso; omega)
      | (
          refine ex_k 2 (P := none) (g := (cod m0_objectionToPass 7, [some (.inl 13), some (.inr (cel (τ 5) 108)), some (.inr (z + 1))], [], τ)) rfl trivial ?_
          rw [show fsm (τ 5) (j + 1) z = fsm (τ 5) j (z + 1) from if_neg (by omega)]
          exact ih (z + 1) (by omega) (by omega))
    · first
      | (exfalso; omega)
      | (
          refine ex_k 3 (P := none) (g := (cod m0_objectionToPass 23, [some (.inl 13), some (.inr (cel (τ 5) 108)), some (.inr z)], [.inr z, .inl 8], τ)) rfl trivial ?_
          refine ex_c (s_movesOf (τ := τ) (f := z) (Or.inr ⟨rfl, rfl, rfl⟩) (by omega) hS) (is := cod m0_objectionToPass 24) (L := [some (.inl 13), some (.inr (cel (τ 5) 108)), some (.inr z)]) (st := []) rfl rfl rfl ?_
          show Ex _ _ (cod m0_objectionToPass 24, [some (.inl 13), some (.inr (cel (τ 5) 108)), some (.inr z)], [.inr (mvo (τ 5) z)], τ) _ _
          refine ex_b (P := (mvo (τ 5) z) ≤ 0) (ct := (cod m0_objectionToPass 30, [some (.inl 13), some (.inr (cel (τ 5) 108)), some (.inr z)], [], τ)) (cf := (cod m0_objectionToPass 25, [some (.inl 13), some (.inr (cel (τ 5) 108)), some (.inr z)], [], τ)) rfl ⟨by omega, by omega⟩ (fun h3 => ?_) (fun h3 => ?_)
          · first
            | (exfalso; omega)
            | (
                refine ex_k 2 (P := none) (g := (cod m0_objectionToPass 7, [some (.inl 13), some (.inr (cel (τ 5) 108)), some (.inr (z + 1))], [], τ)) rfl trivial ?_
                rw [show fsm (τ 5) (j + 1) z = fsm (τ 5) j (z + 1) from if_neg (by omega)]
                exact ih (z + 1) (by omega) (by omega))
          · first
            | (exfalso; omega)
            | (
                refine ex_k 3 (P := none) (g := (cod m0_objectionToPass 28, [some (.inl 13), some (.inr (cel (τ 5) 108)), some (.inr z)], [.inr z, .inr 5, .inl 13], τ)) rfl trivial ?_
                refine ex_c (s_refuse (τ := τ) (w := 5) (d := z) (Or.inr ⟨rfl, rfl, rfl, rfl⟩)) (is := cod m0_objectionToPass 29) (L := [some (.inl 13), some (.inr (cel (τ 5) 108)), some (.inr z)]) (st := []) rfl rfl rfl ?_
                show Ex _ _ (cod m0_objectionToPass 29, [some (.inl 13), some (.inr (cel (τ 5) 108)), some (.inr z)], [.inr 3], rkp τ 5 z) _ _
                exact ex_r rfl trivial rfl (by rw [show fsm (τ 5) (j + 1) z = z from if_pos (by omega), if_neg (by omega), if_neg (by omega)])))
theorem s_objP {δ γ ρ a : Nat}  {τ : SZ} (hδ : DA δ γ ρ a) {B : Int} (hS : Sh B (τ a)) : RZ 5 m0_objectionToPass [.inl δ] τ (.inl (some (.inr (obP (τ a))), if obP (τ a) = 3 then rkp τ 5 (fsm (τ a) (cel (τ a) 107).toNat 0) else τ)) := by
  have hN := hS.n
  rcases hδ with ⟨rfl, rfl, rfl, rfl⟩ | ⟨rfl, rfl, rfl, rfl⟩
  · refine Ex.call ?_ rfl rfl
    show Ex _ _ (cod m0_objectionToPass 0, [some (.inl 12), none, none], [], τ) _ _
    refine ex_k 3 (P := none) (g := (cod m0_objectionToPass 3, [some (.inl 12), none, none], [.inr 8, .inl 1], τ)) rfl trivial ?_
    refine ex_c (s_total (τ := τ) (w := 8) (Or.inl ⟨rfl, rfl⟩) (by omega)) (is := cod m0_objectionToPass 4) (L := [some (.inl 12), none, none]) (st := []) rfl rfl rfl ?_
    show Ex _ _ (cod m0_objectionToPass 4, [some (.inl 12), none, none], [.inr (cel (τ 4) 108)], τ) _ _
    refine ex_k 3 (P := none) (g := (cod m0_objectionToPass 7, [some (.inl 12), some (.inr (cel (τ 4) 108)), some (.inr 0)], [], τ)) rfl trivial ?_
    have q := lp_objP_4 hS (cel (τ 4) 107).toNat 0 (by omega) (by omega)
    have e : (if obP (τ 4) = 3 then rkp τ 5 (fsm (τ 4) (cel (τ 4) 107).toNat 0) else τ) = (if fsm (τ 4) (cel (τ 4) 107).toNat 0 = -1 then τ else rkp τ 5 (fsm (τ 4) (cel (τ 4) 107).toNat 0)) := by unfold obP; by_cases h : fsm (τ 4) (cel (τ 4) 107).toNat 0 = -1; (rw [if_pos h, if_pos h]; rfl); (rw [if_neg h, if_neg h]; rfl)
    rw [e]
    exact q
  · refine Ex.call ?_ rfl rfl
    show Ex _ _ (cod m0_objectionToPass 0, [some (.inl 13), none, none], [], τ) _ _
    refine ex_k 3 (P := none) (g := (cod m0_objectionToPass 3, [some (.inl 13), none, none], [.inr 8, .inl 2], τ)) rfl trivial ?_
    refine ex_c (s_total (τ := τ) (w := 8) (Or.inr (Or.inl ⟨rfl, rfl⟩)) (by omega)) (is := cod m0_objectionToPass 4) (L := [some (.inl 13), none, none]) (st := []) rfl rfl rfl ?_
    show Ex _ _ (cod m0_objectionToPass 4, [some (.inl 13), none, none], [.inr (cel (τ 5) 108)], τ) _ _
    refine ex_k 3 (P := none) (g := (cod m0_objectionToPass 7, [some (.inl 13), some (.inr (cel (τ 5) 108)), some (.inr 0)], [], τ)) rfl trivial ?_
    have q := lp_objP_5 hS (cel (τ 5) 107).toNat 0 (by omega) (by omega)
    have e : (if obP (τ 5) = 3 then rkp τ 5 (fsm (τ 5) (cel (τ 5) 107).toNat 0) else τ) = (if fsm (τ 5) (cel (τ 5) 107).toNat 0 = -1 then τ else rkp τ 5 (fsm (τ 5) (cel (τ 5) 107).toNat 0)) := by unfold obP; by_cases h : fsm (τ 5) (cel (τ 5) 107).toNat 0 = -1; (rw [if_pos h, if_pos h]; rfl); (rw [if_neg h, if_neg h]; rfl)
    rw [e]
    exact q
end DSK
