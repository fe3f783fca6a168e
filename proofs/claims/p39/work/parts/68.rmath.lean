/-! orders, tugs and locks counted, the next lock: for 'ranks' -/
section RMA
/-- who stands at a place of an order -/
def orw (K : Int → Int) (N : Nat) (p : Int) : Int := ffs (fun f => ahd (fun k => K (k : Int)) f N) p N 0
theorem orw_sp {K : Int → Int} {N : Nat} {p : Int} (hp : 0 ≤ p ∧ p < (N : Int)) : ∃ w : Nat, w < N ∧ orw K N p = (w : Int) ∧ ahd (fun k => K (k : Int)) w N = p := by
  obtain ⟨w, hw, e⟩ := onto (a := fun f => ahd (fun k => K (k : Int)) f N) (fun k hk => ahd_in hk) (fun f g hf hg h => ahd_inj hf hg h) (p := p.toNat) (N := N) (by omega)
  have e2 : (fun f => ahd (fun k => K (k : Int)) f N) w = p := by
    have : ((p.toNat : Nat) : Int) = p := Int.toNat_of_nonneg hp.1
    rw [← this]; exact e
  have hu : ∀ k, k < N → (fun f => ahd (fun k => K (k : Int)) f N) k = p → k = w := fun k hk h => ahd_inj (key := fun k => K (k : Int)) hk hw (h.trans e2.symm)
  exact ⟨w, hw, ffs_at (a := fun f => ahd (fun k => K (k : Int)) f N) (p := p) (w := w) (N := N) e2 hu N 0 (by omega) (by omega) hw, e2⟩
theorem orw_in {K : Int → Int} {N : Nat} {p : Int} (hp : 0 ≤ p ∧ p < (N : Int)) : 0 ≤ orw K N p ∧ orw K N p < (N : Int) := by
  obtain ⟨w, hw, e, -⟩ := orw_sp (K := K) hp
  omega
theorem orw_le {K : Int → Int} {N : Nat} {p : Int} (hp : 1 ≤ p ∧ p < (N : Int)) : 0 ≤ K (orw K N (p - 1)) - K (orw K N p) ∧ (K (orw K N (p - 1)) - K (orw K N p) = 0 → orw K N (p - 1) ≤ orw K N p) := by
  obtain ⟨f, hf, e1, e2⟩ := orw_sp (K := K) (N := N) (p := p - 1) ⟨by omega, by omega⟩
  obtain ⟨g, hg, e3, e4⟩ := orw_sp (K := K) (N := N) (p := p) ⟨by omega, by omega⟩
  rw [e1, e3]
  refine ⟨Int.not_lt.mp fun z => ?_, fun h => Int.not_lt.mp fun z => ?_⟩
  · have q := ahd_lt (key := fun k => K (k : Int)) (g := f) hg (Or.inl (show 0 < K (g : Int) - K (f : Int) by omega))
    have q : ahd (fun k => K (k : Int)) g N < ahd (fun k => K (k : Int)) f N := q
    rw [e2, e4] at q
    omega
  · have q := ahd_lt (key := fun k => K (k : Int)) (g := f) hg (Or.inr ⟨(show K (g : Int) - K (f : Int) = 0 by omega), by omega⟩)
    have q : ahd (fun k => K (k : Int)) g N < ahd (fun k => K (k : Int)) f N := q
    rw [e2, e4] at q
    omega
theorem A_bold {c : Nat → Int} {N : Nat} {p : Int} (hN : cel c 107 = (N : Int)) (hp : 0 ≤ p ∧ p < (N : Int)) : A_boldest c p = orw (bdn c) N p := by
  have e : (cel c 107).toNat = N := by omega
  unfold A_boldest
  rw [e]
  exact if_neg (ord_is hp).2
theorem A_farr {c : Nat → Int} {N : Nat} {p : Int} (hN : cel c 107 = (N : Int)) (hp : 0 ≤ p ∧ p < (N : Int)) : A_farthest c p = orw (wcm c) N p := by
  have e : (cel c 107).toNat = N := by omega
  unfold A_farthest
  rw [e]
  exact if_neg (ord_is hp).2
theorem A_bold_no {c : Nat → Int} {N : Nat} {p : Int} (hN : cel c 107 = (N : Int)) (hp : ¬ (0 ≤ p ∧ p < (N : Int))) : A_boldest c p = -13 := by
  have e : (cel c 107).toNat = N := by omega
  unfold A_boldest
  rw [e]
  exact if_pos (ord_no hp)
theorem A_farr_no {c : Nat → Int} {N : Nat} {p : Int} (hN : cel c 107 = (N : Int)) (hp : ¬ (0 ≤ p ∧ p < (N : Int))) : A_farthest c p = -13 := by
  have e : (cel c 107).toNat = N := by omega
  unfold A_farthest
  rw [e]
  exact if_pos (ord_no hp)
/-- counted over both rivers -/
def g24 (F : Int → Int → Int) : Nat → Int
  | 0 => 0
  | j + 1 => g24 F j + F ((j : Int) / 12) ((j : Int) % 12)
theorem g24_is {F : Int → Int → Int} : g24 F 24 = sm (fun k => F 0 (k : Int)) 12 + sm (fun k => F 1 (k : Int)) 12 := by
  have h1 : ∀ k : Nat, k ≤ 12 → g24 F k = sm (fun k => F 0 (k : Int)) k := by
    intro k
    induction k with
    | zero => intro _; rfl
    | succ k ih =>
      intro h
      show g24 F k + F ((k : Int) / 12) ((k : Int) % 12) = sm (fun k => F 0 (k : Int)) k + F 0 (k : Int)
      rw [ih (by omega), show (k : Int) / 12 = 0 from by omega, show (k : Int) % 12 = (k : Int) from by omega]
  have h2 : ∀ k : Nat, k ≤ 12 → g24 F (12 + k) = g24 F 12 + sm (fun k => F 1 (k : Int)) k := by
    intro k
    induction k with
    | zero => intro _; show g24 F 12 = g24 F 12 + 0; omega
    | succ k ih =>
      intro h
      show g24 F (12 + k) + F (((12 + k : Nat) : Int) / 12) (((12 + k : Nat) : Int) % 12) = g24 F 12 + (sm (fun k => F 1 (k : Int)) k + F 1 (k : Int))
      rw [ih (by omega), show ((12 + k : Nat) : Int) / 12 = 1 from by omega, show ((12 + k : Nat) : Int) % 12 = (k : Int) from by omega]
      omega
  have q := h2 12 (by omega)
  rw [h1 12 (by omega)] at q
  exact q
theorem g24_b {F : Int → Int → Int} (h : ∀ r p, 0 ≤ F r p ∧ F r p ≤ 1) : ∀ j : Nat, 0 ≤ g24 F j ∧ g24 F j ≤ (j : Int)
  | 0 => ⟨Int.le_refl 0, Int.le_refl 0⟩
  | j + 1 => by
    have q := g24_b h j
    have w := h ((j : Int) / 12) ((j : Int) % 12)
    show 0 ≤ g24 F j + F ((j : Int) / 12) ((j : Int) % 12) ∧ g24 F j + F ((j : Int) / 12) ((j : Int) % 12) ≤ _
    omega
def tgF (c : Nat → Int) (r p : Int) : Int := b2 (whz c r p = 8)
def lkF (c : Nat → Int) (r p : Int) : Int := b2 (0 < usz c r p)
/-- the next lock, as far as looked -/
def nrv (c : Nat → Int) (f r : Int) (j : Nat) : Int := if wtl c f r j = 0 then -13 else wtl c f r j
theorem nrv_is {c : Nat → Int} {f r v z : Int} {j : Nat} (hj : j < 11) (hz : z = 11 - (j : Int)) (hs : 0 ≤ cel c (0 + f * 6 + 0) ∧ cel c (0 + f * 6 + 0) ≤ 1)
    (h : (((cel c (0 + f * 6 + (1 + r)) + z < 12 ∧ 0 < usz c r (cel c (0 + f * 6 + (1 + r)) + z) ∧ (cel c (0 + f * 6 + 0) = 0 ∨ cel c (0 + f * 6 + 3) = 1)) ∨ (z ≤ cel c (0 + f * 6 + (1 + r)) ∧ 0 < usz c r (cel c (0 + f * 6 + (1 + r)) - z) ∧ (cel c (0 + f * 6 + 0) = 1 ∨ cel c (0 + f * 6 + 3) = 1))) ∧ v = z) ∨
      (¬ ((cel c (0 + f * 6 + (1 + r)) + z < 12 ∧ 0 < usz c r (cel c (0 + f * 6 + (1 + r)) + z) ∧ (cel c (0 + f * 6 + 0) = 0 ∨ cel c (0 + f * 6 + 3) = 1)) ∨ (z ≤ cel c (0 + f * 6 + (1 + r)) ∧ 0 < usz c r (cel c (0 + f * 6 + (1 + r)) - z) ∧ (cel c (0 + f * 6 + 0) = 1 ∨ cel c (0 + f * 6 + 3) = 1))) ∧ v = nrv c f r j)) : v = nrv c f r (j + 1) := by
  subst hz
  have u1 : 0 < usz c r (cel c (0 + f * 6 + (1 + r)) + (11 - (j : Int))) → cel c (0 + f * 6 + (1 + r)) + (11 - (j : Int)) < 12 := fun q => by
    unfold usz at q
    split at q <;> omega
  have u2 : 0 < usz c r (cel c (0 + f * 6 + (1 + r)) - (11 - (j : Int))) → 11 - (j : Int) ≤ cel c (0 + f * 6 + (1 + r)) := fun q => by
    unfold usz at q
    split at q <;> omega
  unfold nrv
  rcases h with ⟨h1, h2⟩ | ⟨h1, h2⟩
  · have e : wtl c f r (j + 1) = 11 - (j : Int) := if_pos (by omega)
    rw [e, if_neg (by omega)]; exact h2
  · have e : wtl c f r (j + 1) = wtl c f r j := if_neg (by omega)
    rw [e]
    exact h2
theorem b2_s {x : Int} (h : 0 ≤ x ∧ x ≤ 1) : 1 - x = b2 (x = 0) := by
  unfold b2
  split <;> omega
end RMA
