/-! what the law draws: how many tugs there are, that there is no fog; the best move goes; a pass goes where no move does -/
section DMA
def tgo (c : Nat → Int) (r : Int) : Int := sm (fun k => b2 (whz c r (k : Int) = 8)) 12
theorem whz_12 {c : Nat → Int} {r : Int} {k : Nat} (hk : k < 12) : whz c r (k : Int) = cel c (48 + r * 12 + (k : Int)) := if_pos ⟨by omega, by omega⟩
theorem tgo_le {c d : Nat → Int} {r : Int} (h : ∀ p : Int, 0 ≤ p → p < 12 → cel d (48 + r * 12 + p) = 8 → cel c (48 + r * 12 + p) = 8) : tgo d r ≤ tgo c r := by
  refine sm_mono 12 fun k hk => ?_
  show b2 (whz d r (k : Int) = 8) ≤ b2 (whz c r (k : Int) = 8)
  have q := @b2_01 (whz c r (k : Int) = 8) _
  by_cases e : whz d r (k : Int) = 8
  · have e2 : whz c r (k : Int) = 8 := by
      rw [whz_12 hk] at e ⊢
      exact h k (by omega) (by omega) e
    rw [b2_t e, b2_t e2]; omega
  · rw [b2_f e]; exact q.1
theorem sm_p1 {f g : Nat → Int} {i : Nat} : ∀ n : Nat, (∀ k, k < n → f k ≤ g k ∨ (k = i ∧ f k ≤ g k + 1)) → sm f n ≤ sm g n + (if i < n then 1 else 0)
  | 0, _ => by show (0 : Int) ≤ 0 + _; split <;> omega
  | n + 1, h => by
    have h1 := sm_p1 (i := i) n (fun k hk => h k (by omega))
    have h2 := h n (by omega)
    show sm f n + f n ≤ sm g n + g n + _
    split at h1 <;> split <;> omega
theorem tgo_swh {c : Nat → Int} {r p r' : Int} (hr : 0 ≤ r ∧ r < 2) (hr' : 0 ≤ r' ∧ r' < 2) : tgo (swh c r p 8) r' ≤ tgo c r' + 1 := by
  have h := sm_p1 (i := p.toNat) (f := fun k => b2 (whz (swh c r p 8) r' (k : Int) = 8)) (g := fun k => b2 (whz c r' (k : Int) = 8)) 12 (fun k hk => by
    show b2 (whz (swh c r p 8) r' (k : Int) = 8) ≤ b2 (whz c r' (k : Int) = 8) ∨ (k = p.toNat ∧ b2 (whz (swh c r p 8) r' (k : Int) = 8) ≤ b2 (whz c r' (k : Int) = 8) + 1)
    have q1 := @b2_01 (whz (swh c r p 8) r' (k : Int) = 8) _
    have q2 := @b2_01 (whz c r' (k : Int) = 8) _
    by_cases e : 48 + r * 12 + p = 48 + r' * 12 + (k : Int) ∧ 0 ≤ p ∧ p < 12
    · exact Or.inr ⟨by omega, by omega⟩
    · have e2 : whz (swh c r p 8) r' (k : Int) = whz c r' (k : Int) := by rw [whz_12 hk, whz_12 hk, cel_swh' hr, if_neg e]
      rw [e2]
      exact Or.inl (Int.le_refl _))
  unfold tgo
  split at h <;> omega
/-- no more ferries than k, no fog, no more tugs than t -/
def DJ (c : Nat → Int) (k t : Int) : Prop := cel c 107 ≤ k ∧ (cel c 98 = 0 ∧ cel c 99 = 0) ∧ (tgo c 0 ≤ t ∧ tgo c 1 ≤ t)
theorem DJ.mono {c : Nat → Int} {k t k' t' : Int} (h : DJ c k t) (h1 : k ≤ k') (h2 : t ≤ t') : DJ c k' t' := ⟨by have := h.1; omega, h.2.1, by have := h.2.2.1; omega, by have := h.2.2.2; omega⟩
theorem DJ.of {c d : Nat → Int} {k t : Int} (h : DJ c k t) (e : d = c) : DJ d k t := e ▸ h
theorem DJ.adf {c : Nat → Int} {k t x p q : Int} (h : DJ c k t) (hn : 0 ≤ cel c 107 ∧ cel c 107 < 8) (hp : 0 ≤ p ∧ p < 12) (hq : 0 ≤ q ∧ q < 12) : DJ (adf c x p q) (k + 1) t := by
  obtain ⟨h1, ⟨h2, h3⟩, h4, h5⟩ := h
  have key : ∀ r : Int, 0 ≤ r ∧ r < 2 → tgo (Jvm.Pilot.@@N@@.adf c x p q) r ≤ tgo c r := fun r hr => tgo_le fun z z0 z1 e => by
    rw [cel_adf hn hp hq] at e
    (repeat' split at e) <;> omega
  have k0 := key 0 ⟨by omega, by omega⟩
  have k1 := key 1 ⟨by omega, by omega⟩
  refine ⟨?_, ⟨?_, ?_⟩, by omega, by omega⟩
  · rw [cel_adf hn hp hq, if_neg (by omega), if_pos rfl]; omega
  · rw [cel_adf hn hp hq]; (repeat' split) <;> omega
  · rw [cel_adf hn hp hq]; (repeat' split) <;> omega
theorem DJ.swh {c : Nat → Int} {k t r p : Int} (h : DJ c k t) (hr : 0 ≤ r ∧ r < 2) : DJ (swh c r p 8) k (t + 1) := by
  obtain ⟨h1, ⟨h2, h3⟩, h4, h5⟩ := h
  have k0 := tgo_swh (c := c) (r := r) (p := p) (r' := 0) hr ⟨by omega, by omega⟩
  have k1 := tgo_swh (c := c) (r := r) (p := p) (r' := 1) hr ⟨by omega, by omega⟩
  exact ⟨by rw [cel_swh (Or.inr (by omega)) hr]; exact h1, ⟨by rw [cel_swh (Or.inr (by omega)) hr]; exact h2, by rw [cel_swh (Or.inr (by omega)) hr]; exact h3⟩, by omega, by omega⟩
theorem DJ.sus {c : Nat → Int} {k t r p v : Int} (h : DJ c k t) (hr : 0 ≤ r ∧ r < 2) : DJ (sus c r p v) k t := by
  obtain ⟨h1, ⟨h2, h3⟩, h4, h5⟩ := h
  have key : ∀ r' : Int, 0 ≤ r' ∧ r' < 2 → tgo (Jvm.Pilot.@@N@@.sus c r p v) r' ≤ tgo c r' := fun r' hr' => tgo_le fun z z0 z1 e => by
    rw [cel_sus (Or.inl (by omega)) hr] at e
    exact e
  have k0 := key 0 ⟨by omega, by omega⟩
  have k1 := key 1 ⟨by omega, by omega⟩
  exact ⟨by rw [cel_sus (Or.inr (by omega)) hr]; exact h1, ⟨by rw [cel_sus (Or.inr (by omega)) hr]; exact h2, by rw [cel_sus (Or.inr (by omega)) hr]; exact h3⟩, by omega, by omega⟩
/-- the best move is one that goes -/
theorem bsb_ok {c : Nat → Int} : ∀ k : Nat, 0 ≤ (bsb c k).1 → omv c (bsb c k).1
  | 0, h => absurd h (by show ¬ (0 : Int) ≤ -1; decide)
  | k + 1, h => by
    by_cases hm : omv c (k : Int)
    · by_cases h2 : (bsb c k).1 < 0 ∨ (bsb c k).2 < gnb c ((k : Int) / 4) ((k : Int) / 2 % 2) (stp (k : Int))
      · rw [bsb_t rfl hm h2]; exact hm
      · rw [bsb_f rfl hm h2] at h ⊢
        exact bsb_ok k h
    · rw [bsb_n rfl hm] at h ⊢
      exact bsb_ok k h
theorem bsb_no {c : Nat → Int} (k : Nat) : (bsb c k).1 < 0 → ∀ j : Nat, j < k → ¬ omv c (j : Int) := by
  induction k with
  | zero => intro _ j hj; omega
  | succ k ih =>
    intro h j hj
    by_cases hm : omv c (k : Int)
    · exfalso
      by_cases h2 : (bsb c k).1 < 0 ∨ (bsb c k).2 < gnb c ((k : Int) / 4) ((k : Int) / 2 % 2) (stp (k : Int))
      · rw [bsb_t rfl hm h2] at h
        have h : (k : Int) < 0 := h
        omega
      · rw [bsb_f rfl hm h2] at h
        exact h2 (Or.inl h)
    · rw [bsb_n rfl hm] at h
      by_cases e : j = k
      · subst e; exact hm
      · exact ih h j (by omega)
theorem fsm_m1 {c : Nat → Int} : ∀ (j : Nat) (z : Int), (∀ k, z ≤ k → k < z + (j : Int) → ¬ (cel c (0 + k * 6 + 0) = cel c 108 ∧ 0 < mvo c k)) → fsm c j z = -1
  | 0, z, _ => rfl
  | j + 1, z, h => by
    unfold fsm
    rw [if_neg (h z (by omega) (by omega))]
    exact fsm_m1 j (z + 1) (fun k h1 h2 => h k (by omega) (by omega))
theorem obP_0 {B : Int} {c : Nat → Int} (hI : Iv B c) (h : (bsb c (4 * cel c 107).toNat).1 < 0) : ¬ obP c = 3 := by
  have hn := hI.1.n
  have hno := bsb_no _ h
  have e : fsm c (cel c 107).toNat 0 = -1 := fsm_m1 _ 0 fun f f0 f1 hf => by
    obtain ⟨hf1, hf2⟩ := hf
    have key : ∀ (r s : Int) (j : Nat), (r = 0 ∨ r = 1) → (j : Int) / 4 = f → (j : Int) / 2 % 2 = r → stp (j : Int) = s → ¬ (oco c f r s = 1 ∨ oco c f r s = 2 ∨ oco c f r s = 3) := by
      intro r s j hr e1 e2 e3 ho
      refine hno j (by omega) ?_
      unfold omv
      rw [e1, e2, e3]
      have e4 : ocn c f r s = oco c f r s := if_pos hf1
      rw [e4]
      exact ho
    have st : ∀ j : Nat, (j : Int) % 2 = 0 → stp (j : Int) = 1 := fun j hj => if_pos (by omega)
    have su : ∀ j : Nat, (j : Int) % 2 = 1 → stp (j : Int) = -1 := fun j hj => if_neg (by omega)
    have n1 := key 0 1 (4 * f).toNat (Or.inl rfl) (by omega) (by omega) (st _ (by omega))
    have n2 := key 0 (-1) (4 * f + 1).toNat (Or.inl rfl) (by omega) (by omega) (su _ (by omega))
    have n3 := key 1 1 (4 * f + 2).toNat (Or.inr rfl) (by omega) (by omega) (st _ (by omega))
    have n4 := key 1 (-1) (4 * f + 3).toNat (Or.inr rfl) (by omega) (by omega) (su _ (by omega))
    have hz : mvo c f = 0 := by
      unfold mvo
      rw [b2_f n1, b2_f n2, b2_f n3, b2_f n4]
      rfl
    omega
  unfold obP
  rw [if_pos e]
  decide
end DMA
