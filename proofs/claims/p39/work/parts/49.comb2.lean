/-! who is threatened, the most points, the orders of ferries -/
section CMB2
def thv (c : Nat → Int) (f : Int) : Nat → Int
  | 0 => 0
  | k + 1 => if thv c f k = 1 ∨ (cel c (0 + (k : Int) * 6 + 1) + 1 = cel c (0 + f * 6 + 1) ∧ oco c (k : Int) 0 1 = 3) ∨ (cel c (0 + (k : Int) * 6 + 1) + (-1) = cel c (0 + f * 6 + 1) ∧ oco c (k : Int) 0 (-1) = 3) ∨ (cel c (0 + (k : Int) * 6 + 2) + 1 = cel c (0 + f * 6 + 2) ∧ oco c (k : Int) 1 1 = 3) ∨ (cel c (0 + (k : Int) * 6 + 2) + (-1) = cel c (0 + f * 6 + 2) ∧ oco c (k : Int) 1 (-1) = 3) then 1 else 0
theorem thv_01 {c : Nat → Int} {f : Int} : ∀ k, thv c f k = 0 ∨ thv c f k = 1
  | 0 => Or.inl rfl
  | k + 1 => by unfold thv; split; exact Or.inr rfl; exact Or.inl rfl
def stq (c : Nat → Int) (f r s m : Int) : Int := if oco c f r s = 3 then (if m < 1 + cel c (0 + whz c r (cel c (0 + f * 6 + (1 + r)) + s) * 6 + 3) then 1 + cel c (0 + whz c r (cel c (0 + f * 6 + (1 + r)) + s) * 6 + 3) else m) else m
def mpv (c : Nat → Int) (x : Int) : Nat → Int
  | 0 => 0
  | k + 1 => if cel c (0 + (k : Int) * 6 + 0) = x then stq c (k : Int) 1 (-1) (stq c (k : Int) 1 1 (stq c (k : Int) 0 (-1) (stq c (k : Int) 0 1 (mpv c x k)))) else mpv c x k
theorem stq_t {c : Nat → Int} {f r s m : Int} (h : oco c f r s = 3) : stq c f r s m = (if m < 1 + cel c (0 + whz c r (cel c (0 + f * 6 + (1 + r)) + s) * 6 + 3) then 1 + cel c (0 + whz c r (cel c (0 + f * 6 + (1 + r)) + s) * 6 + 3) else m) := if_pos h
theorem stq_f {c : Nat → Int} {f r s m : Int} (h : ¬ oco c f r s = 3) : stq c f r s m = m := if_neg h
def fnl (a : Nat → Int) (p : Int) : Nat → Int
  | 0 => 0
  | k + 1 => if a k = p then (k : Int) else fnl a p k
/-- a jump over a ferry is a jump of some ferry -/
theorem jv_ex {B : Int} {c : Nat → Int} (hI : Iv B c) {g r s : Int} (hr : 0 ≤ r ∧ r < 2) (hg : 0 ≤ g ∧ g < cel c 107) : jvQ c g r s ↔ ∃ k, (0 ≤ k ∧ k < cel c 107) ∧ oco c k r s = 3 ∧ pcl c k r + s = pcl c g r := by
  have hn := hI.1.n
  have hsg := hI.1.sd (f := g) (by omega)
  have hwg := Co.whp hI hg hr
  constructor
  · intro h
    have h2 := h.2
    have hv := Co.pwh hI hr h2.1.1 h2.1.2.1
    have q := (cap_char hI (x := 1 - cel c (0 + g * 6 + 0)) (by omega) (s := s) hr hg hv.2.1).mpr ⟨⟨by omega, h⟩, rfl⟩
    refine ⟨_, hv.2.1, q.2.1, ?_⟩
    rw [hv.2.2]
    omega
  · rintro ⟨k, hk, h1, h2⟩
    have hsk := hI.1.sd (f := k) (by omega)
    have hw : whz c r (pcl c k r + s) = g := by rw [h2, hwg]
    obtain ⟨a1, a2, a3, a4, a5, a6⟩ := oco_23.mp (Or.inr h1)
    have hne : ¬ cel c (0 + g * 6 + 0) = cel c (0 + k * 6 + 0) := fun q => a5 ⟨by rw [hw]; omega, by rw [hw]; exact q⟩
    have q := (cap_char hI (x := cel c (0 + k * 6 + 0)) (by omega) (s := s) hr hg hk).mp ⟨rfl, h1, hw⟩
    exact q.1.2
theorem jov_pos {B : Int} {c : Nat → Int} (hI : Iv B c) {g : Int} (hg : 0 ≤ g ∧ g < cel c 107) : 0 < jov c g ↔ ∃ k r s, (0 ≤ k ∧ k < cel c 107) ∧ (0 ≤ r ∧ r < 2) ∧ (s = 1 ∨ s = -1) ∧ oco c k r s = 3 ∧ pcl c k r + s = pcl c g r := by
  have h1 := jv_ex hI (r := 0) (s := -1) (by omega) hg
  have h2 := jv_ex hI (r := 0) (s := 1) (by omega) hg
  have h3 := jv_ex hI (r := 1) (s := -1) (by omega) hg
  have h4 := jv_ex hI (r := 1) (s := 1) (by omega) hg
  have a1 := @b2_01 (jvQ c g 0 (-1)) _
  have a2 := @b2_01 (jvQ c g 0 1) _
  have a3 := @b2_01 (jvQ c g 1 (-1)) _
  have a4 := @b2_01 (jvQ c g 1 1) _
  rw [jov_is]
  constructor
  · intro h
    by_cases q1 : jvQ c g 0 (-1)
    · obtain ⟨k, e1, e2, e3⟩ := h1.mp q1; exact ⟨k, 0, -1, e1, by omega, Or.inr rfl, e2, e3⟩
    · by_cases q2 : jvQ c g 0 1
      · obtain ⟨k, e1, e2, e3⟩ := h2.mp q2; exact ⟨k, 0, 1, e1, by omega, Or.inl rfl, e2, e3⟩
      · by_cases q3 : jvQ c g 1 (-1)
        · obtain ⟨k, e1, e2, e3⟩ := h3.mp q3; exact ⟨k, 1, -1, e1, by omega, Or.inr rfl, e2, e3⟩
        · by_cases q4 : jvQ c g 1 1
          · obtain ⟨k, e1, e2, e3⟩ := h4.mp q4; exact ⟨k, 1, 1, e1, by omega, Or.inl rfl, e2, e3⟩
          · rw [b2_f q1, b2_f q2, b2_f q3, b2_f q4] at h
            exact absurd h (by decide)
  · rintro ⟨k, r, s, e1, hr, hs, e2, e3⟩
    have hr2 : r = 0 ∨ r = 1 := by omega
    rcases hr2 with rfl | rfl <;> rcases hs with rfl | rfl
    · have z := b2_t (h2.mpr ⟨k, e1, e2, e3⟩); omega
    · have z := b2_t (h1.mpr ⟨k, e1, e2, e3⟩); omega
    · have z := b2_t (h4.mpr ⟨k, e1, e2, e3⟩); omega
    · have z := b2_t (h3.mpr ⟨k, e1, e2, e3⟩); omega
theorem thv_ex {c : Nat → Int} {g : Int} : ∀ n : Nat, thv c g n = 1 ↔ ∃ k r s, (0 ≤ k ∧ k < (n : Int)) ∧ (0 ≤ r ∧ r < 2) ∧ (s = 1 ∨ s = -1) ∧ oco c k r s = 3 ∧ pcl c k r + s = pcl c g r
  | 0 => ⟨fun h => absurd h (show ¬ (0 : Int) = 1 by decide), fun ⟨k, r, s, h, _⟩ => by omega⟩
  | n + 1 => by
    have ih := thv_ex (c := c) (g := g) n
    have e01 := @thv_01 c g n
    unfold thv
    constructor
    · intro h
      split at h
      next q =>
        rcases q with q | q | q | q | q
        · obtain ⟨k, r, s, h1, h2⟩ := ih.mp q; exact ⟨k, r, s, by omega, h2⟩
        · exact ⟨(n : Int), 0, 1, by omega, by omega, Or.inl rfl, q.2, q.1⟩
        · exact ⟨(n : Int), 0, -1, by omega, by omega, Or.inr rfl, q.2, q.1⟩
        · exact ⟨(n : Int), 1, 1, by omega, by omega, Or.inl rfl, q.2, q.1⟩
        · exact ⟨(n : Int), 1, -1, by omega, by omega, Or.inr rfl, q.2, q.1⟩
      next => exact absurd h (by decide)
    · rintro ⟨k, r, s, h1, hr, hs, h2, h3⟩
      refine if_pos ?_
      by_cases hk : k = (n : Int)
      · subst hk
        have hr2 : r = 0 ∨ r = 1 := by omega
        rcases hr2 with rfl | rfl <;> rcases hs with rfl | rfl
        · exact Or.inr (Or.inl ⟨h3, h2⟩)
        · exact Or.inr (Or.inr (Or.inl ⟨h3, h2⟩))
        · exact Or.inr (Or.inr (Or.inr (Or.inl ⟨h3, h2⟩)))
        · exact Or.inr (Or.inr (Or.inr (Or.inr ⟨h3, h2⟩)))
      · exact Or.inl (ih.mpr ⟨k, r, s, by omega, hr, hs, h2, h3⟩)
/-- WHO IS THREATENED -/
theorem thv_jov {B : Int} {c : Nat → Int} (hI : Iv B c) {g : Int} (hg : 0 ≤ g ∧ g < cel c 107) {N : Nat} (hN : cel c 107 = (N : Int)) : thv c g N = b2 (0 < jov c g) := by
  have h1 := @thv_ex c g N
  have h2 := jov_pos hI hg
  rw [hN] at h2
  have h01 := @thv_01 c g N
  by_cases q : 0 < jov c g
  · rw [b2_t q]; exact h1.mpr (h2.mp q)
  · rw [b2_f q]
    rcases h01 with e | e
    · exact e
    · exact absurd (h2.mpr (h1.mp e)) q
theorem mxp_sp {c : Nat → Int} {x : Int} (hk : ∀ k : Nat, 0 ≤ cel c (0 + (k : Int) * 6 + 3)) : ∀ n : Nat, 0 ≤ mxp c x n ∧ (∀ k : Nat, k < n → (¬ cel c (0 + (k : Int) * 6 + 0) = x ∧ 0 < jov c (k : Int)) → 1 + cel c (0 + (k : Int) * 6 + 3) ≤ mxp c x n) ∧
    (mxp c x n = 0 ∨ ∃ k : Nat, k < n ∧ (¬ cel c (0 + (k : Int) * 6 + 0) = x ∧ 0 < jov c (k : Int)) ∧ mxp c x n = 1 + cel c (0 + (k : Int) * 6 + 3))
  | 0 => ⟨Int.le_refl 0, fun k h => absurd h (by omega), Or.inl rfl⟩
  | n + 1 => by
    obtain ⟨h1, h2, h3⟩ := mxp_sp hk n
    have hkn := hk n
    unfold mxp
    by_cases q : ¬ cel c (0 + (n : Int) * 6 + 0) = x ∧ 0 < jov c (n : Int)
    · rw [if_pos q]
      by_cases q2 : mxp c x n < 1 + cel c (0 + (n : Int) * 6 + 3)
      · rw [if_pos q2]
        refine ⟨by omega, fun k hk hc => ?_, Or.inr ⟨n, by omega, q, rfl⟩⟩
        by_cases e : k = n
        · subst e; omega
        · have := h2 k (by omega) hc; omega
      · rw [if_neg q2]
        refine ⟨h1, fun k hk hc => ?_, h3.elim Or.inl (fun ⟨k, a, b, d⟩ => Or.inr ⟨k, by omega, b, d⟩)⟩
        by_cases e : k = n
        · subst e; omega
        · exact h2 k (by omega) hc
    · rw [if_neg q]
      refine ⟨h1, fun k hk hc => ?_, h3.elim Or.inl (fun ⟨k, a, b, d⟩ => Or.inr ⟨k, by omega, b, d⟩)⟩
      by_cases e : k = n
      · subst e; exact absurd hc q
      · exact h2 k (by omega) hc
/-- the worth of a jump -/
abbrev wth (c : Nat → Int) (f r s : Int) : Int := 1 + cel c (0 + whz c r (pcl c f r + s) * 6 + 3)
theorem stq_sp {c : Nat → Int} {f r s m : Int} : m ≤ stq c f r s m ∧ (oco c f r s = 3 → wth c f r s ≤ stq c f r s m) ∧ (stq c f r s m = m ∨ (oco c f r s = 3 ∧ stq c f r s m = wth c f r s)) := by
  by_cases h : oco c f r s = 3
  · rw [stq_t h]
    have e : wth c f r s = 1 + cel c (0 + whz c r (cel c (0 + f * 6 + (1 + r)) + s) * 6 + 3) := rfl
    rw [e]
    split
    · exact ⟨by omega, fun _ => Int.le_refl _, Or.inr ⟨h, rfl⟩⟩
    · exact ⟨Int.le_refl _, fun _ => by omega, Or.inl rfl⟩
  · rw [stq_f h]
    exact ⟨Int.le_refl _, fun q => absurd q h, Or.inl rfl⟩
theorem mpv_sp {c : Nat → Int} {x : Int} : ∀ n : Nat, 0 ≤ mpv c x n ∧ (∀ (k : Nat) (r s : Int), k < n → (0 ≤ r ∧ r < 2) → (s = 1 ∨ s = -1) → cel c (0 + (k : Int) * 6 + 0) = x → oco c (k : Int) r s = 3 → wth c (k : Int) r s ≤ mpv c x n) ∧
    (mpv c x n = 0 ∨ ∃ (k : Nat) (r s : Int), k < n ∧ (0 ≤ r ∧ r < 2) ∧ (s = 1 ∨ s = -1) ∧ cel c (0 + (k : Int) * 6 + 0) = x ∧ oco c (k : Int) r s = 3 ∧ mpv c x n = wth c (k : Int) r s)
  | 0 => ⟨Int.le_refl 0, fun k _ _ h => absurd h (by omega), Or.inl rfl⟩
  | n + 1 => by
    obtain ⟨h1, h2, h3⟩ := mpv_sp (c := c) (x := x) n
    unfold mpv
    by_cases q : cel c (0 + (n : Int) * 6 + 0) = x
    · rw [if_pos q]
      have a1 := @stq_sp c (n : Int) 0 1 (mpv c x n)
      generalize stq c (n : Int) 0 1 (mpv c x n) = m1 at a1 ⊢
      have a2 := @stq_sp c (n : Int) 0 (-1) m1
      generalize stq c (n : Int) 0 (-1) m1 = m2 at a2 ⊢
      have a3 := @stq_sp c (n : Int) 1 1 m2
      generalize stq c (n : Int) 1 1 m2 = m3 at a3 ⊢
      have a4 := @stq_sp c (n : Int) 1 (-1) m3
      generalize stq c (n : Int) 1 (-1) m3 = m4 at a4 ⊢
      obtain ⟨b1, b2', b3⟩ := a1
      obtain ⟨c1, c2, c3⟩ := a2
      obtain ⟨d1, d2, d3⟩ := a3
      obtain ⟨e1, e2, e3⟩ := a4
      refine ⟨by omega, fun k r s hk hr hs hx ho => ?_, ?_⟩
      · by_cases e : k = n
        · subst e
          have hr2 : r = 0 ∨ r = 1 := by omega
          rcases hr2 with rfl | rfl <;> rcases hs with rfl | rfl
          · have := b2' ho; omega
          · have := c2 ho; omega
          · have := d2 ho; omega
          · have := e2 ho; omega
        · have := h2 k r s (by omega) hr hs hx ho; omega
      · rcases e3 with e3 | ⟨g1, g2⟩
        · rcases d3 with d3 | ⟨g1, g2⟩
          · rcases c3 with c3 | ⟨g1, g2⟩
            · rcases b3 with b3 | ⟨g1, g2⟩
              · rcases h3 with h3 | ⟨k, r, s, i1, i2, i3, i4, i5, i6⟩
                · exact Or.inl (by omega)
                · exact Or.inr ⟨k, r, s, by omega, i2, i3, i4, i5, by omega⟩
              · exact Or.inr ⟨n, 0, 1, by omega, by omega, Or.inl rfl, q, g1, by omega⟩
            · exact Or.inr ⟨n, 0, -1, by omega, by omega, Or.inr rfl, q, g1, by omega⟩
          · exact Or.inr ⟨n, 1, 1, by omega, by omega, Or.inl rfl, q, g1, by omega⟩
        · exact Or.inr ⟨n, 1, -1, by omega, by omega, Or.inr rfl, q, g1, by omega⟩
    · rw [if_neg q]
      refine ⟨h1, fun k r s hk hr hs hx ho => ?_, h3.elim Or.inl (fun ⟨k, r, s, a, b⟩ => Or.inr ⟨k, r, s, by omega, b⟩)⟩
      by_cases e : k = n
      · subst e; exact absurd hx q
      · exact h2 k r s (by omega) hr hs hx ho
/-- THE MOST POINTS -/
theorem mxp_mpv {B : Int} {c : Nat → Int} (hI : Iv B c) {x : Int} (hx : 0 ≤ x ∧ x < 2) {N : Nat} (hN : cel c 107 = (N : Int)) : mxp c x N = mpv c x N := by
  have hn := hI.1.n
  have hkk : ∀ f : Int, (0 ≤ f ∧ f < 8) → 0 ≤ cel c (0 + f * 6 + 3) := fun f hf => (hI.1.kg hf).1
  obtain ⟨b1, b2', b3⟩ := @mpv_sp c x N
  -- the first way, up to N only
  have A : ∀ n : Nat, n ≤ N → 0 ≤ mxp c x n ∧ (∀ k : Nat, k < n → (¬ cel c (0 + (k : Int) * 6 + 0) = x ∧ 0 < jov c (k : Int)) → 1 + cel c (0 + (k : Int) * 6 + 3) ≤ mxp c x n) ∧
    (mxp c x n = 0 ∨ ∃ k : Nat, k < n ∧ (¬ cel c (0 + (k : Int) * 6 + 0) = x ∧ 0 < jov c (k : Int)) ∧ mxp c x n = 1 + cel c (0 + (k : Int) * 6 + 3)) := by
    intro n
    induction n with
    | zero => intro _; exact ⟨Int.le_refl 0, fun k h => absurd h (by omega), Or.inl rfl⟩
    | succ n ih =>
      intro hle
      obtain ⟨h1, h2, h3⟩ := ih (by omega)
      have hkn := hkk (n : Int) (by omega)
      unfold mxp
      by_cases q : ¬ cel c (0 + (n : Int) * 6 + 0) = x ∧ 0 < jov c (n : Int)
      · rw [if_pos q]
        by_cases q2 : mxp c x n < 1 + cel c (0 + (n : Int) * 6 + 3)
        · rw [if_pos q2]
          refine ⟨by omega, fun k hk hc => ?_, Or.inr ⟨n, by omega, q, rfl⟩⟩
          by_cases e : k = n
          · subst e; omega
          · have := h2 k (by omega) hc; omega
        · rw [if_neg q2]
          refine ⟨h1, fun k hk hc => ?_, h3.elim Or.inl (fun ⟨k, a, b, d⟩ => Or.inr ⟨k, by omega, b, d⟩)⟩
          by_cases e : k = n
          · subst e; omega
          · exact h2 k (by omega) hc
      · rw [if_neg q]
        refine ⟨h1, fun k hk hc => ?_, h3.elim Or.inl (fun ⟨k, a, b, d⟩ => Or.inr ⟨k, by omega, b, d⟩)⟩
        by_cases e : k = n
        · subst e; exact absurd hc q
        · exact h2 k (by omega) hc
  obtain ⟨a1, a2, a3⟩ := A N (Nat.le_refl N)
  refine Int.le_antisymm ?_ ?_
  · rcases a3 with a3 | ⟨k, hk, ⟨h1, h2⟩, h3⟩
    · omega
    · obtain ⟨j, r, s, hj, hr, hs, ho, hp⟩ := (jov_pos hI (g := (k : Int)) (by omega)).mp h2
      have hw : whz c r (pcl c j r + s) = (k : Int) := by rw [hp]; exact Co.whp hI (by omega) hr
      obtain ⟨g1, g2, g3, g4, g5, g6⟩ := oco_23.mp (Or.inr ho)
      have hsj := hI.1.sd (f := j) (by omega)
      have hsk := hI.1.sd (f := (k : Int)) (by omega)
      have hne : ¬ cel c (0 + (k : Int) * 6 + 0) = cel c (0 + j * 6 + 0) := fun q => g5 ⟨by rw [hw]; omega, by rw [hw]; exact q⟩
      have ej : ((j.toNat : Nat) : Int) = j := Int.toNat_of_nonneg hj.1
      have q := b2' j.toNat r s (by omega) hr hs (by rw [ej]; omega) (by rw [ej]; exact ho)
      rw [ej] at q
      have e : wth c j r s = 1 + cel c (0 + whz c r (pcl c j r + s) * 6 + 3) := rfl
      rw [e, hw] at q
      omega
  · rcases b3 with b3 | ⟨k, r, s, hk, hr, hs, hx2, ho, h3⟩
    · omega
    · have hv := cap_ov hI (f := (k : Int)) (s := s) hr ho
      have e : wth c (k : Int) r s = 1 + cel c (0 + whz c r (cel c (0 + (k : Int) * 6 + (1 + r)) + s) * 6 + 3) := rfl
      generalize hg : whz c r (cel c (0 + (k : Int) * 6 + (1 + r)) + s) = g at hv e
      obtain ⟨g1, g2, g3, g4, g5, g6⟩ := oco_23.mp (Or.inr ho)
      have eg : ((g.toNat : Nat) : Int) = g := Int.toNat_of_nonneg hv.2.1.1
      have hw : whz c r (pcl c (k : Int) r + s) = g := hg
      have hc := Co.pwh hI hr g4 (by rw [hw]; omega)
      rw [hw] at hc
      have hne : ¬ cel c (0 + g * 6 + 0) = x := fun q => g5 ⟨by rw [hw]; omega, by rw [hw, q, hx2]⟩
      have hj := (jov_pos hI hv.2.1).mpr ⟨(k : Int), r, s, by omega, hr, hs, ho, hc.2.2.symm⟩
      have q := a2 g.toNat (by omega) (by rw [eg]; exact ⟨hne, hj⟩)
      rw [eg] at q
      omega
/-! ## orders -/
theorem sm_le {f : Nat → Int} : ∀ n : Nat, (∀ k, k < n → f k ≤ 1) → sm f n ≤ (n : Int)
  | 0, _ => Int.le_refl 0
  | n + 1, h => by
    have h1 := sm_le n (fun k hk => h k (by omega))
    have h2 := h n (by omega)
    show sm f n + f n ≤ _
    omega
theorem sm_lt {f : Nat → Int} {i : Nat} : ∀ n : Nat, (∀ k, k < n → f k ≤ 1) → i < n → f i ≤ 0 → sm f n ≤ (n : Int) - 1
  | 0, _, h, _ => absurd h (by omega)
  | n + 1, h, hi, h0 => by
    have h2 := h n (by omega)
    show sm f n + f n ≤ _
    by_cases e : i = n
    · subst e
      have h1 := sm_le i (fun k hk => h k (by omega))
      omega
    · have h1 := sm_lt (i := i) n (fun k hk => h k (by omega)) (by omega) h0
      omega
theorem sm_mono {f g : Nat → Int} : ∀ n : Nat, (∀ k, k < n → f k ≤ g k) → sm f n ≤ sm g n
  | 0, _ => Int.le_refl 0
  | n + 1, h => by
    have h1 := sm_mono n (fun k hk => h k (by omega))
    have h2 := h n (by omega)
    show sm f n + f n ≤ sm g n + g n
    omega
theorem sm_mlt {f g : Nat → Int} {i : Nat} : ∀ n : Nat, (∀ k, k < n → f k ≤ g k) → i < n → f i < g i → sm f n < sm g n
  | 0, _, h, _ => absurd h (by omega)
  | n + 1, h, hi, h0 => by
    have h2 := h n (by omega)
    show sm f n + f n < sm g n + g n
    by_cases e : i = n
    · subst e
      have h1 := sm_mono i (fun k hk => h k (by omega))
      omega
    · have h1 := sm_mlt (i := i) n (fun k hk => h k (by omega)) (by omega) h0
      omega
theorem ahd_in {key : Nat → Int} {f N : Nat} (hf : f < N) : 0 ≤ ahd key f N ∧ ahd key f N ≤ (N : Int) - 1 :=
  ⟨(sm_01 (fun k _ => b2_01)).1, sm_lt (i := f) N (fun k _ => b2_01.2) hf (by rw [b2_f (by omega)]; exact Int.le_refl 0)⟩
theorem ahd_lt {key : Nat → Int} {f g N : Nat} (hf : f < N) (h : 0 < key f - key g ∨ (key f - key g = 0 ∧ (f : Int) < (g : Int))) : ahd key f N < ahd key g N := by
  refine sm_mlt (i := f) N (fun k _ => ?_) hf ?_
  · by_cases q : 0 < key k - key f ∨ (key k - key f = 0 ∧ (k : Int) < (f : Int))
    · rw [b2_t q, b2_t (by omega)]; exact Int.le_refl 1
    · rw [b2_f q]; exact b2_01.1
  · rw [b2_f (by omega), b2_t h]; decide
theorem ahd_inj {key : Nat → Int} {f g N : Nat} (hf : f < N) (hg : g < N) (h : ahd key f N = ahd key g N) : f = g := by
  by_cases e : f = g
  · exact e
  · exfalso
    by_cases q : 0 < key f - key g ∨ (key f - key g = 0 ∧ (f : Int) < (g : Int))
    · have := ahd_lt hf q; omega
    · have := ahd_lt (key := key) (f := g) (g := f) hg (by omega); omega
theorem sm_c1 : ∀ n : Nat, sm (fun _ => (1 : Int)) n = (n : Int)
  | 0 => rfl
  | n + 1 => by
    show sm (fun _ => (1 : Int)) n + 1 = _
    rw [sm_c1 n]
    omega
/-- each place is someone's -/
theorem onto {a : Nat → Int} {N : Nat} (ha : ∀ k, k < N → 0 ≤ a k ∧ a k ≤ (N : Int) - 1) (hj : ∀ f g, f < N → g < N → a f = a g → f = g) {p : Nat} (hp : p < N) : ∃ k, k < N ∧ a k = (p : Int) := by
  have hcol : ∀ j, j < N → sm (fun k => b2 (a k = (j : Int))) N ≤ 1 := by
    intro j hj2
    by_cases q : ∃ k, k < N ∧ a k = (j : Int)
    · obtain ⟨w, hw, e⟩ := q
      rw [sm_uni (Q := True) (w := (w : Int)) N (fun k hk => ⟨fun z => ⟨trivial, by rw [hj k w hk hw (z.trans e.symm)]⟩, fun z => by rw [show k = w from by omega]; exact e⟩)]
      exact b2_01.2
    · have e : sm (fun k => b2 (a k = (j : Int))) N = sm (fun _ => (0 : Int)) N := sm_cong (fun k hk => b2_f (fun z => q ⟨k, hk, z⟩))
      rw [e, sm_z]
      decide
  have htot : sm (fun j => sm (fun k => b2 (a k = (j : Int))) N) N = (N : Int) := by
    rw [← sm_comm (F := fun k j => b2 (a k = (j : Int)))]
    have e : sm (fun k => sm (fun j => b2 (a k = (j : Int))) N) N = sm (fun _ => (1 : Int)) N := by
      refine sm_cong (fun k hk => ?_)
      have q := sm_one (P := True) (g := a k) N (fun _ => by have := ha k hk; omega)
      rw [show (fun j : Nat => b2 (a k = (j : Int))) = (fun j : Nat => b2 (True ∧ a k = (j : Int))) from funext (fun j => b2_iff ⟨fun z => ⟨trivial, z⟩, fun z => z.2⟩), q]
      exact b2_t trivial
    rw [e, sm_c1]
  by_cases q : ∃ k, k < N ∧ a k = (p : Int)
  · exact q
  · exfalso
    have e : sm (fun k => b2 (a k = (p : Int))) N = 0 := by
      rw [show sm (fun k => b2 (a k = (p : Int))) N = sm (fun _ => (0 : Int)) N from sm_cong (fun k hk => b2_f (fun z => q ⟨k, hk, z⟩)), sm_z]
    have l := sm_lt (f := fun j => sm (fun k => b2 (a k = (j : Int))) N) (i := p) N hcol hp (by rw [e]; exact Int.le_refl 0)
    omega
theorem ffs_at {a : Nat → Int} {p : Int} {w N : Nat} (hw : a w = p) (hu : ∀ k, k < N → a k = p → k = w) : ∀ (j k : Nat), k + j = N → k ≤ w → w < N → ffs a p j k = (w : Int)
  | 0, k, h, h1, h2 => absurd h1 (by omega)
  | j + 1, k, h, h1, h2 => by
    unfold ffs
    by_cases q : a k = p
    · rw [if_pos q, hu k (by omega) q]
    · rw [if_neg q]
      exact ffs_at hw hu j (k + 1) (by omega) (by by_cases e : k = w; (subst e; exact absurd hw q); omega) h2
theorem ffs_no {a : Nat → Int} {p : Int} {N : Nat} (hu : ∀ k, k < N → ¬ a k = p) : ∀ (j k : Nat), k + j = N → ffs a p j k = -1
  | 0, k, _ => rfl
  | j + 1, k, h => by
    unfold ffs
    rw [if_neg (hu k (by omega))]
    exact ffs_no hu j (k + 1) (by omega)
theorem fnl_at {a : Nat → Int} {p : Int} {w N : Nat} (hw : a w = p) (hu : ∀ k, k < N → a k = p → k = w) : ∀ n : Nat, n ≤ N → w < n → fnl a p n = (w : Int)
  | 0, _, h => absurd h (by omega)
  | n + 1, h, h1 => by
    unfold fnl
    by_cases q : a n = p
    · rw [if_pos q, hu n (by omega) q]
    · rw [if_neg q]
      exact fnl_at hw hu n (by omega) (by by_cases e : n = w; (subst e; exact absurd hw q); omega)
/-- ORDERS: who is at a place, first found and last found -/
theorem ord_is {key : Nat → Int} {p : Int} {N : Nat} (hp : 0 ≤ p ∧ p < (N : Int)) : ffs (fun f => ahd key f N) p N 0 = fnl (fun f => ahd key f N) p N ∧ ¬ ffs (fun f => ahd key f N) p N 0 = -1 := by
  obtain ⟨w, hw, e⟩ := onto (a := fun f => ahd key f N) (fun k hk => ahd_in hk) (fun f g hf hg h => ahd_inj hf hg h) (p := p.toNat) (N := N) (by omega)
  have e2 : (fun f => ahd key f N) w = p := by
    have : ((p.toNat : Nat) : Int) = p := Int.toNat_of_nonneg hp.1
    rw [← this]; exact e
  have hu : ∀ k, k < N → (fun f => ahd key f N) k = p → k = w := fun k hk h => ahd_inj (key := key) hk hw (h.trans e2.symm)
  have h1 := ffs_at (a := fun f => ahd key f N) (p := p) (w := w) (N := N) e2 hu N 0 (by omega) (by omega) hw
  rw [h1, fnl_at (a := fun f => ahd key f N) (p := p) (w := w) (N := N) e2 hu N (Nat.le_refl N) hw]
  exact ⟨rfl, by omega⟩
theorem ord_no {key : Nat → Int} {p : Int} {N : Nat} (hp : ¬ (0 ≤ p ∧ p < (N : Int))) : ffs (fun f => ahd key f N) p N 0 = -1 :=
  ffs_no (N := N) (fun k hk h => by
    have q := ahd_in (key := key) hk
    have h2 : ahd key k N = p := h
    omega) N 0 (by omega)
end CMB2
