/-! moves and captures told in two ways: sums over ferries, places, and who is jumped over -/
section CMB
theorem b2_iff {P Q : Prop} [Decidable P] [Decidable Q] (h : P ↔ Q) : b2 P = b2 Q := by
  by_cases p : P
  · rw [b2_t p, b2_t (h.mp p)]
  · rw [b2_f p, b2_f (fun q => p (h.mpr q))]
theorem oco_k {c : Nat → Int} {f r s : Int} (h : oco c f r s = 1 ∨ oco c f r s = 2 ∨ oco c f r s = 3) : (0 ≤ cel c (0 + f * 6 + (1 + r)) + s ∧ cel c (0 + f * 6 + (1 + r)) + s < 12) ∧ ((whz c r (cel c (0 + f * 6 + (1 + r)) + s) = -1 ∧ oco c f r s = 1) ∨ (whz c r (cel c (0 + f * 6 + (1 + r)) + s) = 8 ∧ oco c f r s = 2) ∨ (¬ whz c r (cel c (0 + f * 6 + (1 + r)) + s) = -1 ∧ ¬ whz c r (cel c (0 + f * 6 + (1 + r)) + s) = 8 ∧ oco c f r s = 3)) := by
  unfold oco at h ⊢
  repeat (first | omega | split at h)
  all_goals (first | (rw [if_neg (by assumption), if_neg (by assumption), if_neg (by assumption)]; repeat (first | omega | split)) | omega)
theorem cap_ov {B : Int} {c : Nat → Int} (hI : Iv B c) {f r s : Int} (hr : 0 ≤ r ∧ r < 2) (h : oco c f r s = 3) : (0 ≤ cel c (0 + f * 6 + (1 + r)) + s ∧ cel c (0 + f * 6 + (1 + r)) + s < 12) ∧ (0 ≤ whz c r (cel c (0 + f * 6 + (1 + r)) + s) ∧ whz c r (cel c (0 + f * 6 + (1 + r)) + s) < cel c 107) ∧ (0 ≤ cel c (0 + whz c r (cel c (0 + f * 6 + (1 + r)) + s) * 6 + 3) ∧ cel c (0 + whz c r (cel c (0 + f * 6 + (1 + r)) + s) * 6 + 3) ≤ 1) := by
  have hk := oco_k (c := c) (f := f) (r := r) (s := s) (by omega)
  have hv := hI.2.1.ov (p := cel c (0 + f * 6 + (1 + r)) + s) hr
  have hn := hI.1.n
  have ho : 0 ≤ whz c r (cel c (0 + f * 6 + (1 + r)) + s) ∧ whz c r (cel c (0 + f * 6 + (1 + r)) + s) < cel c 107 := by omega
  exact ⟨hk.1, ho, hI.1.kg (by omega)⟩
theorem gol_k {c : Nat → Int} {f r s : Int} (h : oco c f r s = 1 ∨ oco c f r s = 2 ∨ oco c f r s = 3) : gol c f r s = cel c (0 + f * 6 + (1 + r)) + (if oco c f r s = 1 then s else 2 * s) := by
  have hk := oco_k h
  have hw : whz c r (cel c (0 + f * 6 + (1 + r)) + s) = cel c (48 + r * 12 + (cel c (0 + f * 6 + (1 + r)) + s)) := by unfold whz; rw [if_pos hk.1]
  unfold gol
  by_cases q : oco c f r s = 1
  · rw [if_pos q, if_pos ⟨hk.1, by omega⟩]
  · rw [if_neg q, if_neg (fun w => by omega)]
    omega
theorem sm_add {f g : Nat → Int} : ∀ n, sm (fun k => f k + g k) n = sm f n + sm g n
  | 0 => rfl
  | n + 1 => by
    show sm (fun k => f k + g k) n + (f n + g n) = (sm f n + f n) + (sm g n + g n)
    rw [sm_add n]
    omega
theorem sm_z : ∀ n, sm (fun _ => (0 : Int)) n = 0
  | 0 => rfl
  | n + 1 => by
    show sm (fun _ => (0 : Int)) n + 0 = 0
    rw [sm_z n]
    rfl
theorem sm_comm {F : Nat → Nat → Int} (m : Nat) : ∀ n, sm (fun k => sm (F k) m) n = sm (fun j => sm (fun k => F k j) n) m
  | 0 => (sm_z m).symm
  | n + 1 => by
    show sm (fun k => sm (F k) m) n + sm (F n) m = _
    rw [sm_comm m n, ← sm_add]
    rfl
theorem sm_uni {P : Nat → Prop} [∀ k, Decidable (P k)] {Q : Prop} [Decidable Q] {w : Int} : ∀ n : Nat, (∀ k, k < n → (P k ↔ Q ∧ (k : Int) = w)) → sm (fun k => b2 (P k)) n = b2 (Q ∧ 0 ≤ w ∧ w < (n : Int))
  | 0, _ => by
    rw [b2_f (fun h => by have := h.2; omega)]
    rfl
  | n + 1, h => by
    show sm (fun k => b2 (P k)) n + b2 (P n) = _
    rw [sm_uni n (fun k hk => h k (by omega))]
    have hn := h n (by omega)
    by_cases q : Q
    · by_cases e : (n : Int) = w
      · rw [b2_f (show ¬ (Q ∧ 0 ≤ w ∧ w < (n : Int)) from fun z => by have := z.2; omega), b2_t (hn.mpr ⟨q, e⟩), b2_t ⟨q, by omega⟩]
        rfl
      · rw [b2_f (show ¬ P n from fun z => e (hn.mp z).2)]
        by_cases e2 : 0 ≤ w ∧ w < (n : Int)
        · rw [b2_t ⟨q, e2⟩, b2_t ⟨q, by omega⟩]
          rfl
        · rw [b2_f (show ¬ (Q ∧ 0 ≤ w ∧ w < (n : Int)) from fun z => e2 z.2), b2_f (show ¬ (Q ∧ 0 ≤ w ∧ w < ((n + 1 : Nat) : Int)) from fun z => by have := z.2; omega)]
          rfl
    · rw [b2_f (show ¬ (Q ∧ 0 ≤ w ∧ w < (n : Int)) from fun z => q z.1), b2_f (show ¬ P n from fun z => q (hn.mp z).1), b2_f (show ¬ (Q ∧ 0 ≤ w ∧ w < ((n + 1 : Nat) : Int)) from fun z => q z.1)]
      rfl
abbrev pcl (c : Nat → Int) (f r : Int) : Int := cel c (0 + f * 6 + (1 + r))
abbrev mvb (c : Nat → Int) (f r s : Int) : Prop := oco c f r s = 1 ∨ oco c f r s = 2 ∨ oco c f r s = 3
abbrev ff0 (c : Nat → Int) (f r : Int) : Prop := (pcl c f r - cel c (96 + r) + 12) % 12 < cel c (98 + r)
abbrev in12 (p : Int) : Prop := 0 ≤ p ∧ p < 12
abbrev own0 (c : Nat → Int) (f r s : Int) : Prop := ¬ whz c r (pcl c f r + s) = 8 ∧ cel c (0 + (whz c r (pcl c f r + s)) * 6 + 0) = cel c (0 + f * 6 + 0)
abbrev fr0 (c : Nat → Int) (f r s : Int) : Prop := (0 ≤ (pcl c f r + s + s) ∧ (pcl c f r + s + s) < 12) ∧ cel c (48 + r * 12 + (pcl c f r + s + s)) = -1
theorem oco_1 {c : Nat → Int} {f r s : Int} : oco c f r s = 1 ↔ ¬ ff0 c f r ∧ gby c f s ∧ in12 (pcl c f r + s) ∧ whz c r (pcl c f r + s) = -1 := by
  unfold oco
  by_cases a1 : ff0 c f r
  · rw [if_pos a1]; exact ⟨fun h => absurd h (by decide), fun h => absurd a1 h.1⟩
  · rw [if_neg a1]
    by_cases a2 : gby c f s
    · rw [if_neg (fun h => h a2)]
      by_cases a3 : in12 (pcl c f r + s)
      · rw [if_neg (fun h => h a3)]
        by_cases a4 : whz c r (pcl c f r + s) = -1
        · rw [if_pos a4]; exact ⟨fun _ => ⟨a1, a2, a3, a4⟩, fun _ => rfl⟩
        · rw [if_neg a4]
          refine ⟨fun h => ?_, fun h => absurd h.2.2.2 a4⟩
          split at h
          · exact absurd h (by decide)
          · split at h
            · exact absurd h (by decide)
            · split at h <;> exact absurd h (by decide)
      · rw [if_pos a3]; exact ⟨fun h => absurd h (by decide), fun h => absurd h.2.2.1 a3⟩
    · rw [if_pos a2]; exact ⟨fun h => absurd h (by decide), fun h => absurd h.2.1 a2⟩
theorem oco_23 {c : Nat → Int} {f r s : Int} : (oco c f r s = 2 ∨ oco c f r s = 3) ↔ ¬ ff0 c f r ∧ gby c f s ∧ in12 (pcl c f r + s) ∧ ¬ whz c r (pcl c f r + s) = -1 ∧ ¬ own0 c f r s ∧ fr0 c f r s := by
  unfold oco
  by_cases a1 : ff0 c f r
  · rw [if_pos a1]; exact ⟨fun h => absurd h (by decide), fun h => absurd a1 h.1⟩
  · rw [if_neg a1]
    by_cases a2 : gby c f s
    · rw [if_neg (fun h => h a2)]
      by_cases a3 : in12 (pcl c f r + s)
      · rw [if_neg (fun h => h a3)]
        by_cases a4 : whz c r (pcl c f r + s) = -1
        · rw [if_pos a4]; exact ⟨fun h => absurd h (by decide), fun h => absurd a4 h.2.2.2.1⟩
        · rw [if_neg a4]
          by_cases a5 : own0 c f r s
          · rw [if_pos a5]; exact ⟨fun h => absurd h (by decide), fun h => absurd a5 h.2.2.2.2.1⟩
          · rw [if_neg a5]
            by_cases a6 : fr0 c f r s
            · rw [if_neg (fun h => h a6)]
              refine ⟨fun _ => ⟨a1, a2, a3, a4, a5, a6⟩, fun _ => ?_⟩
              split
              · exact Or.inl rfl
              · exact Or.inr rfl
            · rw [if_pos a6]; exact ⟨fun h => absurd h (by decide), fun h => absurd h.2.2.2.2.2 a6⟩
      · rw [if_pos a3]; exact ⟨fun h => absurd h (by decide), fun h => absurd h.2.2.1 a3⟩
    · rw [if_pos a2]; exact ⟨fun h => absurd h (by decide), fun h => absurd h.2.1 a2⟩
theorem Co.whp {B : Int} {c : Nat → Int} (hI : Iv B c) {f r : Int} (hf : 0 ≤ f ∧ f < cel c 107) (hr : 0 ≤ r ∧ r < 2) : whz c r (pcl c f r) = f := by
  have hn := hI.1.n
  have hp := hI.1.pl (f := f) (by omega) hr
  unfold whz
  rw [if_pos (show 0 ≤ pcl c f r ∧ pcl c f r < 12 from ⟨hp.1, by show cel c (0 + f * 6 + (1 + r)) < 12; omega⟩)]
  exact hI.2.1.at hr hf
theorem Co.pwh {B : Int} {c : Nat → Int} (hI : Iv B c) {r p : Int} (hr : 0 ≤ r ∧ r < 2) (h1 : ¬ whz c r p = -1) (h8 : ¬ whz c r p = 8) : (0 ≤ p ∧ p < 12) ∧ (0 ≤ whz c r p ∧ whz c r p < cel c 107) ∧ pcl c (whz c r p) r = p := by
  by_cases hp : 0 ≤ p ∧ p < 12
  · have e : whz c r p = cel c (48 + r * 12 + p) := by unfold whz; rw [if_pos hp]
    have hb := hI.2.1.by hr hp
    rw [← e] at hb
    rcases hb with q | q | q
    · exact absurd q h1
    · exact absurd q h8
    · exact ⟨hp, ⟨q.1, q.2.1⟩, q.2.2⟩
  · exact absurd (by unfold whz; rw [if_neg hp]) h1
abbrev owx (c : Nat → Int) (x r q : Int) : Prop := ¬ whz c r q = 8 ∧ cel c (0 + whz c r q * 6 + 0) = x
abbrev mvw (c : Nat → Int) (x r s p : Int) : Int := if owx c x r (p - s) then whz c r (p - s) else whz c r (p - s - s)
abbrev mvQ (c : Nat → Int) (x r s p : Int) : Prop := cel c (48 + r * 12 + p) = -1 ∧ ¬ whz c r (p - s) = -1 ∧ cle c x r (if owx c x r (p - s) then p - s else p - s - s) s
theorem mv_char {B : Int} {c : Nat → Int} (hI : Iv B c) {x r s p : Int} (hr : 0 ≤ r ∧ r < 2) (hp : 0 ≤ p ∧ p < 12) {k : Int} (hk : 0 ≤ k ∧ k < cel c 107) (hs : s = 1 ∨ s = -1) :
    (cel c (0 + k * 6 + 0) = x ∧ mvb c k r s ∧ gol c k r s = p) ↔ (mvQ c x r s p ∧ k = mvw c x r s p) := by
  have hn := hI.1.n
  have hpl := hI.1.pl (f := k) (by omega) hr
  have hw := Co.whp hI hk hr
  have hwp : whz c r p = cel c (48 + r * 12 + p) := by unfold whz; rw [if_pos hp]
  constructor
  · rintro ⟨h1, h2, h3⟩
    have hg := gol_ok h2
    have hgk := gol_k h2
    rw [h3] at hg hgk
    by_cases o1 : oco c k r s = 1
    · obtain ⟨a1, a2, a3, a4⟩ := oco_1.mp o1
      rw [if_pos o1] at hgk
      have e : p - s = pcl c k r := by show p - s = cel c (0 + k * 6 + (1 + r)); omega
      have ho : owx c x r (p - s) := by
        rw [e]
        refine ⟨by rw [hw]; omega, ?_⟩
        rw [hw]; exact h1
      refine ⟨⟨hg.2, by rw [e, hw]; omega, ?_⟩, by unfold mvw; rw [if_pos ho, e, hw]⟩
      rw [if_pos ho, e]
      refine ⟨⟨by rw [hw]; omega, by rw [hw]; omega, by rw [hw]; exact h1, ?_⟩, a1⟩
      rw [hw]; exact a2
    · obtain ⟨a1, a2, a3, a4, a5, a6⟩ := oco_23.mp (h2.resolve_left o1)
      rw [if_neg o1] at hgk
      have e : p - s = pcl c k r + s := by show p - s = cel c (0 + k * 6 + (1 + r)) + s; omega
      have e2 : p - s - s = pcl c k r := by show p - s - s = cel c (0 + k * 6 + (1 + r)); omega
      have ho : ¬ owx c x r (p - s) := by
        rw [e]
        intro q
        exact a5 ⟨q.1, q.2.trans h1.symm⟩
      refine ⟨⟨hg.2, by rw [e]; exact a4, ?_⟩, by unfold mvw; rw [if_neg ho, e2, hw]⟩
      rw [if_neg ho, e2]
      refine ⟨⟨by rw [hw]; omega, by rw [hw]; omega, by rw [hw]; exact h1, ?_⟩, a1⟩
      rw [hw]; exact a2
  · rintro ⟨⟨q1, q2, q3⟩, q4⟩
    unfold mvw at q4
    by_cases ho : owx c x r (p - s)
    · rw [if_pos ho] at q3 q4
      obtain ⟨⟨b1, b2', b3, b4⟩, b5⟩ := q3
      obtain ⟨c1, c2, c3⟩ := Co.pwh hI hr b1 b2'
      rw [← q4] at b3 b4 c3
      have e : pcl c k r + s = p := by rw [c3]; omega
      have o1 : oco c k r s = 1 := oco_1.mpr ⟨by show ¬ (pcl c k r - cel c (96 + r) + 12) % 12 < cel c (98 + r); rw [c3]; exact b5, b4, by rw [e]; exact hp, by rw [e, hwp]; exact q1⟩
      refine ⟨b3, Or.inl o1, ?_⟩
      rw [gol_k (Or.inl o1), if_pos o1]
      exact e
    · rw [if_neg ho] at q3 q4
      obtain ⟨⟨b1, b2', b3, b4⟩, b5⟩ := q3
      obtain ⟨c1, c2, c3⟩ := Co.pwh hI hr b1 b2'
      rw [← q4] at b3 b4 c3
      have e : pcl c k r + s = p - s := by rw [c3]; omega
      have e2 : pcl c k r + s + s = p := by rw [c3]; omega
      have o23 : oco c k r s = 2 ∨ oco c k r s = 3 := oco_23.mpr ⟨by show ¬ (pcl c k r - cel c (96 + r) + 12) % 12 < cel c (98 + r); rw [c3]; exact b5, b4, by rw [e]; show 0 ≤ p - s ∧ p - s < 12; omega, by rw [e]; exact q2, by
        show ¬ (¬ whz c r (pcl c k r + s) = 8 ∧ cel c (0 + (whz c r (pcl c k r + s)) * 6 + 0) = cel c (0 + k * 6 + 0))
        rw [e, b3]; exact ho, by
        show (0 ≤ (pcl c k r + s + s) ∧ (pcl c k r + s + s) < 12) ∧ cel c (48 + r * 12 + (pcl c k r + s + s)) = -1
        rw [e2]; exact ⟨hp, q1⟩⟩
      refine ⟨b3, Or.inr o23, ?_⟩
      rw [gol_k (Or.inr o23), if_neg (by omega)]
      have e3 : pcl c k r = p - s - s := c3
      show pcl c k r + 2 * s = p
      omega
/-- a place has a comer, or none -/
theorem cmr_is {B : Int} {c : Nat → Int} (hI : Iv B c) {x r s p : Int} (hr : 0 ≤ r ∧ r < 2) (hp : 0 ≤ p ∧ p < 12) : b2 (mvQ c x r s p ∧ 0 ≤ mvw c x r s p ∧ mvw c x r s p < cel c 107) = if (0 ≤ p ∧ p < 12) ∧ cel c (48 + r * 12 + p) = -1 then cmr c x r p s else 0 := by
  by_cases q : cel c (48 + r * 12 + p) = -1
  · rw [show (if (0 ≤ p ∧ p < 12) ∧ cel c (48 + r * 12 + p) = -1 then cmr c x r p s else 0) = cmr c x r p s from if_pos ⟨hp, q⟩]
    unfold cmr
    by_cases q1 : whz c r (p - s) = -1
    · rw [if_pos q1, b2_f (fun z => z.1.2.1 q1)]
    · rw [if_neg q1]
      by_cases ho : owx c x r (p - s)
      · refine Eq.trans ?_ (if_pos ho).symm
        refine b2_iff ⟨fun z => ?_, fun z => ⟨⟨q, q1, by rw [if_pos ho]; exact z⟩, ?_⟩⟩
        · have z3 := z.1.2.2
          rw [if_pos ho] at z3
          exact z3
        · have hv := Co.pwh hI hr q1 ho.1
          unfold mvw
          rw [if_pos ho]
          exact hv.2.1
      · refine Eq.trans ?_ (if_neg ho).symm
        refine b2_iff ⟨fun z => ?_, fun z => ⟨⟨q, q1, by rw [if_neg ho]; exact z⟩, ?_⟩⟩
        · have z3 := z.1.2.2
          rw [if_neg ho] at z3
          exact z3
        · have hv := Co.pwh hI hr z.1.1 z.1.2.1
          unfold mvw
          rw [if_neg ho]
          exact hv.2.1
  · rw [show (if (0 ≤ p ∧ p < 12) ∧ cel c (48 + r * 12 + p) = -1 then cmr c x r p s else 0) = 0 from if_neg (fun z => q z.2), b2_f (fun z => q z.1.1)]
theorem sm_one {P : Prop} [Decidable P] {g : Int} (n : Nat) (h : P → 0 ≤ g ∧ g < (n : Int)) : sm (fun j => b2 (P ∧ g = (j : Int))) n = b2 P := by
  rw [sm_uni (Q := P) (w := g) n (fun k _ => ⟨fun z => ⟨z.1, z.2.symm⟩, fun z => ⟨z.1, z.2.symm⟩⟩)]
  exact b2_iff ⟨fun z => z.1, fun z => ⟨z, h z⟩⟩
/-- for one river and one way: ferry by ferry is place by place -/
theorem mv_rs {B : Int} {c : Nat → Int} (hI : Iv B c) {x r s : Int} (hr : 0 ≤ r ∧ r < 2) (hs : s = 1 ∨ s = -1) {N : Nat} (hN : cel c 107 = (N : Int)) :
    sm (fun k => b2 (cel c (0 + (k : Int) * 6 + 0) = x ∧ mvb c (k : Int) r s)) N = sm (fun k => if (0 ≤ (k : Int) ∧ (k : Int) < 12) ∧ cel c (48 + r * 12 + (k : Int)) = -1 then cmr c x r (k : Int) s else 0) 12 := by
  have e1 : sm (fun k => b2 (cel c (0 + (k : Int) * 6 + 0) = x ∧ mvb c (k : Int) r s)) N = sm (fun k => sm (fun j => b2 ((cel c (0 + (k : Int) * 6 + 0) = x ∧ mvb c (k : Int) r s) ∧ gol c (k : Int) r s = (j : Int))) 12) N := by
    refine sm_cong (fun k hk => ?_)
    exact (sm_one 12 (fun z => (gol_ok z.2).1)).symm
  rw [e1, sm_comm]
  refine sm_cong (fun j hj => ?_)
  rw [← cmr_is hI hr (p := (j : Int)) (by omega)]
  rw [sm_uni (Q := mvQ c x r s (j : Int)) (w := mvw c x r s (j : Int)) N (fun k hk => ?_), hN]
  have q := mv_char hI (x := x) (s := s) hr (p := (j : Int)) (by omega) (k := (k : Int)) (by omega) hs
  exact ⟨fun z => q.mp ⟨z.1.1, z.1.2, z.2⟩, fun z => by have z2 := q.mpr z; exact ⟨⟨z2.1, z2.2.1⟩, z2.2.2⟩⟩
theorem if_b4 {P A1 A2 A3 A4 : Prop} [Decidable P] [Decidable A1] [Decidable A2] [Decidable A3] [Decidable A4] : (if P then 0 + b2 A1 + b2 A2 + b2 A3 + b2 A4 else 0) = b2 (P ∧ A1) + b2 (P ∧ A2) + b2 (P ∧ A3) + b2 (P ∧ A4) := by
  by_cases p : P
  · rw [if_pos p, b2_iff (P := P ∧ A1) (Q := A1) ⟨fun z => z.2, fun z => ⟨p, z⟩⟩, b2_iff (P := P ∧ A2) (Q := A2) ⟨fun z => z.2, fun z => ⟨p, z⟩⟩, b2_iff (P := P ∧ A3) (Q := A3) ⟨fun z => z.2, fun z => ⟨p, z⟩⟩, b2_iff (P := P ∧ A4) (Q := A4) ⟨fun z => z.2, fun z => ⟨p, z⟩⟩]
    omega
  · rw [if_neg p, b2_f (fun z => p z.1), b2_f (fun z => p z.1), b2_f (fun z => p z.1), b2_f (fun z => p z.1)]
    rfl
theorem if_2 {P : Prop} [Decidable P] {a b : Int} : (if P then a + b else 0) = (if P then a else 0) + (if P then b else 0) := by
  by_cases p : P
  · rw [if_pos p, if_pos p, if_pos p]
  · rw [if_neg p, if_neg p, if_neg p]; rfl
theorem sm_4 {f g h i : Nat → Int} {n : Nat} : sm (fun k => f k + g k + h k + i k) n = sm f n + sm g n + sm h n + sm i n := by
  rw [sm_add (f := fun k => f k + g k + h k) (g := i), sm_add (f := fun k => f k + g k) (g := h), sm_add]
/-- MOVES TOLD IN TWO WAYS -/
theorem mbf_mbp {B : Int} {c : Nat → Int} (hI : Iv B c) {x : Int} {N : Nat} (hN : cel c 107 = (N : Int)) : mbf c x N = mbp c x := by
  have h0m := mv_rs hI (x := x) (r := 0) (s := -1) (by omega) (Or.inr rfl) hN
  have h0p := mv_rs hI (x := x) (r := 0) (s := 1) (by omega) (Or.inl rfl) hN
  have h1m := mv_rs hI (x := x) (r := 1) (s := -1) (by omega) (Or.inr rfl) hN
  have h1p := mv_rs hI (x := x) (r := 1) (s := 1) (by omega) (Or.inl rfl) hN
  have e : mbf c x N = sm (fun k => b2 (cel c (0 + (k : Int) * 6 + 0) = x ∧ mvb c (k : Int) 0 (-1)) + b2 (cel c (0 + (k : Int) * 6 + 0) = x ∧ mvb c (k : Int) 0 1) + b2 (cel c (0 + (k : Int) * 6 + 0) = x ∧ mvb c (k : Int) 1 (-1)) + b2 (cel c (0 + (k : Int) * 6 + 0) = x ∧ mvb c (k : Int) 1 1)) N := by
    refine sm_cong (fun k _ => ?_)
    exact if_b4
  have e0 : ∀ r : Int, sm (fun k => if (0 ≤ (k : Int) ∧ (k : Int) < 12) ∧ cel c (48 + r * 12 + (k : Int)) = -1 then cmr c x r (k : Int) 1 + cmr c x r (k : Int) (-1) else 0) 12 = sm (fun k => if (0 ≤ (k : Int) ∧ (k : Int) < 12) ∧ cel c (48 + r * 12 + (k : Int)) = -1 then cmr c x r (k : Int) 1 else 0) 12 + sm (fun k => if (0 ≤ (k : Int) ∧ (k : Int) < 12) ∧ cel c (48 + r * 12 + (k : Int)) = -1 then cmr c x r (k : Int) (-1) else 0) 12 := by
    intro r
    rw [← sm_add]
    refine sm_cong (fun k _ => ?_)
    exact if_2
  rw [e, sm_4]
  unfold mbp
  rw [e0 0, e0 1, ← h0m, ← h0p, ← h1m, ← h1p]
  omega
/-- who jumps over a ferry on a river, a way -/
abbrev jvQ (c : Nat → Int) (g r s : Int) : Prop := ((0 ≤ (pcl c g r + s) ∧ (pcl c g r + s) < 12) ∧ cel c (48 + r * 12 + (pcl c g r + s)) = -1) ∧ cle c (1 - cel c (0 + g * 6 + 0)) r (pcl c g r - s) s
theorem cap_char {B : Int} {c : Nat → Int} (hI : Iv B c) {x r s g : Int} (hx : 0 ≤ x ∧ x < 2) (hr : 0 ≤ r ∧ r < 2) (hg : 0 ≤ g ∧ g < cel c 107) {k : Int} (hk : 0 ≤ k ∧ k < cel c 107) :
    (cel c (0 + k * 6 + 0) = x ∧ oco c k r s = 3 ∧ whz c r (pcl c k r + s) = g) ↔ ((¬ cel c (0 + g * 6 + 0) = x ∧ jvQ c g r s) ∧ k = whz c r (pcl c g r - s)) := by
  have hn := hI.1.n
  have hpk := hI.1.pl (f := k) (by omega) hr
  have hpg := hI.1.pl (f := g) (by omega) hr
  have hsg := hI.1.sd (f := g) (by omega)
  have hsk := hI.1.sd (f := k) (by omega)
  have hw := Co.whp hI hk hr
  have hwg := Co.whp hI hg hr
  constructor
  · rintro ⟨h1, h2, h3⟩
    obtain ⟨a1, a2, a3, a4, a5, a6⟩ := oco_23.mp (Or.inr h2)
    have k3 := oco_k (Or.inr (Or.inr h2))
    have n8 : ¬ whz c r (pcl c k r + s) = 8 := by rw [h3]; omega
    obtain ⟨c1, c2, c3⟩ := Co.pwh hI hr a4 n8
    rw [h3] at c3
    have e : pcl c g r - s = pcl c k r := by rw [c3]; omega
    have e2 : pcl c g r + s = pcl c k r + s + s := by rw [c3]
    have hgx : ¬ cel c (0 + g * 6 + 0) = x := by
      intro q
      refine a5 ⟨n8, ?_⟩
      rw [h3, q, h1]
    refine ⟨⟨hgx, ?_⟩, by rw [e, hw]⟩
    refine ⟨by rw [e2]; exact a6, ?_⟩
    rw [e]
    refine ⟨⟨by rw [hw]; omega, by rw [hw]; omega, by rw [hw]; omega, by rw [hw]; exact a2⟩, a1⟩
  · rintro ⟨⟨q1, q2, q3⟩, q4⟩
    obtain ⟨⟨b1, b2', b3, b4⟩, b5⟩ := q3
    obtain ⟨c1, c2, c3⟩ := Co.pwh hI hr b1 b2'
    rw [← q4] at b3 b4 c3
    have e : pcl c k r + s = pcl c g r := by rw [c3]; omega
    have o23 : oco c k r s = 2 ∨ oco c k r s = 3 := oco_23.mpr ⟨by show ¬ (pcl c k r - cel c (96 + r) + 12) % 12 < cel c (98 + r); rw [c3]; exact b5, b4, by rw [e]; show 0 ≤ pcl c g r ∧ pcl c g r < 12; omega, by rw [e, hwg]; omega, by
      show ¬ (¬ whz c r (pcl c k r + s) = 8 ∧ cel c (0 + (whz c r (pcl c k r + s)) * 6 + 0) = cel c (0 + k * 6 + 0))
      rw [e, hwg]
      intro z
      have z2 := z.2
      omega, by
      show (0 ≤ (pcl c k r + s + s) ∧ (pcl c k r + s + s) < 12) ∧ cel c (48 + r * 12 + (pcl c k r + s + s)) = -1
      rw [e]; exact q2⟩
    have k3 := oco_k (Or.inr o23)
    have e3 : whz c r (pcl c k r + s) = g := by rw [e, hwg]
    have e4 : whz c r (cel c (0 + k * 6 + (1 + r)) + s) = g := e3
    refine ⟨by omega, by omega, e3⟩
theorem cap_rs {B : Int} {c : Nat → Int} (hI : Iv B c) {x r s : Int} (hx : 0 ≤ x ∧ x < 2) (hr : 0 ≤ r ∧ r < 2) {N : Nat} (hN : cel c 107 = (N : Int)) :
    sm (fun k => b2 (cel c (0 + (k : Int) * 6 + 0) = x ∧ oco c (k : Int) r s = 3)) N = sm (fun k => b2 (¬ cel c (0 + (k : Int) * 6 + 0) = x ∧ jvQ c (k : Int) r s)) N := by
  have e1 : sm (fun k => b2 (cel c (0 + (k : Int) * 6 + 0) = x ∧ oco c (k : Int) r s = 3)) N = sm (fun k => sm (fun j => b2 ((cel c (0 + (k : Int) * 6 + 0) = x ∧ oco c (k : Int) r s = 3) ∧ whz c r (pcl c (k : Int) r + s) = (j : Int))) N) N := by
    refine sm_cong (fun k hk => ?_)
    refine (sm_one N (fun z => ?_)).symm
    have q := (cap_ov hI (f := (k : Int)) (s := s) hr z.2).2.1
    rw [← hN]
    exact q
  rw [e1, sm_comm]
  refine sm_cong (fun j hj => ?_)
  rw [sm_uni (Q := ¬ cel c (0 + (j : Int) * 6 + 0) = x ∧ jvQ c (j : Int) r s) (w := whz c r (pcl c (j : Int) r - s)) N (fun k hk => ?_)]
  · refine b2_iff ⟨fun z => z.1, fun z => ⟨z, ?_⟩⟩
    rw [← hN]
    exact (Co.pwh hI hr z.2.2.1.1 z.2.2.1.2.1).2.1
  · have q := cap_char hI hx (s := s) hr (g := (j : Int)) (by omega) (k := (k : Int)) (by omega)
    exact ⟨fun z => q.mp ⟨z.1.1, z.1.2, z.2⟩, fun z => by have z2 := q.mpr z; exact ⟨⟨z2.1, z2.2.1⟩, z2.2.2⟩⟩
theorem jov_is (c : Nat → Int) (f : Int) : jov c f = 0 + b2 (jvQ c f 0 (-1)) + b2 (jvQ c f 0 1) + b2 (jvQ c f 1 (-1)) + b2 (jvQ c f 1 1) := by
  have key : ∀ a b c d a' b' c' d' : Int, a = a' → b = b' → c = c' → d = d' → 0 + a + b + c + d = 0 + a' + b' + c' + d' := by
    intro a b c d a' b' c' d' h1 h2 h3 h4
    rw [h1, h2, h3, h4]
  unfold jov
  refine key _ _ _ _ _ _ _ _ (b2_iff ?_) (b2_iff ?_) (b2_iff ?_) (b2_iff ?_)
  · unfold jvQ pcl; rw [show (1 : Int) + 0 = 1 from rfl]
  · unfold jvQ pcl; rw [show (1 : Int) + 0 = 1 from rfl]; simp only [cle, eq_self, and_true]
  · unfold jvQ pcl; rw [show (1 : Int) + 1 = 2 from rfl]
  · unfold jvQ pcl; rw [show (1 : Int) + 1 = 2 from rfl]; simp only [cle, eq_self, and_true]
/-- CAPTURES TOLD IN TWO WAYS -/
theorem cbj_cbd {B : Int} {c : Nat → Int} (hI : Iv B c) {x : Int} (hx : 0 ≤ x ∧ x < 2) {N : Nat} (hN : cel c 107 = (N : Int)) : cbj c x N = cbd c x N := by
  have h0m := cap_rs hI hx (r := 0) (s := -1) (by omega) hN
  have h0p := cap_rs hI hx (r := 0) (s := 1) (by omega) hN
  have h1m := cap_rs hI hx (r := 1) (s := -1) (by omega) hN
  have h1p := cap_rs hI hx (r := 1) (s := 1) (by omega) hN
  have e : cbj c x N = sm (fun k => b2 (cel c (0 + (k : Int) * 6 + 0) = x ∧ oco c (k : Int) 0 (-1) = 3) + b2 (cel c (0 + (k : Int) * 6 + 0) = x ∧ oco c (k : Int) 0 1 = 3) + b2 (cel c (0 + (k : Int) * 6 + 0) = x ∧ oco c (k : Int) 1 (-1) = 3) + b2 (cel c (0 + (k : Int) * 6 + 0) = x ∧ oco c (k : Int) 1 1 = 3)) N := by
    refine sm_cong (fun k _ => ?_)
    exact if_b4
  have e2 : cbd c x N = sm (fun k => b2 (¬ cel c (0 + (k : Int) * 6 + 0) = x ∧ jvQ c (k : Int) 0 (-1)) + b2 (¬ cel c (0 + (k : Int) * 6 + 0) = x ∧ jvQ c (k : Int) 0 1) + b2 (¬ cel c (0 + (k : Int) * 6 + 0) = x ∧ jvQ c (k : Int) 1 (-1)) + b2 (¬ cel c (0 + (k : Int) * 6 + 0) = x ∧ jvQ c (k : Int) 1 1)) N := by
    refine sm_cong (fun k _ => ?_)
    show (if ¬ cel c (0 + (k : Int) * 6 + 0) = x then jov c (k : Int) else 0) = _
    rw [jov_is]
    exact if_b4
  rw [e, e2, sm_4, sm_4, h0m, h0p, h1m, h1p]
end CMB
