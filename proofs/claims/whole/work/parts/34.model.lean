/-! the row of the second implementation, held against the row of the class; runs with an answer that is known in part -/
section MOD
/-- a run whose answer is one of many -/
def Exq (d i : Nat) (f : FZ) (u : Nat) (Q : RSZ → Prop) : Prop := ∃ r, Q r ∧ Ex d i f u r
def RZq (d j : Nat) (as : List VZ) (τ : SZ) (Q : RSZ → Prop) : Prop := ∃ r, Q r ∧ RZ d j as τ r
theorem Exq.call {d i : Nat} {as : List VZ} {τ : SZ} {Q : RSZ → Prop} (h : Exq d i (mK i, iniz i as, [], τ) 0 Q) (hi : Nat.blt i NM = true) (hl : Nat.ble as.length (mL i) = true) : RZq (d + 1) i as τ Q := by
  obtain ⟨r, h1, h2⟩ := h
  exact ⟨r, h1, Ex.call h2 hi hl⟩
theorem exq_n {d i : Nat} {f g : FZ} {u : Nat} {Q : RSZ → Prop} {P : Option Prop} (h : nz i f = some (P, g)) (hP : oP P) (k : Exq d i g u Q) : Exq d i f u Q := by
  obtain ⟨r, h1, h2⟩ := k
  exact ⟨r, h1, ex_n h hP h2⟩
theorem exq_k {d i : Nat} (k : Nat) {g : FZ} {u : Nat} {Q : RSZ → Prop} {P : Option Prop} {f : FZ} (h : nzK i k f = some (P, g)) (hP : oP P) (kk : Exq d i g u Q) : Exq d i f u Q := by
  obtain ⟨r, h1, h2⟩ := kk
  exact ⟨r, h1, ex_k k h hP h2⟩
theorem exq_b {d i : Nat} {f ct cf : FZ} {u : Nat} {Q : RSZ → Prop} {G P : Prop} (h : bz i f = some (G, P, ct, cf)) (hG : G) (kt : P → Exq d i ct u Q) (kf : ¬ P → Exq d i cf u Q) : Exq d i f u Q := by
  rcases Classical.em P with q | q
  · obtain ⟨r, h1, h2⟩ := kt q
    exact ⟨r, h1, ex_b h hG (fun _ => h2) (fun n => absurd q n)⟩
  · obtain ⟨r, h1, h2⟩ := kf q
    exact ⟨r, h1, ex_b h hG (fun p => absurd p q) (fun _ => h2)⟩
theorem exq_r {d i : Nat} {f : FZ} {u : Nat} {Q : RSZ → Prop} {v : Option VZ} (h : fz f = some v) (hv : retZ (mR i) v) (hu : Nat.ble u (mX i) = true) (hr : Q (.inl (v, f.2.2.2))) : Exq d i f u Q := ⟨_, hr, ex_r h hv hu rfl⟩
theorem exq_c {d d' i j : Nat} {f : FZ} {as : List VZ} {is : List CI} {L : List (Option VZ)} {st : List VZ} {τ τ' : SZ} {v : Option VZ} {u : Nat} {Q : RSZ → Prop} (hM : RZ d' j as τ (.inl (v, τ'))) (h : cz i f = some (j, as, (is, L, st, τ))) (hd : Nat.ble d' d = true) (hu : Nat.ble (u + mX j) (mX i) = true) (k : Exq d i (is, L, v.toList ++ st, τ') (u + mX j) Q) : Exq d i f u Q := by
  obtain ⟨r, h1, h2⟩ := k
  exact ⟨r, h1, ex_c hM h hd hu h2⟩
/-- the cell of the class's row of which a number of the other row speaks -/
def oc (i : Int) : Int := if i = 0 then 107 else if i = 1 then 108 else if i < 9 then 98 + i else if i < 61 then
    (if (i - 9) % 26 = 0 then 96 + (i - 9) / 26 else if (i - 9) % 26 = 1 then 98 + (i - 9) / 26 else if (i - 9) % 26 < 14 then 72 + (i - 9) / 26 * 12 + ((i - 9) % 26 - 2) else 48 + (i - 9) / 26 * 12 + ((i - 9) % 26 - 14)) else i - 61
def ob (c : Nat → Int) (i : Int) : Int := if 9 ≤ i ∧ i < 61 ∧ 14 ≤ (i - 9) % 26 then b2 (cel c (oc i) = 8) else cel c (oc i)
def Rs (c s : Nat → Int) : Prop := (∀ i, 0 ≤ i → i < 61 + 6 * cel c 107 → s i.toNat = ob c i) ∧ Tz s
theorem Rs.tz {c s : Nat → Int} (h : Rs c s) : Tz s := h.2
theorem Rs.n {c s : Nat → Int} (h : Rs c s) (hn : 0 ≤ cel c 107) : s 0 = cel c 107 := h.1 0 (by omega) (by omega)
theorem Rs.tu {c s : Nat → Int} (h : Rs c s) (hn : 0 ≤ cel c 107) : s 1 = cel c 108 := h.1 1 (by omega) (by omega)
theorem Rs.to {c s : Nat → Int} (h : Rs c s) (hn : 0 ≤ cel c 107) {k : Int} (hk : 2 ≤ k ∧ k < 9) : s k.toNat = cel c (98 + k) := by
  rw [h.1 k (by omega) (by omega)]
  unfold ob oc
  rw [if_neg (by omega), if_neg (by omega), if_neg (by omega), if_pos (by omega)]
theorem Rs.fe {c s : Nat → Int} (h : Rs c s) {f w : Int} (hf : 0 ≤ f ∧ f < cel c 107) (hw : 0 ≤ w ∧ w < 6) : s ((61 + 6 * f) + w).toNat = cel c (0 + f * 6 + w) := by
  rw [h.1 _ (by omega) (by omega)]
  unfold ob oc
  rw [if_neg (by omega), if_neg (by omega), if_neg (by omega), if_neg (by omega), if_neg (by omega)]
  exact congrArg (cel c) (by omega)
theorem Rs.o0 {c s : Nat → Int} (h : Rs c s) (hn : 0 ≤ cel c 107) {r : Int} (hr : 0 ≤ r ∧ r < 2) : s ((9 + 26 * r) + 0).toNat = cel c (96 + r) := by
  rw [h.1 _ (by omega) (by omega)]
  unfold ob oc
  rw [if_neg (by omega), if_neg (by omega), if_neg (by omega), if_neg (by omega), if_pos (by omega), if_pos (by omega)]
  exact congrArg (cel c) (by omega)
theorem Rs.o1 {c s : Nat → Int} (h : Rs c s) (hn : 0 ≤ cel c 107) {r : Int} (hr : 0 ≤ r ∧ r < 2) : s ((9 + 26 * r) + 1).toNat = cel c (98 + r) := by
  rw [h.1 _ (by omega) (by omega)]
  unfold ob oc
  rw [if_neg (by omega), if_neg (by omega), if_neg (by omega), if_neg (by omega), if_pos (by omega), if_neg (by omega), if_pos (by omega)]
  exact congrArg (cel c) (by omega)
theorem Rs.ol {c s : Nat → Int} (h : Rs c s) (hn : 0 ≤ cel c 107) {r p : Int} (hr : 0 ≤ r ∧ r < 2) (hp : 0 ≤ p ∧ p < 12) : s ((9 + 26 * r) + (2 + p)).toNat = usz c r p := by
  rw [h.1 _ (by omega) (by omega)]
  unfold ob oc usz
  rw [if_neg (by omega), if_neg (by omega), if_neg (by omega), if_neg (by omega), if_pos (by omega), if_neg (by omega), if_neg (by omega), if_pos (by omega), if_pos hp]
  exact congrArg (cel c) (by omega)
theorem Rs.og {c s : Nat → Int} (h : Rs c s) (hn : 0 ≤ cel c 107) {r p : Int} (hr : 0 ≤ r ∧ r < 2) (hp : 0 ≤ p ∧ p < 12) : s ((9 + 26 * r) + (14 + p)).toNat = b2 (whz c r p = 8) := by
  rw [h.1 _ (by omega) (by omega)]
  unfold ob oc whz
  rw [if_pos (by omega), if_neg (by omega), if_neg (by omega), if_neg (by omega), if_pos (by omega), if_neg (by omega), if_neg (by omega), if_neg (by omega), if_pos hp]
  have e : 48 + (9 + 26 * r + (14 + p) - 9) / 26 * 12 + ((9 + 26 * r + (14 + p) - 9) % 26 - 14) = 48 + r * 12 + p := by omega
  rw [e]
theorem b2_iff {P Q : Prop} [Decidable P] [Decidable Q] (h : P ↔ Q) : b2 P = b2 Q := by
  by_cases p : P
  · rw [b2_t p, b2_t (h.mp p)]
  · rw [b2_f p, b2_f (fun q => p (h.mpr q))]
theorem oc_in {i : Int} (h0 : 0 ≤ i) (h1 : i < 109) : 0 ≤ oc i ∧ oc i < 109 := by
  unfold oc
  repeat (first | omega | split)
/-- the numbers that two rows of the class must share to be held against the same row -/
theorem Rs.eo {c d s : Nat → Int} (h : Rs c s) (hn : cel d 107 ≤ 8) (e : ∀ y, 0 ≤ y → y < 61 + 6 * cel d 107 → y < 61 + 6 * cel c 107 ∧ (cel d (oc y) = cel c (oc y) ∨ (9 ≤ y ∧ y < 61 ∧ 14 ≤ (y - 9) % 26 ∧ (cel d (oc y) = 8 ↔ cel c (oc y) = 8)))) : Rs d s := by
  refine ⟨fun y h0 h1 => ?_, h.2⟩
  obtain ⟨q1, q2⟩ := e y h0 h1
  rw [h.1 y h0 q1]
  unfold ob
  rcases q2 with q2 | ⟨a, b, g, q2⟩
  · rw [q2]
  · rw [if_pos ⟨a, b, g⟩, if_pos ⟨a, b, g⟩]
    exact b2_iff q2.symm
/-- one number is written in both -/
theorem Rs.up {c d s : Nat → Int} (h : Rs c s) {i v : Int} (hi : 0 ≤ i ∧ i < 109) (hv : i < 61 + 6 * cel d 107 → ob d i = v) (hn : cel d 107 ≤ 8) (e : ∀ y, 0 ≤ y → y < 61 + 6 * cel d 107 → y ≠ i → y < 61 + 6 * cel c 107 ∧ (cel d (oc y) = cel c (oc y) ∨ (9 ≤ y ∧ y < 61 ∧ 14 ≤ (y - 9) % 26 ∧ (cel d (oc y) = 8 ↔ cel c (oc y) = 8)))) : Rs d (zu s i.toNat v) := by
  refine ⟨fun y h0 h1 => ?_, fun k hk => ?_⟩
  · by_cases q : y = i
    · subst q
      rw [zu_at, hv h1]
    · rw [zu_ne (by omega)]
      obtain ⟨q1, q2⟩ := e y h0 h1 q
      rw [h.1 y h0 q1]
      unfold ob
      rcases q2 with q2 | ⟨a, b, g, q2⟩
      · rw [q2]
      · rw [if_pos ⟨a, b, g⟩, if_pos ⟨a, b, g⟩]
        exact b2_iff q2.symm
  · rw [zu_ne (by omega)]
    exact h.2 k hk
theorem oc_f {y : Int} (h : 61 ≤ y) : oc y = y - 61 := by
  unfold oc
  rw [if_neg (by omega), if_neg (by omega), if_neg (by omega), if_neg (by omega)]
theorem oc_hi {y : Int} (h0 : 0 ≤ y) (h : y < 61) : 48 ≤ oc y ∧ oc y < 109 := by
  unfold oc
  repeat (first | omega | split)
/-- where no tug is spoken of -/
theorem ob_n {c : Nat → Int} {i : Int} (h : i < 9 ∨ 61 ≤ i ∨ (i - 9) % 26 < 14) : ob c i = cel c (oc i) := by
  unfold ob
  rw [if_neg (by omega)]
theorem ob_g {c : Nat → Int} {i : Int} (h : 9 ≤ i ∧ i < 61 ∧ 14 ≤ (i - 9) % 26) : ob c i = b2 (cel c (oc i) = 8) := by
  unfold ob
  rw [if_pos h]
theorem oc_inj {x y : Int} (hx : 0 ≤ x ∧ x < 109) (hy : 0 ≤ y ∧ y < 109) (e : oc x = oc y) : x = y := by
  unfold oc at e
  repeat (first | omega | split at e)
/-- one number that is no tug's and not how many there are -/
theorem Rs.sc {c s : Nat → Int} (h : Rs c s) (hn : cel c 107 ≤ 8) {i v : Int} (hi : 0 < i ∧ i < 109) (hg : i < 9 ∨ 61 ≤ i ∨ (i - 9) % 26 < 14) : Rs (sce c (oc i) v) (zu s i.toNat v) := by
  have ho := oc_in (i := i) (by omega) hi.2
  have e107 : oc i ≠ 107 := fun q => by
    have q2 := oc_inj (x := i) (y := 0) (by omega) (by omega) (q.trans rfl)
    omega
  have en : cel (sce c (oc i) v) 107 = cel c 107 := cel_ne e107
  refine h.up (by omega) (fun _ => ?_) (by rw [en]; exact hn) (fun y h0 h1 hne => ?_)
  · rw [ob_n hg, cel_eq ho]
  · rw [en] at h1
    refine ⟨h1, Or.inl (cel_ne (fun q => hne ?_))⟩
    exact (oc_inj (by omega) (by omega) q).symm
end MOD
