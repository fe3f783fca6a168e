/-! a text is carried out by both -/
section CAR
theorem sg_eq {n : Int} {f g : Nat → Int} (h : ∀ i : Nat, (i : Int) < n → g i = f i) (z : Int) : sg n g z = sg n f z := by
  unfold sg
  by_cases q : 0 ≤ z ∧ z < n
  · rw [if_pos q, if_pos q, h z.toNat (by omega)]
  · rw [if_neg q, if_neg q]
theorem wdt_eq {n : Int} {f g : Nat → Int} (h : ∀ z, sg n g z = sg n f z) (p z : Int) : wdt n g p z = wdt n f p z := by
  unfold wdt
  rw [h z, h (z + 1)]
theorem vlu_eq {n : Int} {f g : Nat → Int} (h : ∀ z, sg n g z = sg n f z) (p z w : Int) : vlu n g p z w = vlu n f p z w := by
  unfold vlu nmb
  rw [h z, h (z + 1)]
theorem mtc_eq {n : Int} {f g : Nat → Int} (h : ∀ z, sg n g z = sg n f z) : ∀ (l : List Int) (z : Int), mtc n g l z = mtc n f l z
  | [], _ => rfl
  | p :: ps, z => by
    unfold mtc
    rw [wdt_eq h, mtc_eq h ps, vlu_eq h]
theorem pr1_eq {n : Int} {f g : Nat → Int} (h : ∀ z, sg n g z = sg n f z) (z : Int) : ∀ (ws : List (Int × List Int)) (fu : Int), pr1 n g z ws fu = pr1 n f z ws fu
  | [], _ => rfl
  | (w, l) :: ws, fu => by
    unfold pr1
    rw [mtc_eq h, pr1_eq h z ws]
theorem prl_eq {n : Int} {f g : Nat → Int} (h : ∀ z, sg n g z = sg n f z) : ∀ (j : Nat) (z : Int) (acc : List (Int × List Int)), prl n g j z acc = prl n f j z acc
  | 0, _, _ => rfl
  | j + 1, z, acc => by
    unfold prl
    rw [pr1_eq h, h, prl_eq h j]
/-- a word's numbers that it doesn't have don't count -/
theorem ar_eq {c : Nat → Int} {w x y z x' y' z' : Int} (h : (w = 1 ∧ x = x' ∧ y = y') ∨ w = 5 ∨ (x = x' ∧ y = y' ∧ z = z')) : obW c w x y z = obW c w x' y' z' ∧ cao c w x y z = cao c w x' y' z' ∧ rrW c w x y z = rrW c w x' y' z' ∧ ∀ τ, rsW τ c w x y z = rsW τ c w x' y' z' := by
  rcases h with ⟨a, rfl, rfl⟩ | a | ⟨rfl, rfl, rfl⟩
  · subst a; exact ⟨rfl, rfl, rfl, fun _ => rfl⟩
  · subst a; exact ⟨rfl, rfl, rfl, fun _ => rfl⟩
  · exact ⟨rfl, rfl, rfl, fun _ => rfl⟩
theorem wf_ar {od : Nat → Int} {l : List (Int × List Int)} {k : Nat} (hl : Ol od l) (hk : k < l.length) (hw : WFo (l.getD k (0, []))) :
    odw od k 0 = (l.getD k (0, [])).1 ∧ ∀ c, obW c (odw od k 0) (odw od k 1) (odw od k 2) (odw od k 3) = obW c (l.getD k (0, [])).1 ((l.getD k (0, [])).2.getD 0 0) ((l.getD k (0, [])).2.getD 1 0) ((l.getD k (0, [])).2.getD 2 0) ∧
    cao c (odw od k 0) (odw od k 1) (odw od k 2) (odw od k 3) = cao c (l.getD k (0, [])).1 ((l.getD k (0, [])).2.getD 0 0) ((l.getD k (0, [])).2.getD 1 0) ((l.getD k (0, [])).2.getD 2 0) ∧
    ∀ τ, rsW τ c (odw od k 0) (odw od k 1) (odw od k 2) (odw od k 3) = rsW τ c (l.getD k (0, [])).1 ((l.getD k (0, [])).2.getD 0 0) ((l.getD k (0, [])).2.getD 1 0) ((l.getD k (0, [])).2.getD 2 0) := by
  obtain ⟨h0, h1, h2⟩ := hl k hk
  generalize l.getD k (0, []) = e at h0 h1 h2 hw ⊢
  obtain ⟨w, vs⟩ := e
  have e0 : odw od k 0 = w := by
    show od ((k : Int) * 4 + 0).toNat = w
    rw [show ((k : Int) * 4 + 0).toNat = k * 4 from by omega]; exact h1
  have ei : ∀ i : Nat, i < vs.length → od ((k : Int) * 4 + ((i + 1 : Nat) : Int)).toNat = vs.getD i 0 := fun i hi => by
    rw [show ((k : Int) * 4 + ((i + 1 : Nat) : Int)).toNat = k * 4 + 1 + i from by omega]; exact h2 i hi
  have key : (odw od k 0 = 1 ∧ odw od k 1 = vs.getD 0 0 ∧ odw od k 2 = vs.getD 1 0) ∨ odw od k 0 = 5 ∨ (odw od k 1 = vs.getD 0 0 ∧ odw od k 2 = vs.getD 1 0 ∧ odw od k 3 = vs.getD 2 0) := by
    rcases hw.1 with ⟨a, b⟩ | ⟨a, b⟩ | ⟨a, b⟩ | ⟨a, b⟩ | ⟨a, b⟩ | ⟨a, b⟩
    · have b : vs.length = 3 := b
      exact Or.inr (Or.inr ⟨ei 0 (by omega), ei 1 (by omega), ei 2 (by omega)⟩)
    · have b : vs.length = 2 := b
      have a : w = 1 := a
      exact Or.inl ⟨by rw [e0]; exact a, ei 0 (by omega), ei 1 (by omega)⟩
    · have b : vs.length = 3 := b
      exact Or.inr (Or.inr ⟨ei 0 (by omega), ei 1 (by omega), ei 2 (by omega)⟩)
    · have b : vs.length = 3 := b
      exact Or.inr (Or.inr ⟨ei 0 (by omega), ei 1 (by omega), ei 2 (by omega)⟩)
    · have b : vs.length = 3 := b
      exact Or.inr (Or.inr ⟨ei 0 (by omega), ei 1 (by omega), ei 2 (by omega)⟩)
    · have a : w = 5 := a
      exact Or.inr (Or.inl (by rw [e0]; exact a))
  refine ⟨e0, fun c => ?_⟩
  have q := ar_eq (c := c) key
  rw [e0] at q ⊢
  exact ⟨q.1, q.2.1, q.2.2.2⟩
theorem rnl_L {od : Nat → Int} {l : List (Int × List Int)} (hl : Ol od l) (hw : ∀ e, e ∈ l → WFo e) : ∀ (j k : Nat) (d : Nat → Int), k + j = l.length → rnl od j k d = rnL (l.drop k) k d
  | 0, k, d, h => by rw [List.drop_eq_nil_of_le (by omega)]; rfl
  | j + 1, k, d, h => by
    have hk : k < l.length := by omega
    have hmem : l.getD k (0, []) ∈ l := getD_mem hk
    obtain ⟨q0, q⟩ := wf_ar hl hk (hw _ hmem)
    obtain ⟨q1, q2, q3⟩ := q d
    unfold rnl
    rw [rnL_at hk, q1, q2, rnl_L hl hw j (k + 1) _ (by omega)]
theorem rnL_iv {B : Int} : ∀ (l : List (Int × List Int)) (i : Nat) (c : Nat → Int), Iv B c → Tg c → B + 9 * (l.length : Int) + 9 ≤ 100000000 → (Iv (B + 9 * (l.length : Int)) (rnL l i c).2.2 ∧ Tg (rnL l i c).2.2) ∧ (i ≤ (rnL l i c).2.1 ∧ (rnL l i c).2.1 ≤ i + l.length) ∧ ((rnL l i c).1 = 0 ∨ (rnL l i c).1 = 1 ∨ ((rnL l i c).1 = 3 ∧ (rnL l i c).2.1 < i + l.length ∧ obW (rnL l i c).2.2 (l.getD ((rnL l i c).2.1 - i) (0, [])).1 ((l.getD ((rnL l i c).2.1 - i) (0, [])).2.getD 0 0) ((l.getD ((rnL l i c).2.1 - i) (0, [])).2.getD 1 0) ((l.getD ((rnL l i c).2.1 - i) (0, [])).2.getD 2 0) = 3))
  | [], i, c, hI, hG, hB => ⟨⟨hI.mono (by simp) (by have := hI.1.B; simp; omega), hG⟩, ⟨Nat.le_refl i, Nat.le_refl i⟩, Or.inl rfl⟩
  | e :: l, i, c, hI, hG, hB => by
    have hb := hI.1.B
    rw [List.length_cons] at hB
    have ho := @obW_in c e.1 (e.2.getD 0 0) (e.2.getD 1 0) (e.2.getD 2 0)
    unfold rnL
    by_cases h3 : obW c e.1 (e.2.getD 0 0) (e.2.getD 1 0) (e.2.getD 2 0) = 3
    · rw [if_pos h3]
      refine ⟨⟨hI.mono (by rw [List.length_cons]; omega) (by rw [List.length_cons]; omega), hG⟩, ⟨Nat.le_refl i, by show i ≤ _; omega⟩, Or.inr (Or.inr ⟨rfl, by show i < i + (e :: l).length; rw [List.length_cons]; omega, ?_⟩)⟩
      show obW c ((e :: l).getD (i - i) (0, [])).1 _ _ _ = 3
      rw [Nat.sub_self]
      exact h3
    · rw [if_neg h3]
      by_cases h0 : obW c e.1 (e.2.getD 0 0) (e.2.getD 1 0) (e.2.getD 2 0) = 0
      · rw [if_neg (fun q => q h0)]
        have hc := hI.cao h0 (by omega)
        have hg := hG.cao hI h0 (by omega)
        obtain ⟨k1, k2, k3⟩ := rnL_iv (B := B + 9) l (i + 1) _ (hc.mono (by omega) (by omega)) hg (by omega)
        refine ⟨⟨k1.1.mono (by rw [List.length_cons]; omega) (by rw [List.length_cons]; omega), k1.2⟩, ⟨by omega, by rw [List.length_cons]; omega⟩, ?_⟩
        rcases k3 with k3 | k3 | ⟨k3, k4, k5⟩
        · exact Or.inl k3
        · exact Or.inr (Or.inl k3)
        · refine Or.inr (Or.inr ⟨k3, by rw [List.length_cons]; omega, ?_⟩)
          rw [show (rnL l (i + 1) (cao c e.1 (e.2.getD 0 0) (e.2.getD 1 0) (e.2.getD 2 0))).2.1 - i = ((rnL l (i + 1) (cao c e.1 (e.2.getD 0 0) (e.2.getD 1 0) (e.2.getD 2 0))).2.1 - (i + 1)) + 1 from by omega]
          exact k5
      · rw [if_pos h0]
        exact ⟨⟨hI.mono (by rw [List.length_cons]; omega) (by rw [List.length_cons]; omega), hG⟩, ⟨Nat.le_refl i, by show i ≤ _; omega⟩, Or.inr (Or.inl rfl)⟩
/-- what stands behind a refused order, in both -/
theorem rrW_is {B : Int} {c : Nat → Int} (hI : Iv B c) {w x y z : Int} (hw : 0 ≤ w ∧ w ≤ 5) (ho : obW c w x y z = 3) :
    ((w = 4 ∧ (rrW c w x y z).1 = 4 ∧ Sm (rrW c w x y z).2.1 ∧ ¬ (rrW c w x y z).2.2.1 = 0 ∧ Sm (rrW c w x y z).2.2.1 ∧ Sm (rrW c w x y z).2.2.2 ∧ ∀ τ, rsW τ c w x y z = rpa (rkp τ (rrW c w x y z).2.2.1 (rrW c w x y z).2.2.2) 4 (rrW c w x y z).2.1) ∨
     (¬ w = 4 ∧ ¬ (rrW c w x y z).1 = 0 ∧ Sm (rrW c w x y z).1 ∧ Sm (rrW c w x y z).2.1 ∧ (rrW c w x y z).2.2.1 = 0 ∧ (rrW c w x y z).2.2.2 = 0 ∧ ∀ τ, rsW τ c w x y z = rkp τ (rrW c w x y z).1 (rrW c w x y z).2.1)) := by
  unfold obW at ho
  unfold rrW rsW
  by_cases w0 : w = 0
  · rw [if_pos w0] at ho
    rw [if_pos w0]
    have q := smF ho
    exact Or.inr ⟨by omega, q.1, q.2.1, q.2.2, rfl, rfl, fun τ => by rw [if_pos w0]⟩
  · rw [if_neg w0] at ho
    rw [if_neg w0]
    by_cases w1 : w = 1
    · rw [if_pos w1] at ho
      rw [if_pos w1]
      have q := smT ho
      exact Or.inr ⟨by omega, q.1, q.2.1, q.2.2, rfl, rfl, fun τ => by rw [if_neg w0, if_pos w1]⟩
    · rw [if_neg w1] at ho
      rw [if_neg w1]
      by_cases w2 : w = 2
      · rw [if_pos w2] at ho
        rw [if_pos w2]
        exact Or.inr ⟨by omega, show ¬ (3 : Int) = 0 by decide, ⟨show -1000 ≤ (3 : Int) by decide, show (3 : Int) ≤ 1000 by decide⟩, smL ho, rfl, rfl, fun τ => by rw [if_neg w0, if_neg w1, if_pos w2]⟩
      · rw [if_neg w2] at ho
        rw [if_neg w2]
        by_cases w3 : w = 3
        · rw [if_pos w3] at ho
          rw [if_pos w3]
          exact Or.inr ⟨by omega, show ¬ (3 : Int) = 0 by decide, ⟨show -1000 ≤ (3 : Int) by decide, show (3 : Int) ≤ 1000 by decide⟩, smG ho, rfl, rfl, fun τ => by rw [if_neg w0, if_neg w1, if_neg w2, if_pos w3]⟩
        · rw [if_neg w3] at ho
          rw [if_neg w3]
          by_cases w4 : w = 4
          · rw [if_pos w4] at ho
            rw [if_pos w4]
            have q := smM hI (by split; exact Or.inl rfl; exact Or.inr rfl) ho
            exact Or.inl ⟨w4, rfl, q.1, q.2.1, q.2.2.1, q.2.2.2, fun τ => by rw [if_neg w0, if_neg w1, if_neg w2, if_neg w3, if_pos w4]⟩
          · rw [if_neg w4] at ho
            rw [if_neg w4]
            exact Or.inr ⟨w4, show ¬ (5 : Int) = 0 by decide, ⟨show -1000 ≤ (5 : Int) by decide, show (5 : Int) ≤ 1000 by decide⟩, smP hI, rfl, rfl, fun τ => by rw [if_neg w0, if_neg w1, if_neg w2, if_neg w3, if_neg w4]⟩
/-- reasons: an order, and what stands behind -/
theorem RX.run1 {τ σ τ2 : SZ} {i w d : Int} (h : RX τ) (hi : 0 ≤ i ∧ i ≤ 100) (hw : ¬ w = 0) (hs : Sm w ∧ Sm d) (e9 : τ2 9 = (rpa (rkp σ w d) 6 i) 9) (e10 : τ2 10 = (rpa (rkp σ w d) 6 i) 10) (e11 : τ2 11 = (rpa (rkp σ w d) 6 i) 11) (e27 : τ2 27 0 = 6 ∧ τ2 27 1 = i ∧ τ2 27 2 = w ∧ τ2 27 3 = d ∧ τ2 27 4 = 0 ∧ τ2 27 5 = 0) (e6 : ∀ k, 6 ≤ k → τ2 27 k = τ 27 k) : RX τ2 := by
  obtain ⟨_, _, _, _, _, l5⟩ := h
  refine ⟨[(6, i), (w, d)], by simp, by rw [e9]; rfl, fun k hk => ?_, fun k hk => ?_, fun k => ?_⟩
  · have e : k = 0 ∨ k = 1 := by have : k < 2 := hk; omega
    rw [e10, e11]
    rcases e with rfl | rfl
    · exact ⟨rfl, rfl, show ¬ (6 : Int) = 0 by decide⟩
    · exact ⟨rfl, rfl, hw⟩
  · have e : k = 0 ∨ k = 1 ∨ k = 2 := by omega
    rcases e with rfl | rfl | rfl
    · exact ⟨e27.1, fun _ => e27.2.1⟩
    · exact ⟨e27.2.2.1, fun _ => e27.2.2.2.1⟩
    · exact ⟨e27.2.2.2.2.1, fun h => absurd h (by simp)⟩
  · unfold Sm at hs
    by_cases q : 6 ≤ k
    · rw [e6 k q]; exact l5 k
    · have e : k = 0 ∨ k = 1 ∨ k = 2 ∨ k = 3 ∨ k = 4 ∨ k = 5 := by omega
      rcases e with rfl | rfl | rfl | rfl | rfl | rfl <;> omega
theorem RX.run2 {τ σ τ2 : SZ} {i w d w2 d2 : Int} (h : RX τ) (hi : 0 ≤ i ∧ i ≤ 100) (hw : ¬ w = 0) (hw2 : ¬ w2 = 0) (hs : Sm w ∧ Sm d ∧ Sm w2 ∧ Sm d2) (e9 : τ2 9 = (rpa (rpa (rkp σ w2 d2) w d) 6 i) 9) (e10 : τ2 10 = (rpa (rpa (rkp σ w2 d2) w d) 6 i) 10) (e11 : τ2 11 = (rpa (rpa (rkp σ w2 d2) w d) 6 i) 11) (e27 : τ2 27 0 = 6 ∧ τ2 27 1 = i ∧ τ2 27 2 = w ∧ τ2 27 3 = d ∧ τ2 27 4 = w2 ∧ τ2 27 5 = d2) (e6 : ∀ k, 6 ≤ k → τ2 27 k = τ 27 k) : RX τ2 := by
  obtain ⟨_, _, _, _, _, l5⟩ := h
  refine ⟨[(6, i), (w, d), (w2, d2)], by simp, by rw [e9]; rfl, fun k hk => ?_, fun k hk => ?_, fun k => ?_⟩
  · have e : k = 0 ∨ k = 1 ∨ k = 2 := by have : k < 3 := hk; omega
    rw [e10, e11]
    rcases e with rfl | rfl | rfl
    · exact ⟨rfl, rfl, show ¬ (6 : Int) = 0 by decide⟩
    · exact ⟨rfl, rfl, hw⟩
    · exact ⟨rfl, rfl, hw2⟩
  · have e : k = 0 ∨ k = 1 ∨ k = 2 := by omega
    rcases e with rfl | rfl | rfl
    · exact ⟨e27.1, fun _ => e27.2.1⟩
    · exact ⟨e27.2.2.1, fun _ => e27.2.2.2.1⟩
    · exact ⟨e27.2.2.2.2.1, fun _ => e27.2.2.2.2.2⟩
  · unfold Sm at hs
    by_cases q : 6 ≤ k
    · rw [e6 k q]; exact l5 k
    · have e : k = 0 ∨ k = 1 ∨ k = 2 ∨ k = 3 ∨ k = 4 ∨ k = 5 := by omega
      rcases e with rfl | rfl | rfl | rfl | rfl | rfl <;> omega
/-- the state of both behind a text; what the class left, and the other -/
theorem WL.run {B : Int} {τ τ1 τ2 : SZ} (h : WL B τ) (e1 : ∀ a, a ≠ 4 → a ≠ 5 → a ≠ 9 → a ≠ 10 → a ≠ 11 → a ≠ 14 → a ≠ 15 → a ≠ 16 → a ≠ 18 → τ1 a = τ a) (e2 : ∀ a, a ≠ 21 → a ≠ 22 → a ≠ 23 → a ≠ 26 → a ≠ 27 → a ≠ 30 → τ2 a = τ1 a)
    (s : τ2 21 4 = τ1 21 4 ∧ τ2 21 12 = τ1 21 12) (hr : Rl B (τ2 4) (τ2 22)) (hh : HX B τ2) (hx : RX τ2) (ht : τ2 21 14 = 0 ∧ τ2 16 1 = 0 ∧ τ2 21 17 = τ2 16 4 ∧ Og (τ2 18)) (h5 : Tz (τ2 5)) (h23 : Tz (τ2 23)) : WL B τ2 := by
  obtain ⟨a1, a2, a3, a4, ⟨b1, b2', b3, b4, b5, b6, b7⟩, a6, a7⟩ := h
  have E : ∀ a, (a ≠ 4 ∧ a ≠ 5 ∧ a ≠ 9 ∧ a ≠ 10 ∧ a ≠ 11 ∧ a ≠ 14 ∧ a ≠ 15 ∧ a ≠ 16 ∧ a ≠ 18) ∧ (a ≠ 21 ∧ a ≠ 22 ∧ a ≠ 23 ∧ a ≠ 26 ∧ a ≠ 27 ∧ a ≠ 30) → τ2 a = τ a := fun a n => (e2 a n.2.1 n.2.2.1 n.2.2.2.1 n.2.2.2.2.1 n.2.2.2.2.2.1 n.2.2.2.2.2.2).trans (e1 a n.1.1 n.1.2.1 n.1.2.2.1 n.1.2.2.2.1 n.1.2.2.2.2.1 n.1.2.2.2.2.2.1 n.1.2.2.2.2.2.2.1 n.1.2.2.2.2.2.2.2.1 n.1.2.2.2.2.2.2.2.2)
  have t21 : τ1 21 = τ 21 := e1 21 (by decide) (by decide) (by decide) (by decide) (by decide) (by decide) (by decide) (by decide) (by decide)
  rw [t21] at s
  refine ⟨hr, hh, a3.of (E 0 (by decide)) (E 6 (by decide)) (E 25 (by decide)) s.1, hx, ⟨by rw [ht.1, ht.2.1], by rw [ht.2.1]; decide, by rw [E 17 (by decide)]; exact b3, by rw [E 29 (by decide)]; exact b4, fun i hi => by rw [ht.2.1] at hi; omega, ht.2.2.2, ht.2.2.1⟩,
    a6.of (E 19 (by decide)) (E 20 (by decide)) (E 28 (by decide)) s.2, h5, h23, by rw [E 24 (by decide)]; exact a7.2.2⟩
end CAR
