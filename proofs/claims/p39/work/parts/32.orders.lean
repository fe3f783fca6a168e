/-! what is read from a text -/
section ORD
/-- what the orders hold: small numbers -/
def Og (ord : Nat → Int) : Prop := ∀ k, 0 ≤ ord k ∧ ord k ≤ 99
theorem mtc_vals {n : Int} {f : Nat → Int} : ∀ (l : List Int) (z v : Int), v ∈ (mtc n f l z).2.2 → 0 ≤ v ∧ v ≤ 99 := by
  intro l
  induction l with
  | nil => intro z v h; exact absurd h (by simp [mtc])
  | cons p ps ih =>
    intro z v h
    unfold mtc at h
    split at h
    · exact absurd h (by simp)
    next hw =>
      dsimp only at h
      split at h
      next hp =>
        rcases List.mem_cons.mp h with q | q
        · subst q
          unfold vlu
          split
          · split <;> omega
          next h37 =>
            unfold wdt at hw
            unfold wdt nmb
            split
            next hd =>
              split
              next hd2 => rw [if_pos rfl]; omega
              next hd2 => rw [if_neg (by decide)]; omega
            next hd =>
              rw [if_neg hd] at hw
              have h2 : p = 35 ∨ p = 64 := by
                rcases hp with q | q | q
                · exact Or.inl q
                · exact Or.inr q
                · exact absurd q h37
              rw [if_pos h2] at hw ⊢
              split
              next hq => rw [if_neg (by decide)]; omega
              next hq => rw [if_neg hq] at hw; exact absurd rfl hw
        · exact ih _ _ q
      next hp => exact ih _ _ h
theorem mtc_len {n : Int} {f : Nat → Int} : ∀ (l : List Int) (z : Int), ((mtc n f l z).2.2.length : Int) ≤ cnm l := by
  intro l
  induction l with
  | nil => intro z; exact Int.le_refl _
  | cons p ps ih =>
    intro z
    have h := ih (z + wdt n f p z)
    have h0 := cnm_in ps
    unfold mtc cnm
    split
    · show ((0 : Nat) : Int) ≤ _
      split <;> omega
    · show (((if isn p then _ else _ : List Int)).length : Int) ≤ _
      split
      · rw [List.length_cons]; omega
      · omega
theorem zu_ne {f : Nat → Int} {i k : Nat} {x : Int} (h : k ≠ i) : zu f i x k = f k := if_neg h
theorem zu_at {f : Nat → Int} {i : Nat} {x : Int} : zu f i x i = x := if_pos rfl
theorem ups_og {oc : Int} : ∀ (vs : List Int) (ord : Nat → Int) (k : Int), Og ord → (∀ v, v ∈ vs → 0 ≤ v ∧ v ≤ 99) → Og (ups ord oc k vs) := by
  intro vs
  induction vs with
  | nil => intro ord k h _; exact h
  | cons v vs ih =>
    intro ord k h hv
    refine ih _ _ (fun i => ?_) (fun x hx => hv x (List.mem_cons_of_mem _ hx))
    unfold zu
    split
    · exact hv v (List.mem_cons_self)
    · exact h i
theorem ups_lo {oc : Int} (hoc : 0 ≤ oc) : ∀ (vs : List Int) (ord : Nat → Int) (k : Int) (i : Nat), 0 ≤ k → (i : Int) ≤ oc * 4 + k → ups ord oc k vs i = ord i := by
  intro vs
  induction vs with
  | nil => intro ord k i _ _; rfl
  | cons v vs ih =>
    intro ord k i hk hi
    show ups (zu ord (oc * 4 + (k + 1)).toNat v) oc (k + 1) vs i = _
    rw [ih _ _ _ (by omega) (by omega), zu_ne (by omega)]
theorem ups_at {oc : Int} (hoc : 0 ≤ oc) : ∀ (vs : List Int) (ord : Nat → Int) (k : Int) (i : Nat), 0 ≤ k → i < vs.length → ups ord oc k vs (oc * 4 + (k + 1) + (i : Int)).toNat = vs.getD i 0 := by
  intro vs
  induction vs with
  | nil => intro ord k i _ h; exact absurd h (by simp)
  | cons v vs ih =>
    intro ord k i hk hi
    show ups (zu ord (oc * 4 + (k + 1)).toNat v) oc (k + 1) vs _ = _
    cases i with
    | zero =>
      rw [show (oc * 4 + (k + 1) + ((0 : Nat) : Int)).toNat = (oc * 4 + (k + 1)).toNat from by omega, ups_lo hoc _ _ _ _ (by omega) (by omega), zu_at]
      rfl
    | succ i =>
      rw [show oc * 4 + (k + 1) + ((i + 1 : Nat) : Int) = oc * 4 + (k + 1 + 1) + (i : Int) from by omega, ih _ _ _ (by omega) (by simpa using hi)]
      rfl
/-- one order: read or not, its end or where it stops, its word, its numbers -/
def pr1 (n : Int) (f : Nat → Int) (z : Int) : List (Int × List Int) → Int → Bool × Int × Int × List Int
  | [], fu => (false, fu, 0, [])
  | (w, l) :: ws, fu => if (mtc n f l z).1 = true then (true, (mtc n f l z).2.1, w, (mtc n f l z).2.2) else pr1 n f z ws (if fu < (mtc n f l z).2.1 then (mtc n f l z).2.1 else fu)
theorem rds_pr {n : Int} {f : Nat → Int} {oc z : Int} (hoc : 0 ≤ oc) : ∀ (ws : List (Int × List Int)) (fu : Int) (ord : Nat → Int), Og ord → (∀ w, w ∈ ws → 0 ≤ w.1 ∧ w.1 ≤ 5) →
    (rds n f oc z ws fu ord).1 = (if (pr1 n f z ws fu).1 = true then (pr1 n f z ws fu).2.1 else -(pr1 n f z ws fu).2.1 - 1) ∧ Og (rds n f oc z ws fu ord).2 ∧ (∀ i : Nat, (i : Int) < oc * 4 → (rds n f oc z ws fu ord).2 i = ord i) ∧
    ((pr1 n f z ws fu).1 = true → (0 ≤ (pr1 n f z ws fu).2.2.1 ∧ (pr1 n f z ws fu).2.2.1 ≤ 5) ∧ (rds n f oc z ws fu ord).2 (oc * 4).toNat = (pr1 n f z ws fu).2.2.1 ∧ ∀ i : Nat, i < (pr1 n f z ws fu).2.2.2.length → (rds n f oc z ws fu ord).2 (oc * 4 + 1 + (i : Int)).toNat = (pr1 n f z ws fu).2.2.2.getD i 0) := by
  intro ws
  induction ws with
  | nil =>
    intro fu ord hg _
    refine ⟨rfl, hg, fun i _ => rfl, fun h => ?_⟩
    exact absurd h (by simp [pr1])
  | cons w ws ih =>
    intro fu ord hg hw
    obtain ⟨w, l⟩ := w
    by_cases hm : (mtc n f l z).1 = true
    · rw [rds_t hm]
      rw [show pr1 n f z ((w, l) :: ws) fu = (true, (mtc n f l z).2.1, w, (mtc n f l z).2.2) from if_pos hm]
      have hw0 := hw (w, l) (List.mem_cons_self)
      have hu := ups_og (oc := oc) (mtc n f l z).2.2 ord 0 hg (fun v hv => mtc_vals l z v hv)
      refine ⟨rfl, fun i => ?_, fun i hi => ?_, fun _ => ⟨hw0, ?_, fun i hi => ?_⟩⟩
      · show 0 ≤ zu _ _ _ i ∧ zu _ _ _ i ≤ 99
        unfold zu
        split
        · have h2 : 0 ≤ w ∧ w ≤ 5 := hw0
          omega
        · exact hu i
      · show zu _ _ _ i = _
        rw [zu_ne (by omega), ups_lo hoc _ _ _ _ (by omega) (by omega)]
      · show zu _ (oc * 4 + 0).toNat _ (oc * 4).toNat = _
        rw [Int.add_zero, zu_at]
      · show zu _ (oc * 4 + 0).toNat _ (oc * 4 + 1 + (i : Int)).toNat = _
        rw [zu_ne (by omega)]
        have q := ups_at hoc (mtc n f l z).2.2 ord 0 i (by omega) hi
        rw [show oc * 4 + (0 + 1) + (i : Int) = oc * 4 + 1 + (i : Int) from by omega] at q
        exact q
    · rw [rds_f hm]
      rw [show pr1 n f z ((w, l) :: ws) fu = pr1 n f z ws (if fu < (mtc n f l z).2.1 then (mtc n f l z).2.1 else fu) from if_neg hm]
      have hu := ups_og (oc := oc) (mtc n f l z).2.2 ord 0 hg (fun v hv => mtc_vals l z v hv)
      obtain ⟨h1, h2, h3, h4⟩ := ih (if fu < (mtc n f l z).2.1 then (mtc n f l z).2.1 else fu) (ups ord oc 0 (mtc n f l z).2.2) hu (fun x hx => hw x (List.mem_cons_of_mem _ hx))
      refine ⟨h1, h2, fun i hi => ?_, h4⟩
      rw [h3 i hi, ups_lo hoc _ _ _ _ (by omega) (by omega)]
theorem WDS_in : ∀ w, w ∈ WDS → 0 ≤ w.1 ∧ w.1 ≤ 5 := by decide
/-- where an order stops that is none -/
theorem pr1_in {n : Int} {f : Nat → Int} {z : Int} (h0 : 0 ≤ z) (h1 : z ≤ n) : ∀ (ws : List (Int × List Int)) (fu : Int), (∀ w, w ∈ ws → ∀ p, p ∈ w.2 → p ≠ 0) → 0 ≤ fu → fu ≤ n → 0 ≤ (pr1 n f z ws fu).2.1 ∧ (pr1 n f z ws fu).2.1 ≤ n ∧ ((pr1 n f z ws fu).1 = true → z ≤ (pr1 n f z ws fu).2.1) := by
  intro ws
  induction ws with
  | nil => intro fu _ hf0 hf1; exact ⟨hf0, hf1, fun h => absurd h (by simp [pr1])⟩
  | cons w ws ih =>
    intro fu hw hf0 hf1
    obtain ⟨w, l⟩ := w
    have hm := mtc_in (f := f) l z (hw (w, l) (List.mem_cons_self)) h0 h1
    unfold pr1
    split
    · exact ⟨show 0 ≤ (mtc n f l z).2.1 by omega, hm.2, fun _ => hm.1⟩
    · exact ih _ (fun x hx => hw x (List.mem_cons_of_mem _ hx)) (by split <;> omega) (by split <;> omega)
/-- all orders: read or not, where the error is, the words and numbers in their order -/
def prl (n : Int) (f : Nat → Int) : Nat → Int → List (Int × List Int) → Bool × Int × List (Int × List Int)
  | 0, z, acc => (false, z, acc)
  | j + 1, z, acc => if (pr1 n f z WDS z).1 = true then
      (if (pr1 n f z WDS z).2.1 = n then (true, -1, acc ++ [(pr1 n f z WDS z).2.2]) else if sg n f (pr1 n f z WDS z).2.1 = 59 then prl n f j ((pr1 n f z WDS z).2.1 + 1) (acc ++ [(pr1 n f z WDS z).2.2]) else (false, (pr1 n f z WDS z).2.1, acc ++ [(pr1 n f z WDS z).2.2]))
    else (false, (pr1 n f z WDS z).2.1, acc)
/-- the row of orders holds the list -/
def Ol (ord : Nat → Int) (l : List (Int × List Int)) : Prop := ∀ m : Nat, m < l.length → (0 ≤ (l.getD m (0, [])).1 ∧ (l.getD m (0, [])).1 ≤ 5) ∧ ord (m * 4) = (l.getD m (0, [])).1 ∧ ∀ i : Nat, i < (l.getD m (0, [])).2.length → ord (m * 4 + 1 + i) = (l.getD m (0, [])).2.getD i 0
theorem Ol.add {ord ord' : Nat → Int} {l : List (Int × List Int)} {x : Int × List Int} (h : Ol ord l) (he : ∀ i : Nat, i < l.length * 4 → ord' i = ord i) (hx : 0 ≤ x.1 ∧ x.1 ≤ 5) (h0 : ord' (l.length * 4) = x.1) (h1 : ∀ i : Nat, i < x.2.length → ord' (l.length * 4 + 1 + i) = x.2.getD i 0)
    (hl : ∀ m : Nat, m < l.length → (l.getD m (0, [])).2.length ≤ 3) : Ol ord' (l ++ [x]) := by
  intro m hm
  rw [List.length_append, List.length_cons, List.length_nil] at hm
  by_cases q : m = l.length
  · subst q
    have e : (l ++ [x]).getD l.length (0, []) = x := by simp [List.getD]
    rw [e]
    exact ⟨hx, h0, h1⟩
  · have hm2 : m < l.length := by omega
    have e : (l ++ [x]).getD m (0, []) = l.getD m (0, []) := by simp [List.getD, List.getElem?_append, hm2]
    rw [e]
    obtain ⟨a, b, c⟩ := h m hm2
    have h3 := hl m hm2
    refine ⟨a, ?_, fun i hi => ?_⟩
    · rw [he _ (by omega)]; exact b
    · rw [he _ (by omega)]; exact c i hi
theorem pr1_len {n : Int} {f : Nat → Int} {z : Int} : ∀ (ws : List (Int × List Int)) (fu : Int), (∀ w, w ∈ ws → cnm w.2 ≤ 3) → (pr1 n f z ws fu).2.2.2.length ≤ 3 := by
  intro ws
  induction ws with
  | nil => intro fu _; exact Nat.zero_le _
  | cons w ws ih =>
    intro fu hw
    obtain ⟨w, l⟩ := w
    have h := mtc_len (n := n) (f := f) l z
    have h2 : cnm l ≤ 3 := hw (w, l) (List.mem_cons_self)
    unfold pr1
    split
    · show (mtc n f l z).2.2.length ≤ 3
      omega
    · exact ih _ (fun x hx => hw x (List.mem_cons_of_mem _ hx))
theorem WDS_cn : ∀ w, w ∈ WDS → cnm w.2 ≤ 3 := by decide
theorem rdl_pr {n : Int} {f : Nat → Int} (hn : 0 ≤ n) : ∀ (j : Nat) (z : Int) (ord : Nat → Int) (acc : List (Int × List Int)), 0 ≤ z → z ≤ n → Og ord → Ol ord acc → (∀ m : Nat, m < acc.length → (acc.getD m (0, [])).2.length ≤ 3) →
    (rdl n f j (acc.length : Int) z ord).1 = (if (prl n f j z acc).1 = true then 1 else 0) ∧ (rdl n f j (acc.length : Int) z ord).2.1 = (prl n f j z acc).2.1 ∧ (rdl n f j (acc.length : Int) z ord).2.2.1 = ((prl n f j z acc).2.2.length : Int) ∧
    Og (rdl n f j (acc.length : Int) z ord).2.2.2 ∧ Ol (rdl n f j (acc.length : Int) z ord).2.2.2 (prl n f j z acc).2.2 ∧ ((prl n f j z acc).2.2.length ≤ acc.length + j) := by
  intro j
  induction j with
  | zero => intro z ord acc _ _ hg hl _; exact ⟨rfl, rfl, rfl, hg, hl, Nat.le_refl _⟩
  | succ j ih =>
    intro z ord acc h0 h1 hg hl h3
    obtain ⟨r1, r2, r3, r4⟩ := rds_pr (n := n) (f := f) (oc := (acc.length : Int)) (z := z) (by omega) WDS z ord hg WDS_in
    have hp := pr1_in (n := n) (f := f) h0 h1 WDS z WDS_nz h0 h1
    have hpl := pr1_len (n := n) (f := f) (z := z) WDS z WDS_cn
    by_cases hok : (pr1 n f z WDS z).1 = true
    · obtain ⟨r5, r6, r7⟩ := r4 hok
      rw [if_pos hok] at r1
      have hadd : Ol (rds n f (acc.length : Int) z WDS z ord).2 (acc ++ [(pr1 n f z WDS z).2.2]) := by
        refine hl.add (fun i hi => r3 i (by omega)) r5 ?_ (fun i hi => ?_) h3
        · rw [← r6]; congr 1
        · rw [← r7 i hi]; congr 1
      have h3' : ∀ m : Nat, m < (acc ++ [(pr1 n f z WDS z).2.2]).length → ((acc ++ [(pr1 n f z WDS z).2.2]).getD m (0, [])).2.length ≤ 3 := by
        intro m hm
        rw [List.length_append, List.length_cons, List.length_nil] at hm
        by_cases q : m = acc.length
        · subst q
          have e : (acc ++ [(pr1 n f z WDS z).2.2]).getD acc.length (0, []) = (pr1 n f z WDS z).2.2 := by simp [List.getD]
          rw [e]; exact hpl
        · have hm2 : m < acc.length := by omega
          have e : (acc ++ [(pr1 n f z WDS z).2.2]).getD m (0, []) = acc.getD m (0, []) := by simp [List.getD, List.getElem?_append, hm2]
          rw [e]; exact h3 m hm2
      have el : ((acc ++ [(pr1 n f z WDS z).2.2]).length : Int) = (acc.length : Int) + 1 := by simp
      unfold rdl prl
      rw [if_pos hok, if_neg (show ¬ (rds n f (acc.length : Int) z WDS z ord).1 < 0 by omega), r1]
      by_cases q1 : (pr1 n f z WDS z).2.1 = n
      · rw [if_pos q1, if_pos q1]
        exact ⟨rfl, rfl, el.symm, r2, hadd, by simp⟩
      · rw [if_neg q1, if_neg q1]
        by_cases q2 : sg n f (pr1 n f z WDS z).2.1 = 59
        · rw [if_pos q2, if_pos q2]
          have hs := sg_at (n := n) (f := f) (z := (pr1 n f z WDS z).2.1) (by omega)
          have q := ih ((pr1 n f z WDS z).2.1 + 1) (rds n f (acc.length : Int) z WDS z ord).2 (acc ++ [(pr1 n f z WDS z).2.2]) (by omega) (by omega) r2 hadd h3'
          rw [el] at q
          refine ⟨q.1, q.2.1, q.2.2.1, q.2.2.2.1, q.2.2.2.2.1, ?_⟩
          have q5 := q.2.2.2.2.2
          rw [List.length_append, List.length_cons, List.length_nil] at q5
          omega
        · rw [if_neg q2, if_neg q2]
          exact ⟨rfl, rfl, el.symm, r2, hadd, by simp⟩
    · rw [if_neg hok] at r1
      unfold rdl prl
      rw [if_neg hok, if_pos (show (rds n f (acc.length : Int) z WDS z ord).1 < 0 by omega)]
      refine ⟨rfl, ?_, rfl, r2, fun m hm => ?_, by simp⟩
      · show -(rds n f (acc.length : Int) z WDS z ord).1 - 1 = (pr1 n f z WDS z).2.1
        omega
      · have hm2 : m < acc.length := hm
        obtain ⟨a, b, c⟩ := hl m hm2
        have h5 := h3 m hm2
        refine ⟨a, ?_, fun i hi => ?_⟩
        · rw [r3 _ (by omega)]; exact b
        · have hi2 : i < (acc.getD m (0, [])).2.length := hi
          rw [r3 _ (by omega)]; exact c i hi
end ORD
