/-! contracts of the second implementation: a text is carried out: printed by wip/whole/db33.py -/
section MRU
theorem m_readOrder {τ : SZ} (hT : TM τ) (hw0 : τ 21 16 = 0) (hm : 0 ≤ τ 21 19 ∧ τ 21 19 < 60) : RZq 8 m8_readOrder [.inl 21] τ (Qor τ (cho (τ 21 14) (τ 29) (τ 21 15)).2.2 (cho (τ 21 14) (τ 29) (τ 21 15)).1) := by
  unfold cho
  by_cases c1 : sg (τ 21 14) (τ 29) (τ 21 15) = 102
  · rw [if_pos c1]
    by_cases c2 : sg (τ 21 14) (τ 29) (τ 21 15 + 1) = 111
    · rw [if_pos c2]; exact m_order_fog hT hw0 hm ⟨c1, c2⟩
    · rw [if_neg c2]; exact m_order_ferry hT hw0 hm ⟨c1, c2⟩
  · rw [if_neg c1]
    by_cases c2 : sg (τ 21 14) (τ 29) (τ 21 15) = 116
    · rw [if_pos c2]; exact m_order_tug hT hw0 hm c2
    · rw [if_neg c2]
      by_cases c3 : sg (τ 21 14) (τ 29) (τ 21 15) = 108
      · rw [if_pos c3]; exact m_order_lock hT hw0 hm c3
      · rw [if_neg c3]
        by_cases c4 : sg (τ 21 14) (τ 29) (τ 21 15) = 109
        · rw [if_pos c4]; exact m_order_move hT hw0 hm c4
        · rw [if_neg c4]; exact m_order_pass hT hw0 hm ⟨c1, c2, c3, c4⟩
def cdw (w : Int) : Int := if w = 0 then 102 else if w = 1 then 116 else if w = 2 then 108 else if w = 3 then 111 else if w = 4 then 109 else 112
theorem cho_cd {n : Int} {f : Nat → Int} {z : Int} : (cho n f z).1 = cdw (cho n f z).2.1 := by
  unfold cho
  split
  · split <;> rfl
  · split
    · rfl
    · split
      · rfl
      · split <;> rfl
def OlM (od : Nat → Int) (l : List (Int × List Int)) : Prop := ∀ m : Nat, m < l.length → od (4 * (m : Int)).toNat = cdw (l.getD m (0, [])).1 ∧ ∀ i : Nat, i < (l.getD m (0, [])).2.length → od (4 * (m : Int) + 1 + (i : Int)).toNat = (l.getD m (0, [])).2.getD i 0
/-- an order that may stand in a text -/
def WFo (e : Int × List Int) : Prop := ((e.1 = 0 ∧ e.2.length = 3) ∨ (e.1 = 1 ∧ e.2.length = 2) ∨ (e.1 = 2 ∧ e.2.length = 3) ∨ (e.1 = 3 ∧ e.2.length = 3) ∨ (e.1 = 4 ∧ e.2.length = 3) ∨ (e.1 = 5 ∧ e.2.length = 0)) ∧ ∀ v, v ∈ e.2 → 0 ≤ v ∧ v ≤ 99
theorem mtc_ok {n : Int} {f : Nat → Int} : ∀ (l : List Int) (z z' : Int) (vs : List Int), (∀ p, p ∈ l → p ≠ 0) → mtc n f l z = (true, z', vs) → (vs.length : Int) = cnm l ∧ z + (l.length : Int) ≤ z'
  | [], z, z', vs, _, h => by cases h; exact ⟨rfl, by simp⟩
  | p :: ps, z, z', vs, hp, h => by
    have hw := @wdt_in n f p z (hp p List.mem_cons_self)
    by_cases q : wdt n f p z = 0
    · rw [show mtc n f (p :: ps) z = (false, z, []) from if_pos q] at h
      cases h
    · rw [show mtc n f (p :: ps) z = _ from if_neg q] at h
      have ih := mtc_ok (n := n) (f := f) ps (z + wdt n f p z) (mtc n f ps (z + wdt n f p z)).2.1 (mtc n f ps (z + wdt n f p z)).2.2 (fun x hx => hp x (List.mem_cons_of_mem _ hx))
      have h1 : (mtc n f ps (z + wdt n f p z)).1 = true := congrArg Prod.fst h
      have h2 : (mtc n f ps (z + wdt n f p z)).2.1 = z' := congrArg (fun x => x.2.1) h
      have h3 : (if isn p then vlu n f p z (wdt n f p z) :: (mtc n f ps (z + wdt n f p z)).2.2 else (mtc n f ps (z + wdt n f p z)).2.2) = vs := congrArg (fun x => x.2.2) h
      obtain ⟨i1, i2⟩ := ih (by rw [← h1])
      refine ⟨?_, by rw [List.length_cons]; omega⟩
      rw [← h3]
      show _ = (if isn p then 1 else 0) + cnm ps
      by_cases i : isn p
      · rw [if_pos i, if_pos i, List.length_cons]; omega
      · rw [if_neg i, if_neg i]; omega
theorem RM.ok {n : Int} {f : Nat → Int} {z z' w' : Int} {vs : List Int} (h : RM n f (cho n f z).2.2 z z' w' vs) (h0 : w' = 0) : WFo ((cho n f z).2.1, vs) ∧ z + 4 ≤ z' := by
  rcases h with ⟨_, b⟩ | ⟨a, _, _⟩
  · have hv : ∀ v, v ∈ vs → 0 ≤ v ∧ v ≤ 99 := fun v hv => mtc_vals (n := n) (f := f) (cho n f z).2.2 z v (by rw [b]; exact hv)
    by_cases c1 : sg n f z = 102
    · by_cases c2 : sg n f (z + 1) = 111
      · have e : cho n f z = (111, 3, [102, 111, 103, 32, 35, 32, 64, 32, 35]) := by unfold cho; rw [if_pos c1, if_pos c2]
        rw [e] at b ⊢
        have q := mtc_ok _ _ _ _ (by decide) b
        have q1 : (vs.length : Int) = 3 := q.1
        have q2 : z + 9 ≤ z' := q.2
        exact ⟨⟨Or.inr (Or.inr (Or.inr (Or.inl ⟨rfl, show vs.length = 3 by omega⟩))), hv⟩, by omega⟩
      · have e : cho n f z = (102, 0, [102, 101, 114, 114, 121, 32, 35, 32, 64, 32, 64]) := by unfold cho; rw [if_pos c1, if_neg c2]
        rw [e] at b ⊢
        have q := mtc_ok _ _ _ _ (by decide) b
        have q1 : (vs.length : Int) = 3 := q.1
        have q2 : z + 11 ≤ z' := q.2
        exact ⟨⟨Or.inl ⟨rfl, show vs.length = 3 by omega⟩, hv⟩, by omega⟩
    · by_cases c2 : sg n f z = 116
      · have e : cho n f z = (116, 1, [116, 117, 103, 32, 35, 32, 64]) := by unfold cho; rw [if_neg c1, if_pos c2]
        rw [e] at b ⊢
        have q := mtc_ok _ _ _ _ (by decide) b
        have q1 : (vs.length : Int) = 2 := q.1
        have q2 : z + 7 ≤ z' := q.2
        exact ⟨⟨Or.inr (Or.inl ⟨rfl, show vs.length = 2 by omega⟩), hv⟩, by omega⟩
      · by_cases c3 : sg n f z = 108
        · have e : cho n f z = (108, 2, [108, 111, 99, 107, 32, 35, 32, 64, 32, 35]) := by unfold cho; rw [if_neg c1, if_neg c2, if_pos c3]
          rw [e] at b ⊢
          have q := mtc_ok _ _ _ _ (by decide) b
          have q1 : (vs.length : Int) = 3 := q.1
          have q2 : z + 10 ≤ z' := q.2
          exact ⟨⟨Or.inr (Or.inr (Or.inl ⟨rfl, show vs.length = 3 by omega⟩)), hv⟩, by omega⟩
        · by_cases c4 : sg n f z = 109
          · have e : cho n f z = (109, 4, [109, 111, 118, 101, 32, 35, 32, 35, 37]) := by unfold cho; rw [if_neg c1, if_neg c2, if_neg c3, if_pos c4]
            rw [e] at b ⊢
            have q := mtc_ok _ _ _ _ (by decide) b
            have q1 : (vs.length : Int) = 3 := q.1
            have q2 : z + 9 ≤ z' := q.2
            exact ⟨⟨Or.inr (Or.inr (Or.inr (Or.inr (Or.inl ⟨rfl, show vs.length = 3 by omega⟩)))), hv⟩, by omega⟩
          · have e : cho n f z = (112, 5, [112, 97, 115, 115]) := by unfold cho; rw [if_neg c1, if_neg c2, if_neg c3, if_neg c4]
            rw [e] at b ⊢
            have q := mtc_ok _ _ _ _ (by decide) b
            have q1 : (vs.length : Int) = 0 := q.1
            have q2 : z + 4 ≤ z' := q.2
            exact ⟨⟨Or.inr (Or.inr (Or.inr (Or.inr (Or.inr ⟨rfl, show vs.length = 0 by omega⟩)))), hv⟩, by omega⟩
  · omega
/-- what is still to be read behind an order -/
def prT (n : Int) (f : Nat → Int) (j : Nat) (z w : Int) (acc : List (Int × List Int)) : Bool × Int × List (Int × List Int) :=
  if w = 1 then (false, z, acc) else if z = n then (true, -1, acc) else if sg n f z = 59 then prl n f j (z + 1) acc else (false, z, acc)
theorem prl_T {n : Int} {f : Nat → Int} {j : Nat} {z z' w' : Int} {vs : List Int} {acc : List (Int × List Int)} (hz : 0 ≤ z ∧ z ≤ n) (h : RM n f (cho n f z).2.2 z z' w' vs) : prl n f (j + 1) z acc = prT n f j z' w' (if w' = 0 then acc ++ [((cho n f z).2.1, vs)] else acc) := by
  have hp := cho_pr1 hz h
  have hw : w' = 0 ∨ w' = 1 := h.elim (fun q => Or.inl q.1) (fun q => Or.inr q.1)
  unfold prl prT
  rcases hw with rfl | rfl
  · rw [hp.1 rfl]
    show (if z' = n then (true, -1, acc ++ [((cho n f z).2.1, vs)]) else if sg n f z' = 59 then prl n f j (z' + 1) (acc ++ [((cho n f z).2.1, vs)]) else (false, z', acc ++ [((cho n f z).2.1, vs)])) = _
    rw [if_neg (show ¬ (0 : Int) = 1 by decide), if_pos (show (0 : Int) = 0 from rfl)]
  · rw [if_neg (by rw [(hp.2 rfl).1]; decide), if_pos rfl, if_neg (by decide), (hp.2 rfl).2]
def Kp3 (τ τ' : SZ) : Prop := (∀ a, a ≠ 21 → a ≠ 30 → τ' a = τ a) ∧ ∀ i, i ≠ 15 → i ≠ 16 → i ≠ 19 → τ' 21 i = τ 21 i
theorem Kp3.trans {τ τ' τ'' : SZ} (h : Kp3 τ τ') (h2 : Kp3 τ' τ'') : Kp3 τ τ'' := ⟨fun a h1 h3 => (h2.1 a h1 h3).trans (h.1 a h1 h3), fun i h1 h3 h4 => (h2.2 i h1 h3 h4).trans (h.2 i h1 h3 h4)⟩
def Pout (n : Int) (τ' : SZ) (x : Bool × Int × List (Int × List Int)) : Prop := (x.1 = true → τ' 21 16 = 0 ∧ τ' 21 15 = n ∧ τ' 21 19 = (x.2.2.length : Int) ∧ OlM (τ' 30) x.2.2 ∧ x.2.2.length ≤ 13 ∧ (∀ e, e ∈ x.2.2 → WFo e) ∧ x.2.1 = -1) ∧ (x.1 = false → (τ' 21 16 = 1 ∨ τ' 21 15 < n) ∧ τ' 21 15 = x.2.1)
theorem OlM.add {od od' : Nat → Int} {l : List (Int × List Int)} {x : Int × List Int} (h : OlM od l) (hw : ∀ e, e ∈ l → WFo e) (he : ∀ i : Nat, (i : Int) < 4 * (l.length : Int) → od' i = od i) (h0 : od' (4 * (l.length : Int)).toNat = cdw x.1) (h1 : ∀ i : Nat, i < x.2.length → od' (4 * (l.length : Int) + 1 + (i : Int)).toNat = x.2.getD i 0) : OlM od' (l ++ [x]) := by
  intro m hm
  rw [List.length_append, List.length_cons, List.length_nil] at hm
  by_cases q : m = l.length
  · subst q
    have e : (l ++ [x]).getD l.length (0, []) = x := by simp [List.getD]
    rw [e]
    exact ⟨h0, h1⟩
  · have hm2 : m < l.length := by omega
    have e : (l ++ [x]).getD m (0, []) = l.getD m (0, []) := by simp [List.getD, List.getElem?_append, hm2]
    rw [e]
    obtain ⟨a, b⟩ := h m hm2
    have hmem : l.getD m (0, []) ∈ l := by
      rw [List.getD_eq_getElem?_getD, List.getElem?_eq_getElem hm2]
      exact List.getElem_mem hm2
    have hwf := (hw _ hmem).1
    refine ⟨by rw [he _ (by omega)]; exact a, fun i hi => by rw [he _ (by omega)]; exact b i hi⟩
theorem lp_parse {Q : RSZ → Prop} : ∀ (j : Nat) (τ : SZ) (acc : List (Int × List Int)), TM τ → (∀ e, e ∈ acc → WFo e) → (τ 21 16 = 0 → τ 21 19 = (acc.length : Int) ∧ OlM (τ 30) acc ∧ acc.length + j = 13 ∧ 5 * (acc.length : Int) ≤ τ 21 15 + 1) →
    (∀ τ', Kp3 τ τ' → TM τ' → Pout (τ 21 14) τ' (prT (τ 21 14) (τ 29) j (τ 21 15) (τ 21 16) acc) → Exq 10 m8_run (cod m8_run 25, [some (.inl 21), none], [], τ') 0 Q) → Exq 10 m8_run (cod m8_run 11, [some (.inl 21), none], [], τ) 0 Q := by
  intro j
  induction j with
  | zero =>
    intro τ acc hT hwf hacc hexit
    have hT0 := hT
    obtain ⟨hT1, hT2, ⟨hT3, hT4⟩, hT5⟩ := hT
    have hs0 : sg (τ 21 14) (τ 29) (τ 21 15) ≠ 0 → 0 ≤ τ 21 15 ∧ τ 21 15 < τ 21 14 := sg_at
    have hno : ¬ (τ 21 16 = 0 ∧ 59 ≤ sg (τ 21 14) (τ 29) (τ 21 15) ∧ sg (τ 21 14) (τ 29) (τ 21 15) ≤ 59) → Exq 10 m8_run (cod m8_run 25, [some (.inl 21), none], [], τ) 0 Q := fun q => by
      refine hexit τ ⟨fun a _ _ => rfl, fun i _ _ _ => rfl⟩ hT0 ?_
      unfold prT
      by_cases w1 : τ 21 16 = 1
      · rw [if_pos w1]; exact ⟨fun h => Bool.noConfusion (show false = true from h), fun _ => ⟨Or.inl w1, rfl⟩⟩
      · rw [if_neg w1]
        by_cases zn : τ 21 15 = τ 21 14
        · rw [if_pos zn]
          obtain ⟨a1, a2, a3, a4⟩ := hacc (by omega)
          exact ⟨fun _ => ⟨by omega, zn, a1, a2, show acc.length ≤ 13 by omega, hwf, rfl⟩, fun h => Bool.noConfusion (show true = false from h)⟩
        · rw [if_neg zn, if_neg (by omega)]; exact ⟨fun h => Bool.noConfusion (show false = true from h), fun _ => ⟨Or.inr (by omega), rfl⟩⟩
    refine exq_k 3 (P := none) (g := (cod m8_run 14, [some (.inl 21), none], [.inr 59, .inr 59, .inl 21], τ)) rfl trivial ?_
    refine exq_c (m_isHere (τ := τ) (lo := 59) (hi := 59) hT0 (by omega) (by omega)) (is := cod m8_run 15) (L := [some (.inl 21), none]) (st := []) rfl rfl rfl ?_
    show Exq _ _ (cod m8_run 15, [some (.inl 21), none], [.inr (b2 (τ 21 16 = 0 ∧ 59 ≤ sg (τ 21 14) (τ 29) (τ 21 15) ∧ sg (τ 21 14) (τ 29) (τ 21 15) ≤ 59))], τ) _ _
    refine exq_b (P := (b2 (τ 21 16 = 0 ∧ 59 ≤ sg (τ 21 14) (τ 29) (τ 21 15) ∧ sg (τ 21 14) (τ 29) (τ 21 15) ≤ 59)) = 0) (ct := (cod m8_run 25, [some (.inl 21), none], [], τ)) (cf := (cod m8_run 16, [some (.inl 21), none], [], τ)) rfl b2_rng (fun h1 => ?_) (fun h1 => ?_)
    · first
      | (exfalso; have h1 := b2_e0 h1; omega)
      | (
          have h1 := b2_e0 h1
          exact hno (by assumption))
    · first
      | (exfalso; have h1 := b2_n0 h1; omega)
      | (
          have h1 := b2_n0 h1
          refine exq_k 6 (P := none) (g := (cod m8_run 22, [some (.inl 21), none], [], (zr τ 21 (zu (τ 21) 15 (((τ 21) 15) + 1))))) rfl trivial ?_
          refine exq_k 1 (P := none) (g := (cod m8_run 23, [some (.inl 21), none], [.inl 21], (zr τ 21 (zu (τ 21) 15 (((τ 21) 15) + 1))))) rfl trivial ?_
          exfalso
          have a := hacc (by omega)
          omega)
  | succ j ih =>
    intro τ acc hT hwf hacc hexit
    have hT0 := hT
    obtain ⟨hT1, hT2, ⟨hT3, hT4⟩, hT5⟩ := hT
    have hs0 : sg (τ 21 14) (τ 29) (τ 21 15) ≠ 0 → 0 ≤ τ 21 15 ∧ τ 21 15 < τ 21 14 := sg_at
    have hno : ¬ (τ 21 16 = 0 ∧ 59 ≤ sg (τ 21 14) (τ 29) (τ 21 15) ∧ sg (τ 21 14) (τ 29) (τ 21 15) ≤ 59) → Exq 10 m8_run (cod m8_run 25, [some (.inl 21), none], [], τ) 0 Q := fun q => by
      refine hexit τ ⟨fun a _ _ => rfl, fun i _ _ _ => rfl⟩ hT0 ?_
      unfold prT
      by_cases w1 : τ 21 16 = 1
      · rw [if_pos w1]; exact ⟨fun h => Bool.noConfusion (show false = true from h), fun _ => ⟨Or.inl w1, rfl⟩⟩
      · rw [if_neg w1]
        by_cases zn : τ 21 15 = τ 21 14
        · rw [if_pos zn]
          obtain ⟨a1, a2, a3, a4⟩ := hacc (by omega)
          exact ⟨fun _ => ⟨by omega, zn, a1, a2, show acc.length ≤ 13 by omega, hwf, rfl⟩, fun h => Bool.noConfusion (show true = false from h)⟩
        · rw [if_neg zn, if_neg (by omega)]; exact ⟨fun h => Bool.noConfusion (show false = true from h), fun _ => ⟨Or.inr (by omega), rfl⟩⟩
    refine exq_k 3 (P := none) (g := (cod m8_run 14, [some (.inl 21), none], [.inr 59, .inr 59, .inl 21], τ)) rfl trivial ?_
    refine exq_c (m_isHere (τ := τ) (lo := 59) (hi := 59) hT0 (by omega) (by omega)) (is := cod m8_run 15) (L := [some (.inl 21), none]) (st := []) rfl rfl rfl ?_
    show Exq _ _ (cod m8_run 15, [some (.inl 21), none], [.inr (b2 (τ 21 16 = 0 ∧ 59 ≤ sg (τ 21 14) (τ 29) (τ 21 15) ∧ sg (τ 21 14) (τ 29) (τ 21 15) ≤ 59))], τ) _ _
    refine exq_b (P := (b2 (τ 21 16 = 0 ∧ 59 ≤ sg (τ 21 14) (τ 29) (τ 21 15) ∧ sg (τ 21 14) (τ 29) (τ 21 15) ≤ 59)) = 0) (ct := (cod m8_run 25, [some (.inl 21), none], [], τ)) (cf := (cod m8_run 16, [some (.inl 21), none], [], τ)) rfl b2_rng (fun h1 => ?_) (fun h1 => ?_)
    · first
      | (exfalso; have h1 := b2_e0 h1; omega)
      | (
          have h1 := b2_e0 h1
          exact hno (by assumption))
    · first
      | (exfalso; have h1 := b2_n0 h1; omega)
      | (
          have h1 := b2_n0 h1
          refine exq_k 6 (P := none) (g := (cod m8_run 22, [some (.inl 21), none], [], (zr τ 21 (zu (τ 21) 15 (((τ 21) 15) + 1))))) rfl trivial ?_
          refine exq_k 1 (P := none) (g := (cod m8_run 23, [some (.inl 21), none], [.inl 21], (zr τ 21 (zu (τ 21) 15 (((τ 21) 15) + 1))))) rfl trivial ?_
          have ha := hacc (by omega)
          have hTx : TM (zr τ 21 (zu (τ 21) 15 (τ 21 15 + 1))) := ⟨hT1, hT2, (show Zin (τ 21 14) (τ 21 15 + 1) (τ 21 16) from ⟨by omega, by omega⟩)⟩
          refine exq_cq (m_readOrder (τ := (zr τ 21 (zu (τ 21) 15 (τ 21 15 + 1)))) hTx (show τ 21 16 = 0 by omega) (show 0 ≤ τ 21 19 ∧ τ 21 19 < 60 by omega)) (is := cod m8_run 24) (L := [some (.inl 21), none]) (st := []) rfl rfl rfl (fun v τ1 hq => ?_) (fun E τ1 hq => by obtain ⟨z', w', vs, od', k1, k2, k3, k4, h⟩ := hq; cases h)
          obtain ⟨z', w', vs, od', k1, k2, k3, k4, h⟩ := hq
          cases h
          refine exq_k 1 (P := none) (g := (cod m8_run 11, [some (.inl 21), none], [], _)) rfl trivial ?_
          have k2 : RM (τ 21 14) (τ 29) (cho (τ 21 14) (τ 29) (τ 21 15 + 1)).2.2 (τ 21 15 + 1) z' w' vs := k2
          have k3 : ∀ i : Nat, (i : Int) < 4 * τ 21 19 → od' i = τ 30 i := k3
          have k4 : w' = 0 → od' (4 * τ 21 19).toNat = (cho (τ 21 14) (τ 29) (τ 21 15 + 1)).1 ∧ ∀ i : Nat, i < vs.length → od' (4 * τ 21 19 + 1 + (i : Int)).toNat = vs.getD i 0 := k4
          have hpl := prl_T (j := j) (acc := acc) (show 0 ≤ τ 21 15 + 1 ∧ τ 21 15 + 1 ≤ τ 21 14 by omega) k2
          refine ih _ (if w' = 0 then acc ++ [((cho (τ 21 14) (τ 29) (τ 21 15 + 1)).2.1, vs)] else acc) ⟨hT1, hT2, k1⟩ ?_ ?_ ?_
          · by_cases q : w' = 0
            · rw [if_pos q]; intro e he; rcases List.mem_append.mp he with h | h; exact hwf e h; rw [List.mem_singleton.mp h]; exact (k2.ok q).1
            · rw [if_neg q]; exact hwf
          · intro (q : w' = 0)
            have ko := (k2.ok q).2
            rw [if_pos q, List.length_append]
            have k5 := k4 q
            rw [ha.1] at k3 k5
            refine ⟨?_, ha.2.1.add hwf k3 (k5.1.trans cho_cd) k5.2, by simp only [List.length_cons, List.length_nil]; omega, ?_⟩
            · show τ 21 19 + 1 = _; rw [ha.1]; simp only [List.length_cons, List.length_nil]; omega
            · show _ ≤ z' + 1; simp only [List.length_cons, List.length_nil]; omega
          · intro τ' h1 h2 h3
            refine hexit τ' (Kp3.trans (τ' := _) ⟨fun a n1 n2 => ?_, fun i n1 n2 n3 => ?_⟩ h1) h2 ?_
            · rw [zr_ne n2, zr_ne n1, zr_ne n1]
            · show zu (zu (zu (zu (τ 21) 15 (τ 21 15 + 1)) 19 _) 15 z') 16 w' i = _
              rw [zu_ne n2, zu_ne n1, zu_ne n3, zu_ne n1]
            · rw [show prT (τ 21 14) (τ 29) (j + 1) (τ 21 15) (τ 21 16) acc = prl (τ 21 14) (τ 29) (j + 1) (τ 21 15 + 1) acc from by unfold prT; rw [if_neg (by omega), if_neg (by omega), if_pos (by omega)], hpl]
              exact h3)
/-- what stands behind a refused order -/
def rrW (c : Nat → Int) (w x y z : Int) : Int × Int × Int × Int := if w = 0 then (rwF c, rdF c y z, 0, 0) else if w = 1 then (rwT c x, rdT c x y, 0, 0) else if w = 2 then (3, z, 0, 0) else if w = 3 then (3, z, 0, 0) else
  if w = 4 then (4, x, ocn c x y (if z = 1 then 1 else -1), dtl c (ocn c x y (if z = 1 then 1 else -1)) x y (if z = 1 then 1 else -1)) else (5, fsm c (cel c 107).toNat 0, 0, 0)
def QdL (τ : SZ) (c : Nat → Int) (w x y z : Int) (q : RSZ) : Prop := ∃ τ1, q = .inl (none, τ1) ∧ ∃ e a, (0 < a ∧ a ≤ 3) ∧ (obW c w x y z = 1 ∨ obW c w x y z = 2 → τ1 = th (dt τ e) a) ∧
  (obW c w x y z = 3 → τ1 = rf (dt τ e) a (rrW c w x y z).1 (rrW c w x y z).2.1 (rrW c w x y z).2.2.1 (rrW c w x y z).2.2.2) ∧ (obW c w x y z = 0 → ∃ s', Rs (cao c w x y z) s' ∧ τ1 = dt (zr τ 22 s') e)
theorem qdl_of {τ : SZ} {c : Nat → Int} {w x y z ob a1 a2 a3 v1 v2 v3 v4 V : Int} {c' : Nat → Int} {q : RSZ} (h : Qds τ ob a1 a2 a3 v1 v2 v3 v4 V c' q) (ha : (0 < a1 ∧ a1 ≤ 3) ∧ (0 < a2 ∧ a2 ≤ 3) ∧ (0 < a3 ∧ a3 ≤ 3)) (ho : obW c w x y z = ob) (hr : rrW c w x y z = (v1, v2, v3, v4)) (hc : cao c w x y z = c') : QdL τ c w x y z q := by
  obtain ⟨v, τ1, rfl, h0, e, h1, h2, h3, h4⟩ := h
  subst ho
  subst hc
  rcases h0 with h0 | h0 | h0 | h0
  · obtain ⟨s', h5, h6⟩ := h4 h0
    cases h6
    exact ⟨_, rfl, e, a1, ha.1, fun q => by omega, fun q => by omega, fun _ => ⟨s', h5, rfl⟩⟩
  · have h6 := h1 h0; cases h6
    exact ⟨_, rfl, e, a1, ha.1, fun q => rfl, fun q => by omega, fun q => by omega⟩
  · have h6 := h2 h0; cases h6
    exact ⟨_, rfl, e, a2, ha.2.1, fun q => rfl, fun q => by omega, fun q => by omega⟩
  · have h6 := h3 h0; cases h6
    exact ⟨_, rfl, e, a3, ha.2.2, fun q => by omega, fun _ => by rw [hr], fun q => by omega⟩
theorem RZq.mono {d j : Nat} {as : List VZ} {τ : SZ} {Q Q' : RSZ → Prop} (h : RZq d j as τ Q) (k : ∀ r, Q r → Q' r) : RZq d j as τ Q' := by
  obtain ⟨r, h1, h2⟩ := h
  exact ⟨r, k r h1, h2⟩
theorem m_doesL {τ : SZ} {c : Nat → Int} {B : Int} {k : Nat} {l : List (Int × List Int)} (hI : Iv B c) (hR : Rs c (τ 22)) (hG : Tg c) (hB : B + 9 ≤ 100000000) (hl : OlM (τ 30) l) (hk : k < l.length) (hk60 : k < 60) (hw : WFo (l.getD k (0, []))) :
    RZq 10 m8_does [.inl 21, .inr (k : Int)] τ (QdL τ c (l.getD k (0, [])).1 ((l.getD k (0, [])).2.getD 0 0) ((l.getD k (0, [])).2.getD 1 0) ((l.getD k (0, [])).2.getD 2 0)) := by
  obtain ⟨h1, h2⟩ := hl k hk
  generalize l.getD k (0, []) = e at h1 h2 hw ⊢
  obtain ⟨w, vs⟩ := e
  obtain ⟨hw1, hw2⟩ := hw
  have hv : ∀ i, i < vs.length → 0 ≤ vs.getD i 0 ∧ vs.getD i 0 ≤ 99 := fun i hi => hw2 _ (getD_mem hi)
  have hr : ∀ i, i < vs.length → Rng (vs.getD i 0) := fun i hi => by have := hv i hi; exact ⟨by omega, by omega⟩
  have e1 : ∀ i : Nat, i < vs.length → τ 30 (4 * (k : Int) + ((i + 1 : Nat) : Int)).toNat = vs.getD i 0 := fun i hi => by rw [← h2 i hi]; congr 2; omega
  have hkk : 0 ≤ (k : Int) ∧ (k : Int) < 60 := by omega
  rcases hw1 with ⟨a, b⟩ | ⟨a, b⟩ | ⟨a, b⟩ | ⟨a, b⟩ | ⟨a, b⟩ | ⟨a, b⟩
  · have a : w = 0 := a
    have b : vs.length = 3 := b
    subst a
    exact (m_does_ferry hI hR hB hkk h1 (hr 0 (by omega)) (hr 1 (by omega)) (hr 2 (by omega)) (e1 0 (by omega)) (e1 1 (by omega)) (e1 2 (by omega))).mono (fun q h => qdl_of h (by omega) rfl rfl rfl)
  · have a : w = 1 := a
    have b : vs.length = 2 := b
    subst a
    exact (m_does_tug hI hR hB hkk h1 (hr 0 (by omega)) (hr 1 (by omega)) (e1 0 (by omega)) (e1 1 (by omega)) hG).mono (fun q h => qdl_of h (by omega) rfl rfl rfl)
  · have a : w = 2 := a
    have b : vs.length = 3 := b
    subst a
    exact (m_does_lock hI hR hB hkk h1 (hr 0 (by omega)) (hr 1 (by omega)) (hr 2 (by omega)) (e1 0 (by omega)) (e1 1 (by omega)) (e1 2 (by omega))).mono (fun q h => qdl_of h (by omega) rfl rfl rfl)
  · have a : w = 3 := a
    have b : vs.length = 3 := b
    subst a
    exact (m_does_fog hI hR hB hkk h1 (hr 0 (by omega)) (hr 1 (by omega)) (hr 2 (by omega)) (e1 0 (by omega)) (e1 1 (by omega)) (e1 2 (by omega))).mono (fun q h => qdl_of h (by omega) rfl rfl rfl)
  · have a : w = 4 := a
    have b : vs.length = 3 := b
    subst a
    have e3 : τ 30 (4 * (k : Int) + 3).toNat = vs.getD 2 0 := e1 2 (by omega)
    by_cases q : vs.getD 2 0 = 1
    · have z1 : (if vs.getD 2 0 = 1 then (1 : Int) else -1) = 1 := if_pos q
      exact (m_does_move_1 hI hR hB hkk h1 (hr 0 (by omega)) (hr 1 (by omega)) (e1 0 (by omega)) (e1 1 (by omega)) (e3.trans q) (by rw [e3]; exact hr 2 (by omega))).mono (fun r h => qdl_of h (by omega) (by show obM c _ _ (if vs.getD 2 0 = 1 then 1 else -1) = _; rw [z1]) (by show (4, _, _) = _; rw [z1]) (by show mkm c _ _ (if vs.getD 2 0 = 1 then 1 else -1) = _; rw [z1]))
    · have z1 : (if vs.getD 2 0 = 1 then (1 : Int) else -1) = -1 := if_neg q
      exact (m_does_move_0 hI hR hB hkk h1 (hr 0 (by omega)) (hr 1 (by omega)) (e1 0 (by omega)) (e1 1 (by omega)) (fun z => q (e3.symm.trans z)) (by rw [e3]; exact hr 2 (by omega))).mono (fun r h => qdl_of h (by omega) (by show obM c _ _ (if vs.getD 2 0 = 1 then 1 else -1) = _; rw [z1]) (by show (4, _, _) = _; rw [z1]) (by show mkm c _ _ (if vs.getD 2 0 = 1 then 1 else -1) = _; rw [z1]))
  · have a : w = 5 := a
    have b : vs.length = 0 := b
    subst a
    exact (m_does_pass hI hR hB hkk h1).mono (fun q h => qdl_of h (by omega) rfl rfl rfl)
/-- the orders of a list, one after the other -/
def rnL : List (Int × List Int) → Nat → (Nat → Int) → Int × Nat × (Nat → Int)
  | [], i, d => (0, i, d)
  | e :: l, i, d => if obW d e.1 (e.2.getD 0 0) (e.2.getD 1 0) (e.2.getD 2 0) = 3 then (3, i, d) else
    if ¬ obW d e.1 (e.2.getD 0 0) (e.2.getD 1 0) (e.2.getD 2 0) = 0 then (1, i, d) else rnL l (i + 1) (cao d e.1 (e.2.getD 0 0) (e.2.getD 1 0) (e.2.getD 2 0))
def QX (l : List (Int × List Int)) (σ : SZ) (x : Int × Nat × (Nat → Int)) (q : RSZ) : Prop := ∃ τ2, q = .inl (some (.inr (if x.1 = 0 then (l.length : Int) else 0)), τ2) ∧
  (∀ a, a ≠ 21 → a ≠ 22 → a ≠ 26 → a ≠ 27 → τ2 a = σ a) ∧ (∀ i, i ≠ 6 → i ≠ 7 → i ≠ 9 → i ≠ 10 → τ2 21 i = σ 21 i) ∧ τ2 21 7 = (if x.1 = 0 then 0 else if x.1 = 3 then 2 else 1) ∧
  (x.1 = 0 → Rs x.2.2 (τ2 22) ∧ τ2 26 = hpm (σ 23) (σ 26) (σ 21 6) ∧ τ2 21 6 = hpn (σ 21 6)) ∧ (¬ x.1 = 0 → τ2 22 = σ 23 ∧ τ2 26 = σ 26 ∧ τ2 21 6 = σ 21 6) ∧ (¬ x.1 = 3 → τ2 27 = σ 27) ∧
  (x.1 = 3 → (τ2 27 0 = 6 ∧ τ2 27 1 = (x.2.1 : Int) ∧ (τ2 27 2, τ2 27 3, τ2 27 4, τ2 27 5) = rrW x.2.2 (l.getD x.2.1 (0, [])).1 ((l.getD x.2.1 (0, [])).2.getD 0 0) ((l.getD x.2.1 (0, [])).2.getD 1 0) ((l.getD x.2.1 (0, [])).2.getD 2 0)) ∧ ∀ i, 6 ≤ i → τ2 27 i = σ 27 i)
theorem qx_0 {l : List (Int × List Int)} {σ : SZ} {x : Int × Nat × (Nat → Int)} {q : RSZ} {s' : Nat → Int} {e : Int} (h : QX l (dt (zr (zr σ 21 (zu (σ 21) 9 0)) 22 s') e) x q) : QX l σ x q := by
  obtain ⟨τ2, h0, h1, h2, h3, h4, h5, h6, h7⟩ := h
  refine ⟨τ2, h0, fun a n1 n2 n3 n4 => ?_, fun i n1 n2 n3 n4 => ?_, h3, h4, h5, h6, h7⟩
  · rw [h1 a n1 n2 n3 n4]
    unfold dt
    rw [zr_ne n1, zr_ne n2, zr_ne n1]
  · rw [h2 i n1 n2 n3 n4]
    show zu (zu (σ 21) 9 0) 10 e i = _
    rw [zu_ne n4, zu_ne n3]
theorem qx_1 {l : List (Int × List Int)} {σ : SZ} {i : Nat} {d : Nat → Int} {e a : Int} : QX l σ (1, i, d) (.inl (some (.inr 0), zr (th (th (dt (zr σ 21 (zu (σ 21) 9 0)) e) a) 1) 22 (σ 23))) := by
  refine ⟨_, rfl, fun b n1 n2 n3 n4 => ?_, fun i n1 n2 n3 n4 => ?_, rfl, fun h => absurd h (show ¬ (1 : Int) = 0 by decide), fun _ => ⟨rfl, rfl, rfl⟩, fun _ => rfl, fun h => absurd h (show ¬ (1 : Int) = 3 by decide)⟩
  · unfold th dt
    rw [zr_ne n2, zr_ne n1, zr_ne n1, zr_ne n1, zr_ne n1]
  · show zu (zu (zu (zu (σ 21) 9 0) 10 e) 7 a) 7 1 i = _
    rw [zu_ne n2, zu_ne n2, zu_ne n4, zu_ne n3]
theorem qx_3 {l : List (Int × List Int)} {σ : SZ} {i : Nat} {d : Nat → Int} {e a w v w2 v2 : Int} (hr : (w, v, w2, v2) = rrW d (l.getD i (0, [])).1 ((l.getD i (0, [])).2.getD 0 0) ((l.getD i (0, [])).2.getD 1 0) ((l.getD i (0, [])).2.getD 2 0)) :
    QX l σ (3, i, d) (.inl (some (.inr 0), zr (th (zr (rf (dt (zr σ 21 (zu (σ 21) 9 0)) e) a w v w2 v2) 27 (zu (zu (zc (rf (dt (zr σ 21 (zu (σ 21) 9 0)) e) a w v w2 v2 27) (rf (dt (zr σ 21 (zu (σ 21) 9 0)) e) a w v w2 v2 27) 0 2 4) 0 6) 1 (i : Int))) 2) 22 (σ 23))) := by
  refine ⟨_, rfl, fun b n1 n2 n3 n4 => ?_, fun i n1 n2 n3 n4 => ?_, rfl, fun h => absurd h (show ¬ (3 : Int) = 0 by decide), fun _ => ⟨rfl, rfl, rfl⟩, fun h => absurd rfl h, fun _ => ⟨⟨rfl, rfl, ?_⟩, fun j hj => ?_⟩⟩
  · unfold th rf dt
    rw [zr_ne n2, zr_ne n1, zr_ne n4, zr_ne n4, zr_ne n1, zr_ne n1, zr_ne n1]
  · show zu (zu (zu (zu (zu (σ 21) 9 0) 10 e) 7 a) 9 1) 7 2 i = _
    rw [zu_ne n2, zu_ne n3, zu_ne n2, zu_ne n4, zu_ne n3]
  · rw [← hr]; rfl
  · show zu (zu (zc _ _ 0 2 4) 0 6) 1 (i : Int) j = _
    rw [zu_ne (by omega), zu_ne (by omega)]
    unfold zc
    rw [if_neg (by omega)]
    show zu (zu (zu (zu (zu (zu (σ 27) 0 w) 1 v) 2 w2) 3 v2) 4 0) 5 0 j = _
    rw [zu_ne (by omega), zu_ne (by omega), zu_ne (by omega), zu_ne (by omega), zu_ne (by omega), zu_ne (by omega)]
theorem rnL_at {l : List (Int × List Int)} {k : Nat} {d : Nat → Int} (hk : k < l.length) : rnL (l.drop k) k d = if obW d (l.getD k (0, [])).1 ((l.getD k (0, [])).2.getD 0 0) ((l.getD k (0, [])).2.getD 1 0) ((l.getD k (0, [])).2.getD 2 0) = 3 then (3, k, d) else
    if ¬ obW d (l.getD k (0, [])).1 ((l.getD k (0, [])).2.getD 0 0) ((l.getD k (0, [])).2.getD 1 0) ((l.getD k (0, [])).2.getD 2 0) = 0 then (1, k, d) else rnL (l.drop (k + 1)) (k + 1) (cao d (l.getD k (0, [])).1 ((l.getD k (0, [])).2.getD 0 0) ((l.getD k (0, [])).2.getD 1 0) ((l.getD k (0, [])).2.getD 2 0)) := by
  have e : l.drop k = l.getD k (0, []) :: l.drop (k + 1) := by
    rw [List.getD_eq_getElem?_getD, List.getElem?_eq_getElem hk, Option.getD_some]
    exact List.drop_eq_getElem_cons hk
  rw [e]
  rfl
/-- what holds while orders are done -/
def Hx (l : List (Int × List Int)) (σ : SZ) : Prop := OlM (σ 30) l ∧ σ 21 7 = 0 ∧ σ 21 19 = (l.length : Int) ∧ Tz (σ 23) ∧ (0 ≤ σ 21 6 ∧ σ 21 6 ≤ 8)
set_option maxHeartbeats 1000000 in
theorem lp_exec {l : List (Int × List Int)} (hwf : ∀ e, e ∈ l → WFo e) (h13 : l.length ≤ 13) {B : Int} (hB : B + 9 * (l.length : Int) + 9 ≤ 100000000) : ∀ (j k : Nat) (σ : SZ) (c : Nat → Int), k + j = l.length → Iv (B + 9 * (k : Int)) c → Rs c (σ 22) → Tg c → Hx l σ → Exq 10 m8_run (cod m8_run 61, [some (.inl 21), some (.inr (k : Int))], [], σ) 0 (QX l σ (rnL (l.drop k) k c)) := by
  intro j
  induction j with
  | zero =>
    intro k σ c hk hI hR hG hH
    obtain ⟨g1, g3, g4, g5, g6⟩ := hH
    rw [show l.drop k = [] from List.drop_eq_nil_of_le (by omega)]
    refine exq_k 3 (P := none) (g := (cod m8_run 64, [some (.inl 21), some (.inr (k : Int))], [.inr ((σ 21) 19), .inr (k : Int)], σ)) rfl trivial ?_
    refine exq_b (P := ((σ 21) 19) ≤ (k : Int)) (ct := (cod m8_run 108, [some (.inl 21), some (.inr (k : Int))], [], σ)) (cf := (cod m8_run 65, [some (.inl 21), some (.inr (k : Int))], [], σ)) rfl ⟨⟨by omega, by omega⟩, ⟨by omega, by omega⟩⟩ (fun _ => ?_) (fun hh => absurd (by omega) hh)
    refine exq_k 3 (P := none) (g := (cod m8_run 111, [some (.inl 21), some (.inr (k : Int))], [.inr ((σ 21) 19), .inl 21], σ)) rfl trivial ?_
    refine exq_c (m_ends0 (τ := σ) (v := (σ 21) 19) g3 g6) (is := cod m8_run 112) (L := [some (.inl 21), some (.inr (k : Int))]) (st := []) rfl rfl rfl ?_
    show Exq _ _ (cod m8_run 112, [some (.inl 21), some (.inr (k : Int))], [.inr ((σ 21) 19)], (zr (zr σ 26 (hpm (σ 23) (σ 26) (σ 21 6))) 21 (zu (σ 21) 6 (hpn (σ 21 6))))) _ _
    exact exq_r rfl trivial rfl (⟨zr (zr σ 26 (hpm (σ 23) (σ 26) (σ 21 6))) 21 (zu (σ 21) 6 (hpn (σ 21 6))), by rw [g4]; rfl, fun a n1 n2 n3 n4 => by rw [zr_ne n1, zr_ne n3], fun i n1 n2 n3 n4 => zu_ne n1, g3, fun _ => ⟨hR, rfl, rfl⟩, fun h => absurd rfl h, fun _ => rfl, fun h => absurd h (show ¬ (0 : Int) = 3 by decide)⟩)
  | succ j ih =>
    intro k σ c hk hI hR hG hH
    obtain ⟨g1, g3, g4, g5, g6⟩ := hH
    refine exq_k 3 (P := none) (g := (cod m8_run 64, [some (.inl 21), some (.inr (k : Int))], [.inr ((σ 21) 19), .inr (k : Int)], σ)) rfl trivial ?_
    refine exq_b (P := ((σ 21) 19) ≤ (k : Int)) (ct := (cod m8_run 108, [some (.inl 21), some (.inr (k : Int))], [], σ)) (cf := (cod m8_run 65, [some (.inl 21), some (.inr (k : Int))], [], σ)) rfl ⟨⟨by omega, by omega⟩, ⟨by omega, by omega⟩⟩ (fun hh => absurd hh (by omega)) (fun _ => ?_)
    refine exq_k 3 (P := some (0 = 0 ∨ 0 = 1)) (g := (cod m8_run 68, [some (.inl 21), some (.inr (k : Int))], [], (zr σ 21 (zu (σ 21) 9 0)))) rfl (by show 0 = 0 ∨ 0 = 1; omega) ?_
    refine exq_k 2 (P := none) (g := (cod m8_run 70, [some (.inl 21), some (.inr (k : Int))], [.inr (k : Int), .inl 21], (zr σ 21 (zu (σ 21) 9 0)))) rfl trivial ?_
    have hkl : k < l.length := by omega
    have hmem : (l.getD k (0, [])) ∈ l := by rw [List.getD_eq_getElem?_getD, List.getElem?_eq_getElem hkl]; exact List.getElem_mem hkl
    have hra := rnL_at (d := c) hkl
    have hob := @obW_in c (l.getD k (0, [])).1 ((l.getD k (0, [])).2.getD 0 0) ((l.getD k (0, [])).2.getD 1 0) ((l.getD k (0, [])).2.getD 2 0)
    refine exq_cq (m_doesL (τ := (zr σ 21 (zu (σ 21) 9 0))) (l := l) (k := k) hI hR hG (by omega) g1 hkl (by omega) (hwf _ hmem)) (is := cod m8_run 71) (L := [some (.inl 21), some (.inr (k : Int))]) (st := []) rfl rfl rfl (fun v τ1 hq => ?_) (fun E τ1 hq => by obtain ⟨τ3, h, _⟩ := hq; cases h)
    obtain ⟨τ3, h, e, a, ha, q1, q2, q3⟩ := hq
    cases h
    rcases hob with ho | ho | ho | ho
    · obtain ⟨s', hs', heq⟩ := q3 ho
      have g7 : τ1 21 7 = 0 := by rw [heq]; exact g3
      refine exq_k 2 (P := none) (g := (cod m8_run 73, [some (.inl 21), some (.inr (k : Int))], [.inr ((τ1 21) 7)], τ1)) rfl trivial ?_
      refine exq_b (P := ((τ1 21) 7) ≤ 0) (ct := (cod m8_run 106, [some (.inl 21), some (.inr (k : Int))], [], τ1)) (cf := (cod m8_run 74, [some (.inl 21), some (.inr (k : Int))], [], τ1)) rfl ⟨by omega, by omega⟩ (fun _ => ?_) (fun hh => absurd (by omega) hh)
      refine exq_k 2 (P := none) (g := (cod m8_run 61, [some (.inl 21), some (.inr ((k : Int) + 1))], [], τ1)) rfl trivial ?_
      rw [hra, if_neg (by omega), if_neg (by omega)]
      have hcI := hI.cao ho (by omega)
      have hih := ih (k + 1) τ1 (cao c (l.getD k (0, [])).1 ((l.getD k (0, [])).2.getD 0 0) ((l.getD k (0, [])).2.getD 1 0) ((l.getD k (0, [])).2.getD 2 0)) (by omega) (by have q := hcI.1.mono (B' := B + 9 * ((k + 1 : Nat) : Int)) (by omega) (by omega); exact ⟨q, hcI.2⟩) (by rw [heq]; exact hs') (hG.cao hI ho (by omega)) (by rw [heq]; exact ⟨g1, g3, g4, g5, g6⟩)
      rw [heq] at hih ⊢
      exact hih.mono (fun q h => qx_0 h)
    · have heq := q1 (by omega)
      have g7 : τ1 21 7 = a := by rw [heq]; rfl
      have g9 : τ1 21 9 = 0 := by rw [heq]; rfl
      have g23 : τ1 23 = σ 23 := by rw [heq]; rfl
      have g22 : τ1 22 = σ 22 := by rw [heq]; rfl
      refine exq_k 2 (P := none) (g := (cod m8_run 73, [some (.inl 21), some (.inr (k : Int))], [.inr ((τ1 21) 7)], τ1)) rfl trivial ?_
      refine exq_b (P := ((τ1 21) 7) ≤ 0) (ct := (cod m8_run 106, [some (.inl 21), some (.inr (k : Int))], [], τ1)) (cf := (cod m8_run 74, [some (.inl 21), some (.inr (k : Int))], [], τ1)) rfl ⟨by omega, by omega⟩ (fun hh => absurd hh (by omega)) (fun _ => ?_)
      refine exq_k 2 (P := none) (g := (cod m8_run 76, [some (.inl 21), some (.inr (k : Int))], [.inr ((τ1 21) 9)], τ1)) rfl trivial ?_
      refine exq_b (P := ((τ1 21) 9) = 0) (ct := (cod m8_run 95, [some (.inl 21), some (.inr (k : Int))], [], τ1)) (cf := (cod m8_run 77, [some (.inl 21), some (.inr (k : Int))], [], τ1)) rfl ⟨by omega, by omega⟩ (fun _ => ?_) (fun hh => absurd (by omega) hh)
      refine exq_k 4 (P := none) (g := (cod m8_run 99, [some (.inl 21), some (.inr (k : Int))], [.inr ((τ1 21) 9), .inl 21, .inl 21], τ1)) rfl trivial ?_
      refine exq_b (P := ((τ1 21) 9) = 0) (ct := (cod m8_run 102, [some (.inl 21), some (.inr (k : Int))], [.inl 21, .inl 21], τ1)) (cf := (cod m8_run 100, [some (.inl 21), some (.inr (k : Int))], [.inl 21, .inl 21], τ1)) rfl ⟨by omega, by omega⟩ (fun _ => ?_) (fun hh => absurd (by omega) hh)
      refine exq_k 1 (P := none) (g := (cod m8_run 103, [some (.inl 21), some (.inr (k : Int))], [.inr 1, .inl 21, .inl 21], τ1)) rfl trivial ?_
      refine exq_c (m_fails (τ := τ1) (k := 1)) (is := cod m8_run 104) (L := [some (.inl 21), some (.inr (k : Int))]) (st := [.inl 21]) rfl rfl rfl ?_
      show Exq _ _ (cod m8_run 104, [some (.inl 21), some (.inr (k : Int))], [.inr 0, .inl 21], (zr τ1 21 (zu (τ1 21) 7 1))) _ _
      refine exq_c (m_ends1 (τ := (zr τ1 21 (zu (τ1 21) 7 1))) (v := 0) (show 0 < (1 : Int) ∧ (1 : Int) ≤ 3 by decide) (show Tz (τ1 22) by rw [g22]; exact hR.tz) (show Tz (τ1 23) by rw [g23]; exact g5)) (is := cod m8_run 105) (L := [some (.inl 21), some (.inr (k : Int))]) (st := []) rfl rfl rfl ?_
      show Exq _ _ (cod m8_run 105, [some (.inl 21), some (.inr (k : Int))], [.inr 0], (zr (zr τ1 21 (zu (τ1 21) 7 1)) 22 (τ1 23))) _ _
      exact exq_r rfl trivial rfl (by rw [hra, if_neg (by omega), if_pos (by omega), g23, heq]; exact qx_1)
    · have heq := q1 (by omega)
      have g7 : τ1 21 7 = a := by rw [heq]; rfl
      have g9 : τ1 21 9 = 0 := by rw [heq]; rfl
      have g23 : τ1 23 = σ 23 := by rw [heq]; rfl
      have g22 : τ1 22 = σ 22 := by rw [heq]; rfl
      refine exq_k 2 (P := none) (g := (cod m8_run 73, [some (.inl 21), some (.inr (k : Int))], [.inr ((τ1 21) 7)], τ1)) rfl trivial ?_
      refine exq_b (P := ((τ1 21) 7) ≤ 0) (ct := (cod m8_run 106, [some (.inl 21), some (.inr (k : Int))], [], τ1)) (cf := (cod m8_run 74, [some (.inl 21), some (.inr (k : Int))], [], τ1)) rfl ⟨by omega, by omega⟩ (fun hh => absurd hh (by omega)) (fun _ => ?_)
      refine exq_k 2 (P := none) (g := (cod m8_run 76, [some (.inl 21), some (.inr (k : Int))], [.inr ((τ1 21) 9)], τ1)) rfl trivial ?_
      refine exq_b (P := ((τ1 21) 9) = 0) (ct := (cod m8_run 95, [some (.inl 21), some (.inr (k : Int))], [], τ1)) (cf := (cod m8_run 77, [some (.inl 21), some (.inr (k : Int))], [], τ1)) rfl ⟨by omega, by omega⟩ (fun _ => ?_) (fun hh => absurd (by omega) hh)
      refine exq_k 4 (P := none) (g := (cod m8_run 99, [some (.inl 21), some (.inr (k : Int))], [.inr ((τ1 21) 9), .inl 21, .inl 21], τ1)) rfl trivial ?_
      refine exq_b (P := ((τ1 21) 9) = 0) (ct := (cod m8_run 102, [some (.inl 21), some (.inr (k : Int))], [.inl 21, .inl 21], τ1)) (cf := (cod m8_run 100, [some (.inl 21), some (.inr (k : Int))], [.inl 21, .inl 21], τ1)) rfl ⟨by omega, by omega⟩ (fun _ => ?_) (fun hh => absurd (by omega) hh)
      refine exq_k 1 (P := none) (g := (cod m8_run 103, [some (.inl 21), some (.inr (k : Int))], [.inr 1, .inl 21, .inl 21], τ1)) rfl trivial ?_
      refine exq_c (m_fails (τ := τ1) (k := 1)) (is := cod m8_run 104) (L := [some (.inl 21), some (.inr (k : Int))]) (st := [.inl 21]) rfl rfl rfl ?_
      show Exq _ _ (cod m8_run 104, [some (.inl 21), some (.inr (k : Int))], [.inr 0, .inl 21], (zr τ1 21 (zu (τ1 21) 7 1))) _ _
      refine exq_c (m_ends1 (τ := (zr τ1 21 (zu (τ1 21) 7 1))) (v := 0) (show 0 < (1 : Int) ∧ (1 : Int) ≤ 3 by decide) (show Tz (τ1 22) by rw [g22]; exact hR.tz) (show Tz (τ1 23) by rw [g23]; exact g5)) (is := cod m8_run 105) (L := [some (.inl 21), some (.inr (k : Int))]) (st := []) rfl rfl rfl ?_
      show Exq _ _ (cod m8_run 105, [some (.inl 21), some (.inr (k : Int))], [.inr 0], (zr (zr τ1 21 (zu (τ1 21) 7 1)) 22 (τ1 23))) _ _
      exact exq_r rfl trivial rfl (by rw [hra, if_neg (by omega), if_pos (by omega), g23, heq]; exact qx_1)
    · have heq := q2 ho
      have g7 : τ1 21 7 = a := by rw [heq]; rfl
      have g9 : τ1 21 9 = 1 := by rw [heq]; rfl
      have g23 : τ1 23 = σ 23 := by rw [heq]; rfl
      have g22 : τ1 22 = σ 22 := by rw [heq]; rfl
      refine exq_k 2 (P := none) (g := (cod m8_run 73, [some (.inl 21), some (.inr (k : Int))], [.inr ((τ1 21) 7)], τ1)) rfl trivial ?_
      refine exq_b (P := ((τ1 21) 7) ≤ 0) (ct := (cod m8_run 106, [some (.inl 21), some (.inr (k : Int))], [], τ1)) (cf := (cod m8_run 74, [some (.inl 21), some (.inr (k : Int))], [], τ1)) rfl ⟨by omega, by omega⟩ (fun hh => absurd hh (by omega)) (fun _ => ?_)
      refine exq_k 2 (P := none) (g := (cod m8_run 76, [some (.inl 21), some (.inr (k : Int))], [.inr ((τ1 21) 9)], τ1)) rfl trivial ?_
      refine exq_b (P := ((τ1 21) 9) = 0) (ct := (cod m8_run 95, [some (.inl 21), some (.inr (k : Int))], [], τ1)) (cf := (cod m8_run 77, [some (.inl 21), some (.inr (k : Int))], [], τ1)) rfl ⟨by omega, by omega⟩ (fun hh => absurd hh (by omega)) (fun _ => ?_)
      refine exq_k 8 (P := some (0 ≤ 0 ∧ 0 ≤ 2 ∧ 0 ≤ 4 ∧ 0 + 4 ≤ ((6 : Nat) : Int) ∧ 2 + 4 ≤ ((6 : Nat) : Int))) (g := (cod m8_run 85, [some (.inl 21), some (.inr (k : Int))], [], (zr τ1 27 (zc (τ1 27) (τ1 27) 0 2 4)))) rfl (by show 0 ≤ 0 ∧ 0 ≤ 2 ∧ 0 ≤ 4 ∧ 0 + 4 ≤ ((6 : Nat) : Int) ∧ 2 + 4 ≤ ((6 : Nat) : Int); omega) ?_
      refine exq_k 5 (P := some ((0 ≤ 0 ∧ 0 < ((6 : Nat) : Int)) ∧ (0 = 1 → 0 ≤ 6 ∧ 6 < 65536))) (g := (cod m8_run 90, [some (.inl 21), some (.inr (k : Int))], [], (zr (zr τ1 27 (zc (τ1 27) (τ1 27) 0 2 4)) 27 (zu (zc (τ1 27) (τ1 27) 0 2 4) 0 6)))) rfl (by show (0 ≤ 0 ∧ 0 < ((6 : Nat) : Int)) ∧ (0 = 1 → 0 ≤ 6 ∧ 6 < 65536); omega) ?_
      rw [zr_zr]
      refine exq_k 5 (P := some ((0 ≤ 1 ∧ 1 < ((6 : Nat) : Int)) ∧ (0 = 1 → 0 ≤ (k : Int) ∧ (k : Int) < 65536))) (g := (cod m8_run 95, [some (.inl 21), some (.inr (k : Int))], [], (zr (zr τ1 27 (zu (zc (τ1 27) (τ1 27) 0 2 4) 0 6)) 27 (zu (zu (zc (τ1 27) (τ1 27) 0 2 4) 0 6) 1 (k : Int))))) rfl (by show (0 ≤ 1 ∧ 1 < ((6 : Nat) : Int)) ∧ (0 = 1 → 0 ≤ (k : Int) ∧ (k : Int) < 65536); omega) ?_
      rw [zr_zr]
      refine exq_k 4 (P := none) (g := (cod m8_run 99, [some (.inl 21), some (.inr (k : Int))], [.inr ((τ1 21) 9), .inl 21, .inl 21], (zr τ1 27 (zu (zu (zc (τ1 27) (τ1 27) 0 2 4) 0 6) 1 (k : Int))))) rfl trivial ?_
      refine exq_b (P := ((τ1 21) 9) = 0) (ct := (cod m8_run 102, [some (.inl 21), some (.inr (k : Int))], [.inl 21, .inl 21], (zr τ1 27 (zu (zu (zc (τ1 27) (τ1 27) 0 2 4) 0 6) 1 (k : Int))))) (cf := (cod m8_run 100, [some (.inl 21), some (.inr (k : Int))], [.inl 21, .inl 21], (zr τ1 27 (zu (zu (zc (τ1 27) (τ1 27) 0 2 4) 0 6) 1 (k : Int))))) rfl ⟨by omega, by omega⟩ (fun hh => absurd hh (by omega)) (fun _ => ?_)
      refine exq_k 2 (P := none) (g := (cod m8_run 103, [some (.inl 21), some (.inr (k : Int))], [.inr 2, .inl 21, .inl 21], (zr τ1 27 (zu (zu (zc (τ1 27) (τ1 27) 0 2 4) 0 6) 1 (k : Int))))) rfl trivial ?_
      refine exq_c (m_fails (τ := (zr τ1 27 (zu (zu (zc (τ1 27) (τ1 27) 0 2 4) 0 6) 1 (k : Int)))) (k := 2)) (is := cod m8_run 104) (L := [some (.inl 21), some (.inr (k : Int))]) (st := [.inl 21]) rfl rfl rfl ?_
      show Exq _ _ (cod m8_run 104, [some (.inl 21), some (.inr (k : Int))], [.inr 0, .inl 21], (zr (zr τ1 27 (zu (zu (zc (τ1 27) (τ1 27) 0 2 4) 0 6) 1 (k : Int))) 21 (zu (τ1 21) 7 2))) _ _
      refine exq_c (m_ends1 (τ := (zr (zr τ1 27 (zu (zu (zc (τ1 27) (τ1 27) 0 2 4) 0 6) 1 (k : Int))) 21 (zu (τ1 21) 7 2))) (v := 0) (show 0 < (2 : Int) ∧ (2 : Int) ≤ 3 by decide) (show Tz (τ1 22) by rw [g22]; exact hR.tz) (show Tz (τ1 23) by rw [g23]; exact g5)) (is := cod m8_run 105) (L := [some (.inl 21), some (.inr (k : Int))]) (st := []) rfl rfl rfl ?_
      show Exq _ _ (cod m8_run 105, [some (.inl 21), some (.inr (k : Int))], [.inr 0], (zr (zr (zr τ1 27 (zu (zu (zc (τ1 27) (τ1 27) 0 2 4) 0 6) 1 (k : Int))) 21 (zu (τ1 21) 7 2)) 22 (τ1 23))) _ _
      exact exq_r rfl trivial rfl (by rw [hra, if_pos ho, g23, heq]; exact qx_3 rfl)
end MRU
