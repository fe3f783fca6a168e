/-! who is where, when a ferry is taken or put -/
section COR2
theorem cel_mvn {c : Nat → Int} {l w y : Int} (hl : 1 ≤ l ∧ l < 8) (hw : 0 ≤ w ∧ w < 6) : cel (mvn c l w) y = if 0 + (l - 1) * 6 + w = y then cel c (0 + l * 6 + w) else cel c y := by
  unfold mvn
  rw [cel_sce]
  by_cases h : 0 + (l - 1) * 6 + w = y
  · rw [if_pos ⟨h, by omega⟩, if_pos h]
  · rw [if_neg (fun q => h q.1), if_neg h]
theorem mv_k {c d : Nat → Int} {l k k1 : Int} (hl : 1 ≤ l ∧ l < 8) (hk : 0 ≤ k ∧ k < 6) (h : ∀ y, cel d y = if 0 + (l - 1) * 6 ≤ y ∧ y < 0 + (l - 1) * 6 + k then cel c (y + 6) else cel c y) (e : k1 = k + 1) : ∀ y, cel (mvn d l k) y = if 0 + (l - 1) * 6 ≤ y ∧ y < 0 + (l - 1) * 6 + k1 then cel c (y + 6) else cel c y := by
  intro y
  subst e
  have e1 : cel d (0 + l * 6 + k) = cel c (0 + l * 6 + k) := by rw [h, if_neg (by omega)]
  rw [cel_mvn hl hk, e1, h y]
  by_cases q : 0 + (l - 1) * 6 + k = y
  · rw [if_pos q, if_pos (by omega)]
    exact congrArg (cel c) (by omega)
  · rw [if_neg q]
    by_cases q2 : 0 + (l - 1) * 6 ≤ y ∧ y < 0 + (l - 1) * 6 + k
    · rw [if_pos q2, if_pos (by omega)]
    · rw [if_neg q2, if_neg (by omega)]
theorem cel_mv6 {c : Nat → Int} {l y : Int} (hl : 1 ≤ l ∧ l < 8) : cel (mv6 c l) y = if 0 + (l - 1) * 6 ≤ y ∧ y < 0 + l * 6 then cel c (y + 6) else cel c y := by
  have h0 : ∀ y, cel c y = if 0 + (l - 1) * 6 ≤ y ∧ y < 0 + (l - 1) * 6 + 0 then cel c (y + 6) else cel c y := fun y => by rw [if_neg (by omega)]
  have h6 := mv_k hl (k := 5) (by omega) (mv_k hl (k := 4) (by omega) (mv_k hl (k := 3) (by omega) (mv_k hl (k := 2) (by omega) (mv_k hl (k := 1) (by omega) (mv_k hl (k := 0) (by omega) h0 (k1 := 1) rfl) (k1 := 2) rfl) (k1 := 3) rfl) (k1 := 4) rfl) (k1 := 5) rfl) (k1 := 6) rfl y
  refine h6.trans ?_
  by_cases q : 0 + (l - 1) * 6 ≤ y ∧ y < 0 + l * 6
  · rw [if_pos q, if_pos (by omega)]
  · rw [if_neg q, if_neg (by omega)]
/-- a row of which a ferry was taken, the later ones moved down as far as z -/
def Pr (c : Nat → Int) (g : Int) (d : Nat → Int) (z : Int) : Prop :=
  (∀ y, 0 ≤ y → y < 48 → cel d y = if g * 6 ≤ y ∧ y < (z - 1) * 6 then cel c (y + 6) else cel c y) ∧
  (∀ y, 48 ≤ y → y < 72 → cel d y = if cel c y = g then -1 else if g < cel c y ∧ cel c y < z then cel c y - 1 else cel c y) ∧
  (∀ y, 72 ≤ y → cel d y = cel c y)
theorem Pr.step {B : Int} {c d : Nat → Int} {g z : Int} (hS : Sh B c) (hC : Co c) (hg : 0 ≤ g) (hz : g < z) (hzn : z < cel c 107) (h : Pr c g d z) : Pr c g (rst d z) (z + 1) := by
  have hn := hS.n
  obtain ⟨h1, h2, h3⟩ := h
  have hz8 : 0 ≤ z ∧ z < 8 := by omega
  have hp1 := hS.p1 hz8
  have hp2 := hS.p2 hz8
  have a1 := hC.at (r := 0) (by omega) (f := z) ⟨by omega, hzn⟩
  have a2 := hC.at (r := 1) (by omega) (f := z) ⟨by omega, hzn⟩
  rw [show 0 + z * 6 + (1 + 0) = 0 + z * 6 + 1 from by omega] at a1
  rw [show 0 + z * 6 + (1 + 1) = 0 + z * 6 + 2 from by omega] at a2
  have m : ∀ y, cel (mv6 d z) y = if 0 + (z - 1) * 6 ≤ y ∧ y < 0 + z * 6 then cel d (y + 6) else cel d y := fun y => cel_mv6 (by omega)
  have e1 : cel (mv6 d z) (0 + z * 6 + 1) = cel c (0 + z * 6 + 1) := by rw [m, if_neg (by omega), h1 _ (by omega) (by omega), if_neg (by omega)]
  have e2' : cel (mv6 d z) (0 + z * 6 + 2) = cel c (0 + z * 6 + 2) := by rw [m, if_neg (by omega), h1 _ (by omega) (by omega), if_neg (by omega)]
  have s0 : ∀ y, cel (st0 (mv6 d z) z (z - 1)) y = if 48 + cel c (0 + z * 6 + 1) = y then z - 1 else cel (mv6 d z) y := by
    intro y
    unfold st0
    rw [cel_swh' (by omega), e1]
    by_cases q : 48 + cel c (0 + z * 6 + 1) = y
    · rw [if_pos ⟨by omega, by omega⟩, if_pos q]
    · rw [if_neg (fun w => q (by omega)), if_neg q]
  have e2 : cel (st0 (mv6 d z) z (z - 1)) (0 + z * 6 + 2) = cel c (0 + z * 6 + 2) := by rw [s0, if_neg (by omega), e2']
  have s1 : ∀ y, cel (rst d z) y = if 60 + cel c (0 + z * 6 + 2) = y then z - 1 else if 48 + cel c (0 + z * 6 + 1) = y then z - 1 else cel (mv6 d z) y := by
    intro y
    unfold rst st1
    rw [cel_swh' (by omega), e2, s0]
    by_cases q : 60 + cel c (0 + z * 6 + 2) = y
    · rw [if_pos ⟨by omega, by omega⟩, if_pos q]
    · rw [if_neg (fun w => q (by omega)), if_neg q]
  refine ⟨fun y h0 h48 => ?_, fun y h48 h72 => ?_, fun y h72 => ?_⟩
  · rw [s1, if_neg (by omega), if_neg (by omega), m]
    by_cases q : 0 + (z - 1) * 6 ≤ y ∧ y < 0 + z * 6
    · rw [if_pos q, h1 _ (by omega) (by omega), if_neg (by omega), if_pos (by omega)]
    · rw [if_neg q, h1 _ h0 h48]
      by_cases q2 : g * 6 ≤ y ∧ y < (z - 1) * 6
      · rw [if_pos q2, if_pos (by omega)]
      · rw [if_neg q2, if_neg (by omega)]
  · rw [s1, m, if_neg (show ¬ (0 + (z - 1) * 6 ≤ y ∧ y < 0 + z * 6) by omega), h2 _ h48 h72]
    by_cases q1 : 60 + cel c (0 + z * 6 + 2) = y
    · have ev : cel c y = z := (congrArg (cel c) (by omega)).trans a2
      rw [if_pos q1, ev, if_neg (by omega), if_pos (by omega)]
    · rw [if_neg q1]
      by_cases q2 : 48 + cel c (0 + z * 6 + 1) = y
      · have ev : cel c y = z := (congrArg (cel c) (by omega)).trans a1
        rw [if_pos q2, ev, if_neg (by omega), if_pos (by omega)]
      · rw [if_neg q2]
        have nz : cel c y ≠ z := by
          intro ev
          by_cases hy : y < 60
          · have b := hC.by (r := 0) (by omega) (p := y - 48) (by omega)
            rw [show 48 + 0 * 12 + (y - 48) = y from by omega, ev, show 0 + z * 6 + (1 + 0) = 0 + z * 6 + 1 from by omega] at b
            omega
          · have b := hC.by (r := 1) (by omega) (p := y - 60) (by omega)
            rw [show 48 + 1 * 12 + (y - 60) = y from by omega, ev, show 0 + z * 6 + (1 + 1) = 0 + z * 6 + 2 from by omega] at b
            omega
        by_cases q3 : cel c y = g
        · rw [if_pos q3, if_pos q3]
        · rw [if_neg q3, if_neg q3]
          by_cases q4 : g < cel c y ∧ cel c y < z
          · rw [if_pos q4, if_pos (by omega)]
          · rw [if_neg q4, if_neg (by omega)]
  · rw [s1, if_neg (by omega), if_neg (by omega), m, if_neg (by omega)]
    exact h3 y h72
theorem Pr.rif {B : Int} {c : Nat → Int} {g : Int} (hS : Sh B c) (hC : Co c) (hg : 0 ≤ g) : ∀ (j : Nat) (d : Nat → Int) (z : Int), g < z → z + (j : Int) ≤ cel c 107 → Pr c g d z → Pr c g (rif j d z) (z + (j : Int)) := by
  intro j
  induction j with
  | zero => intro d z h1 h2 h; rw [show z + ((0 : Nat) : Int) = z from by omega]; exact h
  | succ j ih =>
    intro d z h1 h2 h
    have q := ih (rst d z) (z + 1) (by omega) (by omega) (h.step hS hC hg h1 (by omega))
    rw [show z + 1 + (j : Int) = z + ((j + 1 : Nat) : Int) from by omega] at q
    exact q
theorem cel_rmv {B : Int} {c : Nat → Int} {g : Int} (hS : Sh B c) (hC : Co c) (hg : 0 ≤ g ∧ g < cel c 107) :
    (∀ y, 0 ≤ y → y < 48 → cel (rmv c g) y = if g * 6 ≤ y ∧ y < (cel c 107 - 1) * 6 then cel c (y + 6) else cel c y) ∧
    (∀ y, 48 ≤ y → y < 72 → cel (rmv c g) y = if cel c y = g then -1 else if g < cel c y ∧ cel c y < cel c 107 then cel c y - 1 else cel c y) ∧
    (∀ y, 72 ≤ y → y ≠ 107 → cel (rmv c g) y = cel c y) ∧ cel (rmv c g) 107 = cel c 107 - 1 := by
  have hn := hS.n
  have hp1 := hS.p1 (f := g) (by omega)
  have hp2 := hS.p2 (f := g) (by omega)
  have a1 := hC.at (r := 0) (by omega) hg
  have a2 := hC.at (r := 1) (by omega) hg
  rw [show 0 + g * 6 + (1 + 0) = 0 + g * 6 + 1 from by omega] at a1
  rw [show 0 + g * 6 + (1 + 1) = 0 + g * 6 + 2 from by omega] at a2
  have e0 : ∀ y, cel (st0 c g (-1)) y = if 48 + cel c (0 + g * 6 + 1) = y then -1 else cel c y := by
    intro y
    unfold st0
    rw [cel_swh' (by omega)]
    by_cases q : 48 + cel c (0 + g * 6 + 1) = y
    · rw [if_pos ⟨by omega, by omega⟩, if_pos q]
    · rw [if_neg (fun w => q (by omega)), if_neg q]
  have e1 : ∀ y, cel (st1 (st0 c g (-1)) g (-1)) y = if 60 + cel c (0 + g * 6 + 2) = y then -1 else if 48 + cel c (0 + g * 6 + 1) = y then -1 else cel c y := by
    intro y
    unfold st1
    rw [cel_swh' (by omega), e0 (0 + g * 6 + 2), if_neg (show ¬ (48 + cel c (0 + g * 6 + 1) = 0 + g * 6 + 2) by omega), e0]
    by_cases q : 60 + cel c (0 + g * 6 + 2) = y
    · rw [if_pos ⟨by omega, by omega⟩, if_pos q]
    · rw [if_neg (fun w => q (by omega)), if_neg q]
  have p0 : Pr c g (st1 (st0 c g (-1)) g (-1)) (g + 1) := by
    refine ⟨fun y h0 h48 => ?_, fun y h48 h72 => ?_, fun y h72 => ?_⟩
    · rw [e1, if_neg (by omega), if_neg (by omega), if_neg (by omega)]
    · rw [e1]
      by_cases q1 : 60 + cel c (0 + g * 6 + 2) = y
      · have ev : cel c y = g := (congrArg (cel c) (by omega)).trans a2
        rw [if_pos q1, if_pos ev]
      · rw [if_neg q1]
        by_cases q2 : 48 + cel c (0 + g * 6 + 1) = y
        · have ev : cel c y = g := (congrArg (cel c) (by omega)).trans a1
          rw [if_pos q2, if_pos ev]
        · rw [if_neg q2]
          have nz : cel c y ≠ g := by
            intro ev
            by_cases hy : y < 60
            · have b := hC.by (r := 0) (by omega) (p := y - 48) (by omega)
              rw [show 48 + 0 * 12 + (y - 48) = y from by omega, ev, show 0 + g * 6 + (1 + 0) = 0 + g * 6 + 1 from by omega] at b
              omega
            · have b := hC.by (r := 1) (by omega) (p := y - 60) (by omega)
              rw [show 48 + 1 * 12 + (y - 60) = y from by omega, ev, show 0 + g * 6 + (1 + 1) = 0 + g * 6 + 2 from by omega] at b
              omega
          rw [if_neg nz, if_neg (by omega)]
    · rw [e1, if_neg (by omega), if_neg (by omega)]
  have p1 := Pr.rif hS hC hg.1 (cel c 107 - 1 - g).toNat _ (g + 1) (by omega) (by omega) p0
  rw [show g + 1 + ((cel c 107 - 1 - g).toNat : Int) = cel c 107 from by omega] at p1
  obtain ⟨h1, h2, h3⟩ := p1
  have hd : ∀ y, cel (rmv c g) y = if 107 = y then cel c 107 - 1 else cel (rif (cel c 107 - 1 - g).toNat (st1 (st0 c g (-1)) g (-1)) (g + 1)) y := by
    intro y
    unfold rmv dec
    rw [cel_sce, h3 107 (by omega)]
    by_cases q : (107 : Int) = y
    · rw [if_pos ⟨q, by omega⟩, if_pos q]; omega
    · rw [if_neg (fun w => q w.1), if_neg q]
  refine ⟨fun y h0 h48 => ?_, fun y h48 h72 => ?_, fun y h72 hne => ?_, ?_⟩
  · rw [hd, if_neg (by omega)]; exact h1 y h0 h48
  · rw [hd, if_neg (by omega)]; exact h2 y h48 h72
  · rw [hd, if_neg (by omega)]; exact h3 y h72
  · rw [hd, if_pos rfl]
theorem Co.krmv {B : Int} {c : Nat → Int} {g : Int} (hC : Co c) (hS : Sh B c) (hg : 0 ≤ g ∧ g < cel c 107) : Co (rmv c g) := by
  obtain ⟨h1, h2, h3, h4⟩ := cel_rmv hS hC hg
  have hn := hS.n
  intro r h0 hr1
  have hr : 0 ≤ r ∧ r < 2 := ⟨h0, hr1⟩
  rw [h4]
  refine ⟨fun f hf0 hf1 => ?_, fun p hp0 hp1 => ?_⟩
  · rw [h1 (0 + f * 6 + (1 + r)) (by omega) (by omega)]
    by_cases q : g * 6 ≤ 0 + f * 6 + (1 + r) ∧ 0 + f * 6 + (1 + r) < (cel c 107 - 1) * 6
    · have hp := hS.pl (f := f + 1) (by omega) hr
      have ha := hC.at hr (f := f + 1) ⟨by omega, by omega⟩
      rw [if_pos q, show 0 + f * 6 + (1 + r) + 6 = 0 + (f + 1) * 6 + (1 + r) from by omega, h2 _ (by omega) (by omega), ha, if_neg (by omega), if_pos (by omega)]
      omega
    · have hp := hS.pl (f := f) (by omega) hr
      have ha := hC.at hr (f := f) ⟨by omega, by omega⟩
      rw [if_neg q, h2 _ (by omega) (by omega), ha, if_neg (by omega), if_neg (by omega)]
  · rw [h2 _ (by omega) (by omega)]
    rcases hC.by hr ⟨hp0, hp1⟩ with q | q | q
    · rw [q, if_neg (by omega), if_neg (by omega)]; exact Or.inl rfl
    · rw [q, if_neg (by omega), if_neg (by omega)]; exact Or.inr (Or.inl rfl)
    · by_cases q1 : cel c (48 + r * 12 + p) = g
      · rw [if_pos q1]; exact Or.inl rfl
      · rw [if_neg q1]
        by_cases q2 : g < cel c (48 + r * 12 + p) ∧ cel c (48 + r * 12 + p) < cel c 107
        · rw [if_pos q2]
          refine Or.inr (Or.inr ⟨by omega, by omega, ?_⟩)
          rw [h1 _ (by omega) (by omega), if_pos (by omega), ← q.2.2]
          congr 1
          rw [q.2.2]
          omega
        · rw [if_neg q2]
          refine Or.inr (Or.inr ⟨by omega, by omega, ?_⟩)
          rw [h1 _ (by omega) (by omega), if_neg (by omega)]
          exact q.2.2
theorem cel_adf {c : Nat → Int} {x p q y : Int} (hn : 0 ≤ cel c 107 ∧ cel c 107 < 8) (hp : 0 ≤ p ∧ p < 12) (hq : 0 ≤ q ∧ q < 12) : cel (adf c x p q) y =
    if y = 106 then cel c 106 + 1 else if y = 107 then cel c 107 + 1 else if y = 60 + q then cel c 107 else if y = 48 + p then cel c 107 else
    if y = 0 + cel c 107 * 6 + 0 then x else if y = 0 + cel c 107 * 6 + 1 then p else if y = 0 + cel c 107 * 6 + 2 then q else if 0 + cel c 107 * 6 + 3 ≤ y ∧ y < 0 + cel c 107 * 6 + 6 then 0 else cel c y := by
  rw [adf_eq]
  unfold adm
  have E : ∀ (d : Nat → Int) (z v y : Int), 0 ≤ z ∧ z < 109 → cel (sce d z v) y = if y = z then v else cel d y := by
    intro d z v y hz
    rw [cel_sce]
    by_cases h : y = z
    · rw [if_pos ⟨h.symm, hz⟩, if_pos h]
    · rw [if_neg (fun w => h w.1.symm), if_neg h]
  have W : ∀ (d : Nat → Int) (r p v y : Int), 0 ≤ r ∧ r < 2 → 0 ≤ p ∧ p < 12 → cel (swh d r p v) y = if y = 48 + r * 12 + p then v else cel d y := by
    intro d r p v y hr hp
    rw [cel_swh' hr]
    by_cases h : y = 48 + r * 12 + p
    · rw [if_pos ⟨h.symm, hp⟩, if_pos h]
    · rw [if_neg (fun w => h w.1.symm), if_neg h]
  by_cases y1 : y = 106
  · subst y1
    rw [E _ _ _ _ (by omega), if_pos rfl, if_pos rfl, E _ _ _ _ (by omega), if_neg (by omega), W _ _ _ _ _ (by omega) hq, if_neg (by omega), W _ _ _ _ _ (by omega) hp, if_neg (by omega)]
    repeat rw [E _ _ _ _ (by omega), if_neg (by omega)]
  · rw [E _ _ _ _ (by omega), if_neg y1, if_neg y1]
    by_cases y2 : y = 107
    · subst y2
      rw [E _ _ _ _ (by omega), if_pos rfl, if_pos rfl, W _ _ _ _ _ (by omega) hq, if_neg (by omega), W _ _ _ _ _ (by omega) hp, if_neg (by omega)]
      repeat rw [E _ _ _ _ (by omega), if_neg (by omega)]
    · rw [E _ _ _ _ (by omega), if_neg y2, if_neg y2, W _ _ _ _ _ (by omega) hq, W _ _ _ _ _ (by omega) hp]
      rw [E _ _ _ _ (by omega), E _ _ _ _ (by omega), E _ _ _ _ (by omega), E _ _ _ _ (by omega), E _ _ _ _ (by omega), E _ _ _ _ (by omega)]
      by_cases y3 : y = 60 + q
      · rw [if_pos (by omega), if_pos y3]
      · rw [if_neg (by omega), if_neg y3]
        by_cases y4 : y = 48 + p
        · rw [if_pos (by omega), if_pos y4]
        · rw [if_neg (by omega), if_neg y4]
          repeat (first | rfl | omega | split)
theorem Co.kadf {B : Int} {c : Nat → Int} {x p q : Int} (hC : Co c) (hS : Sh B c) (hn : cel c 107 < 8) (hp : 0 ≤ p ∧ p < 12) (hq : 0 ≤ q ∧ q < 12) (f0 : cel c (48 + 0 * 12 + p) = -1) (f1 : cel c (48 + 1 * 12 + q) = -1) : Co (adf c x p q) := by
  have hn0 := hS.n
  have A : ∀ y, cel (adf c x p q) y = _ := fun y => cel_adf (x := x) (y := y) ⟨hn0.1, hn⟩ hp hq
  have hN : cel (adf c x p q) 107 = cel c 107 + 1 := by rw [A, if_neg (by omega), if_pos rfl]
  intro r h0 hr1
  have hr : 0 ≤ r ∧ r < 2 := ⟨h0, hr1⟩
  have hr2 : r = 0 ∨ r = 1 := by omega
  rw [hN]
  refine ⟨fun f hf0 hf1 => ?_, fun z hz0 hz1 => ?_⟩
  · by_cases hfn : f = cel c 107
    · subst hfn
      rcases hr2 with rfl | rfl
      · rw [A (0 + cel c 107 * 6 + (1 + 0)), if_neg (by omega), if_neg (by omega), if_neg (by omega), if_neg (by omega), if_neg (by omega), if_pos (by omega), A, if_neg (by omega), if_neg (by omega), if_neg (by omega), if_pos (by omega)]
      · rw [A (0 + cel c 107 * 6 + (1 + 1)), if_neg (by omega), if_neg (by omega), if_neg (by omega), if_neg (by omega), if_neg (by omega), if_neg (by omega), if_pos (by omega), A, if_neg (by omega), if_neg (by omega), if_pos (by omega)]
    · have hpl := hS.pl (f := f) (by omega) hr
      have ha := hC.at hr (f := f) ⟨hf0, by omega⟩
      have e1 : cel (adf c x p q) (0 + f * 6 + (1 + r)) = cel c (0 + f * 6 + (1 + r)) := by
        rw [A]
        repeat rw [if_neg (by omega)]
      rw [e1, A, if_neg (by omega), if_neg (by omega)]
      have n1 : ¬ (48 + r * 12 + cel c (0 + f * 6 + (1 + r)) = 60 + q) := fun w => by rw [show (60 : Int) + q = 48 + 1 * 12 + q from by omega] at w; rw [w, f1] at ha; omega
      have n2 : ¬ (48 + r * 12 + cel c (0 + f * 6 + (1 + r)) = 48 + p) := fun w => by rw [show (48 : Int) + p = 48 + 0 * 12 + p from by omega] at w; rw [w, f0] at ha; omega
      rw [if_neg n1, if_neg n2, if_neg (by omega), if_neg (by omega), if_neg (by omega), if_neg (by omega)]
      exact ha
  · rw [A (48 + r * 12 + z), if_neg (by omega), if_neg (by omega)]
    by_cases y3 : 48 + r * 12 + z = 60 + q
    · rw [if_pos y3]
      have er : r = 1 := by omega
      have ez : z = q := by omega
      subst er
      subst ez
      exact Or.inr (Or.inr ⟨hn0.1, by omega, by rw [A, if_neg (by omega), if_neg (by omega), if_neg (by omega), if_neg (by omega), if_neg (by omega), if_neg (by omega), if_pos (by omega)]⟩)
    · rw [if_neg y3]
      by_cases y4 : 48 + r * 12 + z = 48 + p
      · rw [if_pos y4]
        have er : r = 0 := by omega
        have ez : z = p := by omega
        subst er
        subst ez
        exact Or.inr (Or.inr ⟨hn0.1, by omega, by rw [A, if_neg (by omega), if_neg (by omega), if_neg (by omega), if_neg (by omega), if_neg (by omega), if_pos (by omega)]⟩)
      · rw [if_neg y4, if_neg (by omega), if_neg (by omega), if_neg (by omega), if_neg (by omega)]
        rcases hC.by hr ⟨hz0, hz1⟩ with w | w | w
        · exact Or.inl w
        · exact Or.inr (Or.inl w)
        · refine Or.inr (Or.inr ⟨w.1, by omega, ?_⟩)
          rw [A]
          repeat rw [if_neg (by omega)]
          exact w.2.2
end COR2
