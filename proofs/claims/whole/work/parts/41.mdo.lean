/-! contracts of the second implementation: what writes: printed by wip/whole/db22.py -/
section MDO
def rf (τ : SZ) (k w d w2 d2 : Int) : SZ := zr (zr τ 21 (zu (zu (τ 21) 7 k) 9 1)) 27 (zu (zu (zu (zu (zu (zu (τ 27) 0 w) 1 d) 2 w2) 3 d2) 4 0) 5 0)
/-- what comes of a change that is tried -/
def Qdo (τ : SZ) (ob a1 a2 a3 w d w2 d2 V : Int) (c' : Nat → Int) (r : RSZ) : Prop := (ob = 0 ∨ ob = 1 ∨ ob = 2 ∨ ob = 3) ∧ ∃ e,
  (ob = 1 → r = .inl (some (.inr 0), th (dt τ e) a1)) ∧ (ob = 2 → r = .inl (some (.inr 0), th (dt τ e) a2)) ∧ (ob = 3 → r = .inl (some (.inr 0), rf (dt τ e) a3 w d w2 d2)) ∧
  (ob = 0 → ∃ s', Rs c' s' ∧ r = .inl (some (.inr V), dt (zr τ 22 s') e))
theorem qd1 {τ : SZ} {ob a1 a2 a3 w d w2 d2 V : Int} {c' : Nat → Int} (h : ob = 1) : Qdo τ ob a1 a2 a3 w d w2 d2 V c' (.inl (some (.inr 0), th τ a1)) :=
  ⟨Or.inr (Or.inl h), τ 21 10, fun _ => by rw [dt_self], fun q => absurd (h.symm.trans q) (by decide), fun q => absurd (h.symm.trans q) (by decide), fun q => absurd (h.symm.trans q) (by decide)⟩
theorem qd2 {τ : SZ} {ob a1 a2 a3 w d w2 d2 V : Int} {c' : Nat → Int} (h : ob = 2) : Qdo τ ob a1 a2 a3 w d w2 d2 V c' (.inl (some (.inr 0), th τ a2)) :=
  ⟨Or.inr (Or.inr (Or.inl h)), τ 21 10, fun q => absurd (h.symm.trans q) (by decide), fun _ => by rw [dt_self], fun q => absurd (h.symm.trans q) (by decide), fun q => absurd (h.symm.trans q) (by decide)⟩
theorem qd3 {τ : SZ} {ob a1 a2 a3 w d w2 d2 w' d' V : Int} {c' : Nat → Int} (h : ob = 3) (hw : w = w') (hd : d = d') : Qdo τ ob a1 a2 a3 w d w2 d2 V c' (.inl (some (.inr 0), rf τ a3 w' d' w2 d2)) :=
  ⟨Or.inr (Or.inr (Or.inr h)), τ 21 10, fun q => absurd (h.symm.trans q) (by decide), fun q => absurd (h.symm.trans q) (by decide), fun _ => by rw [dt_self, hw, hd], fun q => absurd (h.symm.trans q) (by decide)⟩
theorem qd0 {τ : SZ} {ob a1 a2 a3 w d w2 d2 V v : Int} {c' s' : Nat → Int} (h : ob = 0) (hR : Rs c' s') (hv : V = v) : Qdo τ ob a1 a2 a3 w d w2 d2 V c' (.inl (some (.inr v), zr τ 22 s')) :=
  ⟨Or.inl h, τ 21 10, fun q => absurd (h.symm.trans q) (by decide), fun q => absurd (h.symm.trans q) (by decide), fun q => absurd (h.symm.trans q) (by decide), fun _ => ⟨s', hR, by rw [hv, show dt (zr τ 22 s') (τ 21 10) = zr τ 22 s' from dt_self (τ := zr τ 22 s')]⟩⟩
theorem m_refuseFor {k w d w2 d2 : Int} {τ : SZ} : RZ 1 m8_refuseFor [.inl 21, .inr k, .inr w, .inr d, .inr w2, .inr d2] τ (.inl (some (.inr 0), rf τ k w d w2 d2)) := by
  refine Ex.call ?_ rfl rfl
  show Ex _ _ (cod m8_refuseFor 0, [some (.inl 21), some (.inr k), some (.inr w), some (.inr d), some (.inr w2), some (.inr d2)], [], τ) _ _
  refine ex_k 3 (P := none) (g := (cod m8_refuseFor 3, [some (.inl 21), some (.inr k), some (.inr w), some (.inr d), some (.inr w2), some (.inr d2)], [], (zr τ 21 (zu (τ 21) 7 k)))) rfl trivial ?_
  refine ex_k 3 (P := some (1 = 0 ∨ 1 = 1)) (g := (cod m8_refuseFor 6, [some (.inl 21), some (.inr k), some (.inr w), some (.inr d), some (.inr w2), some (.inr d2)], [], (zr (zr τ 21 (zu (τ 21) 7 k)) 21 (zu (zu (τ 21) 7 k) 9 1)))) rfl (by show 1 = 0 ∨ 1 = 1; omega) ?_
  rw [zr_zr]
  refine ex_k 5 (P := some ((0 ≤ 0 ∧ 0 < ((6 : Nat) : Int)) ∧ (0 = 1 → 0 ≤ w ∧ w < 65536))) (g := (cod m8_refuseFor 11, [some (.inl 21), some (.inr k), some (.inr w), some (.inr d), some (.inr w2), some (.inr d2)], [], (zr (zr τ 21 (zu (zu (τ 21) 7 k) 9 1)) 27 (zu (τ 27) 0 w)))) rfl (by show (0 ≤ 0 ∧ 0 < ((6 : Nat) : Int)) ∧ (0 = 1 → 0 ≤ w ∧ w < 65536); omega) ?_
  refine ex_k 5 (P := some ((0 ≤ 1 ∧ 1 < ((6 : Nat) : Int)) ∧ (0 = 1 → 0 ≤ d ∧ d < 65536))) (g := (cod m8_refuseFor 16, [some (.inl 21), some (.inr k), some (.inr w), some (.inr d), some (.inr w2), some (.inr d2)], [], (zr (zr (zr τ 21 (zu (zu (τ 21) 7 k) 9 1)) 27 (zu (τ 27) 0 w)) 27 (zu (zu (τ 27) 0 w) 1 d)))) rfl (by show (0 ≤ 1 ∧ 1 < ((6 : Nat) : Int)) ∧ (0 = 1 → 0 ≤ d ∧ d < 65536); omega) ?_
  rw [zr_zr]
  refine ex_k 5 (P := some ((0 ≤ 2 ∧ 2 < ((6 : Nat) : Int)) ∧ (0 = 1 → 0 ≤ w2 ∧ w2 < 65536))) (g := (cod m8_refuseFor 21, [some (.inl 21), some (.inr k), some (.inr w), some (.inr d), some (.inr w2), some (.inr d2)], [], (zr (zr (zr τ 21 (zu (zu (τ 21) 7 k) 9 1)) 27 (zu (zu (τ 27) 0 w) 1 d)) 27 (zu (zu (zu (τ 27) 0 w) 1 d) 2 w2)))) rfl (by show (0 ≤ 2 ∧ 2 < ((6 : Nat) : Int)) ∧ (0 = 1 → 0 ≤ w2 ∧ w2 < 65536); omega) ?_
  rw [zr_zr]
  refine ex_k 5 (P := some ((0 ≤ 3 ∧ 3 < ((6 : Nat) : Int)) ∧ (0 = 1 → 0 ≤ d2 ∧ d2 < 65536))) (g := (cod m8_refuseFor 26, [some (.inl 21), some (.inr k), some (.inr w), some (.inr d), some (.inr w2), some (.inr d2)], [], (zr (zr (zr τ 21 (zu (zu (τ 21) 7 k) 9 1)) 27 (zu (zu (zu (τ 27) 0 w) 1 d) 2 w2)) 27 (zu (zu (zu (zu (τ 27) 0 w) 1 d) 2 w2) 3 d2)))) rfl (by show (0 ≤ 3 ∧ 3 < ((6 : Nat) : Int)) ∧ (0 = 1 → 0 ≤ d2 ∧ d2 < 65536); omega) ?_
  rw [zr_zr]
  refine ex_k 5 (P := some ((0 ≤ 4 ∧ 4 < ((6 : Nat) : Int)) ∧ (0 = 1 → 0 ≤ 0 ∧ 0 < 65536))) (g := (cod m8_refuseFor 31, [some (.inl 21), some (.inr k), some (.inr w), some (.inr d), some (.inr w2), some (.inr d2)], [], (zr (zr (zr τ 21 (zu (zu (τ 21) 7 k) 9 1)) 27 (zu (zu (zu (zu (τ 27) 0 w) 1 d) 2 w2) 3 d2)) 27 (zu (zu (zu (zu (zu (τ 27) 0 w) 1 d) 2 w2) 3 d2) 4 0)))) rfl (by show (0 ≤ 4 ∧ 4 < ((6 : Nat) : Int)) ∧ (0 = 1 → 0 ≤ 0 ∧ 0 < 65536); omega) ?_
  rw [zr_zr]
  refine ex_k 5 (P := some ((0 ≤ 5 ∧ 5 < ((6 : Nat) : Int)) ∧ (0 = 1 → 0 ≤ 0 ∧ 0 < 65536))) (g := (cod m8_refuseFor 36, [some (.inl 21), some (.inr k), some (.inr w), some (.inr d), some (.inr w2), some (.inr d2)], [], (zr (zr (zr τ 21 (zu (zu (τ 21) 7 k) 9 1)) 27 (zu (zu (zu (zu (zu (τ 27) 0 w) 1 d) 2 w2) 3 d2) 4 0)) 27 (zu (zu (zu (zu (zu (zu (τ 27) 0 w) 1 d) 2 w2) 3 d2) 4 0) 5 0)))) rfl (by show (0 ≤ 5 ∧ 5 < ((6 : Nat) : Int)) ∧ (0 = 1 → 0 ≤ 0 ∧ 0 < 65536); omega) ?_
  rw [zr_zr]
  refine ex_k 1 (P := none) (g := (cod m8_refuseFor 37, [some (.inl 21), some (.inr k), some (.inr w), some (.inr d), some (.inr w2), some (.inr d2)], [.inr 0], (zr (zr τ 21 (zu (zu (τ 21) 7 k) 9 1)) 27 (zu (zu (zu (zu (zu (zu (τ 27) 0 w) 1 d) 2 w2) 3 d2) 4 0) 5 0)))) rfl trivial ?_
  exact ex_r rfl trivial rfl (rfl)
theorem m_refuse {k w d : Int} {τ : SZ} : RZ 2 m8_refuse [.inl 21, .inr k, .inr w, .inr d] τ (.inl (some (.inr 0), rf τ k w d 0 0)) := by
  refine Ex.call ?_ rfl rfl
  show Ex _ _ (cod m8_refuse 0, [some (.inl 21), some (.inr k), some (.inr w), some (.inr d)], [], τ) _ _
  refine ex_k 6 (P := none) (g := (cod m8_refuse 6, [some (.inl 21), some (.inr k), some (.inr w), some (.inr d)], [.inr 0, .inr 0, .inr d, .inr w, .inr k, .inl 21], τ)) rfl trivial ?_
  refine ex_c (m_refuseFor (τ := τ) (k := k) (w := w) (d := d) (w2 := 0) (d2 := 0)) (is := cod m8_refuse 7) (L := [some (.inl 21), some (.inr k), some (.inr w), some (.inr d)]) (st := []) rfl rfl rfl ?_
  show Ex _ _ (cod m8_refuse 7, [some (.inl 21), some (.inr k), some (.inr w), some (.inr d)], [.inr 0], rf τ k w d 0 0) _ _
  exact ex_r rfl trivial rfl (rfl)
theorem m_sets {f w v : Int} {τ : SZ} (hf : 0 ≤ f ∧ f < 8) (hw : 0 ≤ w ∧ w < 6) : RZ 1 m8_sets [.inl 21, .inr f, .inr w, .inr v] τ (.inl (none, zr τ 22 (zu (τ 22) ((61 + 6 * f) + w).toNat v))) := by
  refine Ex.call ?_ rfl rfl
  show Ex _ _ (cod m8_sets 0, [some (.inl 21), some (.inr f), some (.inr w), some (.inr v)], [], τ) _ _
  refine ex_k 11 (P := some ((0 ≤ ((61 + (6 * f)) + w) ∧ ((61 + (6 * f)) + w) < ((109 : Nat) : Int)) ∧ (0 = 1 → 0 ≤ v ∧ v < 65536))) (g := (cod m8_sets 11, [some (.inl 21), some (.inr f), some (.inr w), some (.inr v)], [], (zr τ 22 (zu (τ 22) ((61 + (6 * f)) + w).toNat v)))) rfl (by show (0 ≤ ((61 + (6 * f)) + w) ∧ ((61 + (6 * f)) + w) < ((109 : Nat) : Int)) ∧ (0 = 1 → 0 ≤ v ∧ v < 65536); omega) ?_
  exact ex_r rfl rfl rfl (rfl)
theorem m_setsOn {r k v : Int} {τ : SZ} (hr : 0 ≤ r ∧ r < 2) (hk : 0 ≤ k ∧ k < 26) : RZ 1 m8_setsOn [.inl 21, .inr r, .inr k, .inr v] τ (.inl (none, zr τ 22 (zu (τ 22) ((9 + 26 * r) + k).toNat v))) := by
  refine Ex.call ?_ rfl rfl
  show Ex _ _ (cod m8_setsOn 0, [some (.inl 21), some (.inr r), some (.inr k), some (.inr v)], [], τ) _ _
  refine ex_k 11 (P := some ((0 ≤ ((9 + (26 * r)) + k) ∧ ((9 + (26 * r)) + k) < ((109 : Nat) : Int)) ∧ (0 = 1 → 0 ≤ v ∧ v < 65536))) (g := (cod m8_setsOn 11, [some (.inl 21), some (.inr r), some (.inr k), some (.inr v)], [], (zr τ 22 (zu (τ 22) ((9 + (26 * r)) + k).toNat v)))) rfl (by show (0 ≤ ((9 + (26 * r)) + k) ∧ ((9 + (26 * r)) + k) < ((109 : Nat) : Int)) ∧ (0 = 1 → 0 ≤ v ∧ v < 65536); omega) ?_
  exact ex_r rfl rfl rfl (rfl)
theorem Rg.ext' {L L' i : Int} {c s : Nat → Int} (h : Rg L c s) (hL : 61 ≤ L ∧ L < 109) {v : Int} (hi : i = L) (hl : L' = L + 1) : Rg L' (sce c (i - 61) v) (zu s i.toNat v) := by
  subst hi
  subst hl
  have q := h.ext hL (v := v)
  rw [oc_f hL.1] at q
  exact q
theorem Rg.scf {L i : Int} {c s : Nat → Int} (h : Rg L c s) (hL : L ≤ 109) {v : Int} (hi : 61 ≤ i ∧ i < 109) : Rg L (sce c (i - 61) v) (zu s i.toNat v) := by
  have q := h.sc hL (i := i) (v := v) (by omega) (by omega)
  rw [oc_f hi.1] at q
  exact q
theorem Rs.kput {B : Int} {c s : Nat → Int} (hI : Iv B c) (h : Rs c s) {x p q : Int} (hn8 : cel c 107 < 8) (hp : 0 ≤ p ∧ p < 12) (hq : 0 ≤ q ∧ q < 12) (f0 : cel c (48 + 0 * 12 + p) = -1) (f1 : cel c (48 + 1 * 12 + q) = -1) : Rs (adf c x p q) (zu (zu (zu (zu (zu (zu (zu (zu (zu (zu (zu s ((61 + 6 * (cel c 107)) + 0).toNat 0) ((61 + 6 * (cel c 107)) + 1).toNat 0) ((61 + 6 * (cel c 107)) + 2).toNat 0) ((61 + 6 * (cel c 107)) + 3).toNat 0) ((61 + 6 * (cel c 107)) + 4).toNat 0) ((61 + 6 * (cel c 107)) + 5).toNat 0) ((61 + 6 * (cel c 107)) + 0).toNat x) ((61 + 6 * (cel c 107)) + 1).toNat p) ((61 + 6 * (cel c 107)) + 2).toNat q) 0 ((zu (zu (zu (zu (zu (zu (zu (zu (zu s ((61 + 6 * (cel c 107)) + 0).toNat 0) ((61 + 6 * (cel c 107)) + 1).toNat 0) ((61 + 6 * (cel c 107)) + 2).toNat 0) ((61 + 6 * (cel c 107)) + 3).toNat 0) ((61 + 6 * (cel c 107)) + 4).toNat 0) ((61 + 6 * (cel c 107)) + 5).toNat 0) ((61 + 6 * (cel c 107)) + 0).toNat x) ((61 + 6 * (cel c 107)) + 1).toNat p) ((61 + 6 * (cel c 107)) + 2).toNat q) 0 + 1)) 8 ((zu (zu (zu (zu (zu (zu (zu (zu (zu s ((61 + 6 * (cel c 107)) + 0).toNat 0) ((61 + 6 * (cel c 107)) + 1).toNat 0) ((61 + 6 * (cel c 107)) + 2).toNat 0) ((61 + 6 * (cel c 107)) + 3).toNat 0) ((61 + 6 * (cel c 107)) + 4).toNat 0) ((61 + 6 * (cel c 107)) + 5).toNat 0) ((61 + 6 * (cel c 107)) + 0).toNat x) ((61 + 6 * (cel c 107)) + 1).toNat p) ((61 + 6 * (cel c 107)) + 2).toNat q) 8 + 1)) := by
  have hn := hI.1.n
  have g0 := Rg.of h
  have g1 := g0.ext' (i := 61 + 6 * (cel c 107) + 0) (v := 0) (by omega) (by omega) (L' := 61 + 6 * (cel c 107) + 1) (by omega)
  have g2 := g1.ext' (i := 61 + 6 * (cel c 107) + 1) (v := 0) (by omega) (by omega) (L' := 61 + 6 * (cel c 107) + 2) (by omega)
  have g3 := g2.ext' (i := 61 + 6 * (cel c 107) + 2) (v := 0) (by omega) (by omega) (L' := 61 + 6 * (cel c 107) + 3) (by omega)
  have g4 := g3.ext' (i := 61 + 6 * (cel c 107) + 3) (v := 0) (by omega) (by omega) (L' := 61 + 6 * (cel c 107) + 4) (by omega)
  have g5 := g4.ext' (i := 61 + 6 * (cel c 107) + 4) (v := 0) (by omega) (by omega) (L' := 61 + 6 * (cel c 107) + 5) (by omega)
  have g6 := g5.ext' (i := 61 + 6 * (cel c 107) + 5) (v := 0) (by omega) (by omega) (L' := 61 + 6 * (cel c 107) + 6) (by omega)
  have g7 := g6.scf (by omega) (i := 61 + 6 * (cel c 107) + 0) (v := x) (by omega)
  have g8 := g7.scf (by omega) (i := 61 + 6 * (cel c 107) + 1) (v := p) (by omega)
  have g9 := g8.scf (by omega) (i := 61 + 6 * (cel c 107) + 2) (v := q) (by omega)
  have e0 : (zu (zu (zu (zu (zu (zu (zu (zu (zu s ((61 + 6 * (cel c 107)) + 0).toNat 0) ((61 + 6 * (cel c 107)) + 1).toNat 0) ((61 + 6 * (cel c 107)) + 2).toNat 0) ((61 + 6 * (cel c 107)) + 3).toNat 0) ((61 + 6 * (cel c 107)) + 4).toNat 0) ((61 + 6 * (cel c 107)) + 5).toNat 0) ((61 + 6 * (cel c 107)) + 0).toNat x) ((61 + 6 * (cel c 107)) + 1).toNat p) ((61 + 6 * (cel c 107)) + 2).toNat q) 0 = cel c 107 := by
    have a := g9.1 0 (by omega) (by omega)
    rw [ob_n (by omega), show oc 0 = 107 from rfl] at a
    refine a.trans ?_
    repeat rw [cel_ne (by omega)]
  have e8 : (zu (zu (zu (zu (zu (zu (zu (zu (zu s ((61 + 6 * (cel c 107)) + 0).toNat 0) ((61 + 6 * (cel c 107)) + 1).toNat 0) ((61 + 6 * (cel c 107)) + 2).toNat 0) ((61 + 6 * (cel c 107)) + 3).toNat 0) ((61 + 6 * (cel c 107)) + 4).toNat 0) ((61 + 6 * (cel c 107)) + 5).toNat 0) ((61 + 6 * (cel c 107)) + 0).toNat x) ((61 + 6 * (cel c 107)) + 1).toNat p) ((61 + 6 * (cel c 107)) + 2).toNat q) 8 = cel c 106 := by
    have a := g9.1 8 (by omega) (by omega)
    rw [ob_n (by omega), show oc 8 = 106 from rfl] at a
    refine a.trans ?_
    repeat rw [cel_ne (by omega)]
  rw [e0, e8]
  have g10 := g9.sc (by omega) (i := 0) (v := cel c 107 + 1) (by omega) (by omega)
  have g11 := g10.sc (by omega) (i := 8) (v := cel c 106 + 1) (by omega) (by omega)
  have A : ∀ y, cel (adf c x p q) y = _ := fun y => cel_adf (x := x) (y := y) ⟨hn.1, hn8⟩ hp hq
  refine Rg.rs ?_
  rw [A 107, if_neg (by omega), if_pos rfl]
  refine Rg.eo (g11.mono (by omega)) (fun y h0 h1 => ?_)
  have E : ∀ (d : Nat → Int) (z v y : Int), 0 ≤ z ∧ z < 109 → cel (sce d z v) y = if y = z then v else cel d y := by
    intro d z v y hz
    rw [cel_sce]
    by_cases h : y = z
    · rw [if_pos ⟨h.symm, hz⟩, if_pos h]
    · rw [if_neg (fun w => h w.1.symm), if_neg h]
  rw [show oc 0 = 107 from rfl, show oc 8 = 106 from rfl]
  have ho := oc_in (i := y) h0 (by omega)
  rw [A (oc y)]
  by_cases y1 : oc y = 106
  · rw [if_pos y1, y1, E _ _ _ _ (by omega), if_pos rfl]; exact Or.inl rfl
  · rw [if_neg y1, E _ _ _ _ (by omega), if_neg y1]
    by_cases y2 : oc y = 107
    · rw [if_pos y2, E _ _ _ _ (by omega), if_pos y2]; exact Or.inl rfl
    · rw [if_neg y2, E _ _ _ _ (by omega), if_neg y2]
      rw [E _ _ _ _ (by omega), E _ _ _ _ (by omega), E _ _ _ _ (by omega), E _ _ _ _ (by omega), E _ _ _ _ (by omega), E _ _ _ _ (by omega), E _ _ _ _ (by omega), E _ _ _ _ (by omega), E _ _ _ _ (by omega)]
      by_cases y3 : oc y = 60 + q
      · rw [if_pos y3]
        refine Or.inr ⟨?_, ?_, ?_, ?_⟩
        · have a := y3; unfold oc at a; repeat (first | omega | split at a)
        · have a := y3; unfold oc at a; repeat (first | omega | split at a)
        · have a := y3; unfold oc at a; repeat (first | omega | split at a)
        · rw [y3]
          repeat rw [if_neg (by omega)]
          rw [show 60 + q = 48 + 1 * 12 + q from by omega, f1]
          omega
      · rw [if_neg y3]
        by_cases y4 : oc y = 48 + p
        · rw [if_pos y4]
          refine Or.inr ⟨?_, ?_, ?_, ?_⟩
          · have a := y4; unfold oc at a; repeat (first | omega | split at a)
          · have a := y4; unfold oc at a; repeat (first | omega | split at a)
          · have a := y4; unfold oc at a; repeat (first | omega | split at a)
          · rw [y4]
            repeat rw [if_neg (by omega)]
            rw [show 48 + p = 48 + 0 * 12 + p from by omega, f0]
            omega
        · rw [if_neg y4]
          refine Or.inl ?_
          repeat (first | rfl | omega | split)
set_option maxRecDepth 20000 in
theorem m_doFerry {x p q : Int} {τ : SZ} {c : Nat → Int} {B : Int} (hI : Iv B c) (hR : Rs c (τ 22)) (hx : Rng x) (hp : Rng p) (hq : Rng q) : RZq 4 m8_doFerry [.inl 21, .inr x, .inr p, .inr q] τ (Qdo τ (obF c x p q) 1 1 2 (rwF c) (rdF c p q) 0 0 (cel c 107) (adf c x p q)) := by
  have hS := hI.1
  have hC := hI.2.1
  have hN := hS.n
  obtain ⟨hx1, hx2⟩ := hx
  obtain ⟨hp1, hp2⟩ := hp
  obtain ⟨hq1, hq2⟩ := hq
  have h0 := hR.n hN.1
  have hw0 := hS.wh (r := 0) (p := p) (by omega)
  have hw1 := hS.wh (r := 1) (p := q) (by omega)
  have hq0 : (0 ≤ p ∧ p < 12) → whz c 0 p = cel c (48 + 0 * 12 + p) := fun q => by unfold whz; rw [if_pos q]
  have hq1 : (0 ≤ q ∧ q < 12) → whz c 1 q = cel c (48 + 1 * 12 + q) := fun q => by unfold whz; rw [if_pos q]
  refine Exq.call ?_ rfl rfl
  show Exq _ _ (cod m8_doFerry 0, [some (.inl 21), some (.inr x), some (.inr p), some (.inr q), none, none], [], τ) _ _
  refine exq_k 4 (P := some (0 ≤ 0 ∧ 0 < ((109 : Nat) : Int))) (g := (cod m8_doFerry 4, [some (.inl 21), some (.inr x), some (.inr p), some (.inr q), none, none], [.inr ((τ 22) 0)], τ)) rfl (by show 0 ≤ 0 ∧ 0 < ((109 : Nat) : Int); omega) ?_
  refine exq_k 1 (P := none) (g := (cod m8_doFerry 5, [some (.inl 21), some (.inr x), some (.inr p), some (.inr q), some (.inr ((τ 22) 0)), none], [], τ)) rfl trivial ?_
  rw [show τ 22 0 = cel c 107 from h0]
  refine exq_k 1 (P := none) (g := (cod m8_doFerry 6, [some (.inl 21), some (.inr x), some (.inr p), some (.inr q), some (.inr (cel c 107)), none], [.inr x], τ)) rfl trivial ?_
  refine exq_c (m_isRiver (τ := τ) (v := x) ⟨by omega, by omega⟩) (is := cod m8_doFerry 7) (L := [some (.inl 21), some (.inr x), some (.inr p), some (.inr q), some (.inr (cel c 107)), none]) (st := []) rfl rfl rfl ?_
  show Exq _ _ (cod m8_doFerry 7, [some (.inl 21), some (.inr x), some (.inr p), some (.inr q), some (.inr (cel c 107)), none], [.inr (b2 (0 ≤ x ∧ x < 2))], τ) _ _
  refine exq_b (P := (b2 (0 ≤ x ∧ x < 2)) = 0) (ct := (cod m8_doFerry 14, [some (.inl 21), some (.inr x), some (.inr p), some (.inr q), some (.inr (cel c 107)), none], [], τ)) (cf := (cod m8_doFerry 8, [some (.inl 21), some (.inr x), some (.inr p), some (.inr q), some (.inr (cel c 107)), none], [], τ)) rfl b2_rng (fun h1 => ?_) (fun h1 => ?_)
  · first
    | (exfalso; have h1 := b2_e0 h1; omega)
    | (
        have h1 := b2_e0 h1
        refine exq_k 2 (P := none) (g := (cod m8_doFerry 16, [some (.inl 21), some (.inr x), some (.inr p), some (.inr q), some (.inr (cel c 107)), none], [.inr 1, .inl 21], τ)) rfl trivial ?_
        refine exq_c (m_fails (τ := τ) (k := 1)) (is := cod m8_doFerry 17) (L := [some (.inl 21), some (.inr x), some (.inr p), some (.inr q), some (.inr (cel c 107)), none]) (st := []) rfl rfl rfl ?_
        show Exq _ _ (cod m8_doFerry 17, [some (.inl 21), some (.inr x), some (.inr p), some (.inr q), some (.inr (cel c 107)), none], [.inr 0], (zr τ 21 (zu (τ 21) 7 1))) _ _
        exact exq_r rfl trivial rfl (qd2 (by unfold obF; (repeat (first | rw [if_pos (by omega)] | rw [if_neg (by omega)])); first | done | rfl | omega)))
  · first
    | (exfalso; have h1 := b2_n0 h1; omega)
    | (
        have h1 := b2_n0 h1
        refine exq_k 1 (P := none) (g := (cod m8_doFerry 9, [some (.inl 21), some (.inr x), some (.inr p), some (.inr q), some (.inr (cel c 107)), none], [.inr p], τ)) rfl trivial ?_
        refine exq_c (m_isPlace (τ := τ) (v := p) ⟨by omega, by omega⟩) (is := cod m8_doFerry 10) (L := [some (.inl 21), some (.inr x), some (.inr p), some (.inr q), some (.inr (cel c 107)), none]) (st := []) rfl rfl rfl ?_
        show Exq _ _ (cod m8_doFerry 10, [some (.inl 21), some (.inr x), some (.inr p), some (.inr q), some (.inr (cel c 107)), none], [.inr (b2 (0 ≤ p ∧ p < 12))], τ) _ _
        refine exq_b (P := (b2 (0 ≤ p ∧ p < 12)) = 0) (ct := (cod m8_doFerry 14, [some (.inl 21), some (.inr x), some (.inr p), some (.inr q), some (.inr (cel c 107)), none], [], τ)) (cf := (cod m8_doFerry 11, [some (.inl 21), some (.inr x), some (.inr p), some (.inr q), some (.inr (cel c 107)), none], [], τ)) rfl b2_rng (fun h2 => ?_) (fun h2 => ?_)
        · first
          | (exfalso; have h2 := b2_e0 h2; omega)
          | (
              have h2 := b2_e0 h2
              refine exq_k 2 (P := none) (g := (cod m8_doFerry 16, [some (.inl 21), some (.inr x), some (.inr p), some (.inr q), some (.inr (cel c 107)), none], [.inr 1, .inl 21], τ)) rfl trivial ?_
              refine exq_c (m_fails (τ := τ) (k := 1)) (is := cod m8_doFerry 17) (L := [some (.inl 21), some (.inr x), some (.inr p), some (.inr q), some (.inr (cel c 107)), none]) (st := []) rfl rfl rfl ?_
              show Exq _ _ (cod m8_doFerry 17, [some (.inl 21), some (.inr x), some (.inr p), some (.inr q), some (.inr (cel c 107)), none], [.inr 0], (zr τ 21 (zu (τ 21) 7 1))) _ _
              exact exq_r rfl trivial rfl (qd2 (by unfold obF; (repeat (first | rw [if_pos (by omega)] | rw [if_neg (by omega)])); first | done | rfl | omega)))
        · first
          | (exfalso; have h2 := b2_n0 h2; omega)
          | (
              have h2 := b2_n0 h2
              refine exq_k 1 (P := none) (g := (cod m8_doFerry 12, [some (.inl 21), some (.inr x), some (.inr p), some (.inr q), some (.inr (cel c 107)), none], [.inr q], τ)) rfl trivial ?_
              refine exq_c (m_isPlace (τ := τ) (v := q) ⟨by omega, by omega⟩) (is := cod m8_doFerry 13) (L := [some (.inl 21), some (.inr x), some (.inr p), some (.inr q), some (.inr (cel c 107)), none]) (st := []) rfl rfl rfl ?_
              show Exq _ _ (cod m8_doFerry 13, [some (.inl 21), some (.inr x), some (.inr p), some (.inr q), some (.inr (cel c 107)), none], [.inr (b2 (0 ≤ q ∧ q < 12))], τ) _ _
              refine exq_b (P := ¬ (b2 (0 ≤ q ∧ q < 12)) = 0) (ct := (cod m8_doFerry 18, [some (.inl 21), some (.inr x), some (.inr p), some (.inr q), some (.inr (cel c 107)), none], [], τ)) (cf := (cod m8_doFerry 14, [some (.inl 21), some (.inr x), some (.inr p), some (.inr q), some (.inr (cel c 107)), none], [], τ)) rfl b2_rng (fun h3 => ?_) (fun h3 => ?_)
              · first
                | (exfalso; have h3 := b2_n0 h3; omega)
                | (
                    have h3 := b2_n0 h3
                    refine exq_k 2 (P := none) (g := (cod m8_doFerry 20, [some (.inl 21), some (.inr x), some (.inr p), some (.inr q), some (.inr (cel c 107)), none], [.inr 8, .inr (cel c 107)], τ)) rfl trivial ?_
                    refine exq_b (P := ¬ (cel c 107) = 8) (ct := (cod m8_doFerry 27, [some (.inl 21), some (.inr x), some (.inr p), some (.inr q), some (.inr (cel c 107)), none], [], τ)) (cf := (cod m8_doFerry 21, [some (.inl 21), some (.inr x), some (.inr p), some (.inr q), some (.inr (cel c 107)), none], [], τ)) rfl ⟨⟨by omega, by omega⟩, ⟨by decide, by decide⟩⟩ (fun h4 => ?_) (fun h4 => ?_)
                    · first
                      | (exfalso; omega)
                      | (
                          refine exq_k 3 (P := none) (g := (cod m8_doFerry 30, [some (.inl 21), some (.inr x), some (.inr p), some (.inr q), some (.inr (cel c 107)), none], [.inr p, .inr 0, .inl 21], τ)) rfl trivial ?_
                          refine exq_c (m_there (τ := τ) (r := 0) (p := p) hI hR (by omega) (by omega)) (is := cod m8_doFerry 31) (L := [some (.inl 21), some (.inr x), some (.inr p), some (.inr q), some (.inr (cel c 107)), none]) (st := []) rfl rfl rfl ?_
                          show Exq _ _ (cod m8_doFerry 31, [some (.inl 21), some (.inr x), some (.inr p), some (.inr q), some (.inr (cel c 107)), none], [.inr (whz c 0 p)], τ) _ _
                          refine exq_b (P := 0 ≤ (whz c 0 p)) (ct := (cod m8_doFerry 37, [some (.inl 21), some (.inr x), some (.inr p), some (.inr q), some (.inr (cel c 107)), none], [], τ)) (cf := (cod m8_doFerry 32, [some (.inl 21), some (.inr x), some (.inr p), some (.inr q), some (.inr (cel c 107)), none], [], τ)) rfl ⟨by omega, by omega⟩ (fun h5 => ?_) (fun h5 => ?_)
                          · first
                            | (exfalso; omega)
                            | (
                                refine exq_k 6 (P := none) (g := (cod m8_doFerry 43, [some (.inl 21), some (.inr x), some (.inr p), some (.inr q), some (.inr (cel c 107)), none], [.inr p, .inr 0, .inl 21, .inr 2, .inr 2, .inl 21], τ)) rfl trivial ?_
                                refine exq_c (m_there (τ := τ) (r := 0) (p := p) hI hR (by omega) (by omega)) (is := cod m8_doFerry 44) (L := [some (.inl 21), some (.inr x), some (.inr p), some (.inr q), some (.inr (cel c 107)), none]) (st := [.inr 2, .inr 2, .inl 21]) rfl rfl rfl ?_
                                show Exq _ _ (cod m8_doFerry 44, [some (.inl 21), some (.inr x), some (.inr p), some (.inr q), some (.inr (cel c 107)), none], [.inr (whz c 0 p), .inr 2, .inr 2, .inl 21], τ) _ _
                                refine exq_b (P := (whz c 0 p) < 0) (ct := (cod m8_doFerry 47, [some (.inl 21), some (.inr x), some (.inr p), some (.inr q), some (.inr (cel c 107)), none], [.inr 2, .inr 2, .inl 21], τ)) (cf := (cod m8_doFerry 45, [some (.inl 21), some (.inr x), some (.inr p), some (.inr q), some (.inr (cel c 107)), none], [.inr 2, .inr 2, .inl 21], τ)) rfl ⟨by omega, by omega⟩ (fun h6 => ?_) (fun h6 => ?_)
                                · first
                                  | (exfalso; omega)
                                  | (
                                      refine exq_k 1 (P := none) (g := (cod m8_doFerry 48, [some (.inl 21), some (.inr x), some (.inr p), some (.inr q), some (.inr (cel c 107)), none], [.inr q, .inr 2, .inr 2, .inl 21], τ)) rfl trivial ?_
                                      refine exq_c (m_refuse (τ := τ) (k := 2) (w := 2) (d := q)) (is := cod m8_doFerry 49) (L := [some (.inl 21), some (.inr x), some (.inr p), some (.inr q), some (.inr (cel c 107)), none]) (st := []) rfl rfl rfl ?_
                                      show Exq _ _ (cod m8_doFerry 49, [some (.inl 21), some (.inr x), some (.inr p), some (.inr q), some (.inr (cel c 107)), none], [.inr 0], rf τ 2 2 q 0 0) _ _
                                      exact exq_r rfl trivial rfl (qd3 (by unfold obF; (repeat (first | rw [if_pos (by omega)] | rw [if_neg (by omega)])); first | done | rfl | omega) (by unfold rwF; (repeat (first | rw [if_pos (by omega)] | rw [if_neg (by omega)])); first | done | rfl) (by unfold rdF; (repeat (first | rw [if_pos (by omega)] | rw [if_neg (by omega)])); first | done | rfl)))
                                · first
                                  | (exfalso; omega)
                                  | (
                                      refine exq_k 2 (P := none) (g := (cod m8_doFerry 48, [some (.inl 21), some (.inr x), some (.inr p), some (.inr q), some (.inr (cel c 107)), none], [.inr p, .inr 2, .inr 2, .inl 21], τ)) rfl trivial ?_
                                      refine exq_c (m_refuse (τ := τ) (k := 2) (w := 2) (d := p)) (is := cod m8_doFerry 49) (L := [some (.inl 21), some (.inr x), some (.inr p), some (.inr q), some (.inr (cel c 107)), none]) (st := []) rfl rfl rfl ?_
                                      show Exq _ _ (cod m8_doFerry 49, [some (.inl 21), some (.inr x), some (.inr p), some (.inr q), some (.inr (cel c 107)), none], [.inr 0], rf τ 2 2 p 0 0) _ _
                                      exact exq_r rfl trivial rfl (qd3 (by unfold obF; (repeat (first | rw [if_pos (by omega)] | rw [if_neg (by omega)])); first | done | rfl | omega) (by unfold rwF; (repeat (first | rw [if_pos (by omega)] | rw [if_neg (by omega)])); first | done | rfl) (by unfold rdF; (repeat (first | rw [if_pos (by omega)] | rw [if_neg (by omega)])); first | done | rfl))))
                          · first
                            | (exfalso; omega)
                            | (
                                refine exq_k 3 (P := none) (g := (cod m8_doFerry 35, [some (.inl 21), some (.inr x), some (.inr p), some (.inr q), some (.inr (cel c 107)), none], [.inr q, .inr 1, .inl 21], τ)) rfl trivial ?_
                                refine exq_c (m_there (τ := τ) (r := 1) (p := q) hI hR (by omega) (by omega)) (is := cod m8_doFerry 36) (L := [some (.inl 21), some (.inr x), some (.inr p), some (.inr q), some (.inr (cel c 107)), none]) (st := []) rfl rfl rfl ?_
                                show Exq _ _ (cod m8_doFerry 36, [some (.inl 21), some (.inr x), some (.inr p), some (.inr q), some (.inr (cel c 107)), none], [.inr (whz c 1 q)], τ) _ _
                                refine exq_b (P := (whz c 1 q) < 0) (ct := (cod m8_doFerry 50, [some (.inl 21), some (.inr x), some (.inr p), some (.inr q), some (.inr (cel c 107)), none], [], τ)) (cf := (cod m8_doFerry 37, [some (.inl 21), some (.inr x), some (.inr p), some (.inr q), some (.inr (cel c 107)), none], [], τ)) rfl ⟨by omega, by omega⟩ (fun h7 => ?_) (fun h7 => ?_)
                                · first
                                  | (exfalso; omega)
                                  | (
                                      refine exq_k 4 (P := none) (g := (cod m8_doFerry 54, [some (.inl 21), some (.inr x), some (.inr p), some (.inr q), some (.inr (cel c 107)), some (.inr 0)], [.inr 6, .inr 0], τ)) rfl trivial ?_
                                      refine exq_b (P := 6 ≤ 0) (ct := (cod m8_doFerry 62, [some (.inl 21), some (.inr x), some (.inr p), some (.inr q), some (.inr (cel c 107)), some (.inr 0)], [], τ)) (cf := (cod m8_doFerry 55, [some (.inl 21), some (.inr x), some (.inr p), some (.inr q), some (.inr (cel c 107)), some (.inr 0)], [], τ)) rfl ⟨⟨by decide, by decide⟩, ⟨by decide, by decide⟩⟩ (fun hh => absurd hh (by decide)) (fun _ => ?_)
                                      refine exq_k 4 (P := none) (g := (cod m8_doFerry 59, [some (.inl 21), some (.inr x), some (.inr p), some (.inr q), some (.inr (cel c 107)), some (.inr 0)], [.inr 0, .inr 0, .inr (cel c 107), .inl 21], τ)) rfl trivial ?_
                                      refine exq_c (m_sets (τ := τ) (f := cel c 107) (w := 0) (v := 0) (by omega) (by omega)) (is := cod m8_doFerry 60) (L := [some (.inl 21), some (.inr x), some (.inr p), some (.inr q), some (.inr (cel c 107)), some (.inr 0)]) (st := []) rfl rfl rfl ?_
                                      show Exq _ _ (cod m8_doFerry 60, [some (.inl 21), some (.inr x), some (.inr p), some (.inr q), some (.inr (cel c 107)), some (.inr 0)], [], (zr τ 22 (zu (τ 22) ((61 + 6 * (cel c 107)) + 0).toNat 0))) _ _
                                      refine exq_k 4 (P := none) (g := (cod m8_doFerry 54, [some (.inl 21), some (.inr x), some (.inr p), some (.inr q), some (.inr (cel c 107)), some (.inr 1)], [.inr 6, .inr 1], (zr τ 22 (zu (τ 22) ((61 + 6 * (cel c 107)) + 0).toNat 0)))) rfl trivial ?_
                                      refine exq_b (P := 6 ≤ 1) (ct := (cod m8_doFerry 62, [some (.inl 21), some (.inr x), some (.inr p), some (.inr q), some (.inr (cel c 107)), some (.inr 1)], [], (zr τ 22 (zu (τ 22) ((61 + 6 * (cel c 107)) + 0).toNat 0)))) (cf := (cod m8_doFerry 55, [some (.inl 21), some (.inr x), some (.inr p), some (.inr q), some (.inr (cel c 107)), some (.inr 1)], [], (zr τ 22 (zu (τ 22) ((61 + 6 * (cel c 107)) + 0).toNat 0)))) rfl ⟨⟨by decide, by decide⟩, ⟨by decide, by decide⟩⟩ (fun hh => absurd hh (by decide)) (fun _ => ?_)
                                      refine exq_k 4 (P := none) (g := (cod m8_doFerry 59, [some (.inl 21), some (.inr x), some (.inr p), some (.inr q), some (.inr (cel c 107)), some (.inr 1)], [.inr 0, .inr 1, .inr (cel c 107), .inl 21], (zr τ 22 (zu (τ 22) ((61 + 6 * (cel c 107)) + 0).toNat 0)))) rfl trivial ?_
                                      refine exq_c (m_sets (τ := (zr τ 22 (zu (τ 22) ((61 + 6 * (cel c 107)) + 0).toNat 0))) (f := cel c 107) (w := 1) (v := 0) (by omega) (by omega)) (is := cod m8_doFerry 60) (L := [some (.inl 21), some (.inr x), some (.inr p), some (.inr q), some (.inr (cel c 107)), some (.inr 1)]) (st := []) rfl rfl rfl ?_
                                      show Exq _ _ (cod m8_doFerry 60, [some (.inl 21), some (.inr x), some (.inr p), some (.inr q), some (.inr (cel c 107)), some (.inr 1)], [], (zr (zr τ 22 (zu (τ 22) ((61 + 6 * (cel c 107)) + 0).toNat 0)) 22 (zu (zu (τ 22) ((61 + 6 * (cel c 107)) + 0).toNat 0) ((61 + 6 * (cel c 107)) + 1).toNat 0))) _ _
                                      rw [zr_zr]
                                      refine exq_k 4 (P := none) (g := (cod m8_doFerry 54, [some (.inl 21), some (.inr x), some (.inr p), some (.inr q), some (.inr (cel c 107)), some (.inr 2)], [.inr 6, .inr 2], (zr τ 22 (zu (zu (τ 22) ((61 + 6 * (cel c 107)) + 0).toNat 0) ((61 + 6 * (cel c 107)) + 1).toNat 0)))) rfl trivial ?_
                                      refine exq_b (P := 6 ≤ 2) (ct := (cod m8_doFerry 62, [some (.inl 21), some (.inr x), some (.inr p), some (.inr q), some (.inr (cel c 107)), some (.inr 2)], [], (zr τ 22 (zu (zu (τ 22) ((61 + 6 * (cel c 107)) + 0).toNat 0) ((61 + 6 * (cel c 107)) + 1).toNat 0)))) (cf := (cod m8_doFerry 55, [some (.inl 21), some (.inr x), some (.inr p), some (.inr q), some (.inr (cel c 107)), some (.inr 2)], [], (zr τ 22 (zu (zu (τ 22) ((61 + 6 * (cel c 107)) + 0).toNat 0) ((61 + 6 * (cel c 107)) + 1).toNat 0)))) rfl ⟨⟨by decide, by decide⟩, ⟨by decide, by decide⟩⟩ (fun hh => absurd hh (by decide)) (fun _ => ?_)
                                      refine exq_k 4 (P := none) (g := (cod m8_doFerry 59, [some (.inl 21), some (.inr x), some (.inr p), some (.inr q), some (.inr (cel c 107)), some (.inr 2)], [.inr 0, .inr 2, .inr (cel c 107), .inl 21], (zr τ 22 (zu (zu (τ 22) ((61 + 6 * (cel c 107)) + 0).toNat 0) ((61 + 6 * (cel c 107)) + 1).toNat 0)))) rfl trivial ?_
                                      refine exq_c (m_sets (τ := (zr τ 22 (zu (zu (τ 22) ((61 + 6 * (cel c 107)) + 0).toNat 0) ((61 + 6 * (cel c 107)) + 1).toNat 0))) (f := cel c 107) (w := 2) (v := 0) (by omega) (by omega)) (is := cod m8_doFerry 60) (L := [some (.inl 21), some (.inr x), some (.inr p), some (.inr q), some (.inr (cel c 107)), some (.inr 2)]) (st := []) rfl rfl rfl ?_
                                      show Exq _ _ (cod m8_doFerry 60, [some (.inl 21), some (.inr x), some (.inr p), some (.inr q), some (.inr (cel c 107)), some (.inr 2)], [], (zr (zr τ 22 (zu (zu (τ 22) ((61 + 6 * (cel c 107)) + 0).toNat 0) ((61 + 6 * (cel c 107)) + 1).toNat 0)) 22 (zu (zu (zu (τ 22) ((61 + 6 * (cel c 107)) + 0).toNat 0) ((61 + 6 * (cel c 107)) + 1).toNat 0) ((61 + 6 * (cel c 107)) + 2).toNat 0))) _ _
                                      rw [zr_zr]
                                      refine exq_k 4 (P := none) (g := (cod m8_doFerry 54, [some (.inl 21), some (.inr x), some (.inr p), some (.inr q), some (.inr (cel c 107)), some (.inr 3)], [.inr 6, .inr 3], (zr τ 22 (zu (zu (zu (τ 22) ((61 + 6 * (cel c 107)) + 0).toNat 0) ((61 + 6 * (cel c 107)) + 1).toNat 0) ((61 + 6 * (cel c 107)) + 2).toNat 0)))) rfl trivial ?_
                                      refine exq_b (P := 6 ≤ 3) (ct := (cod m8_doFerry 62, [some (.inl 21), some (.inr x), some (.inr p), some (.inr q), some (.inr (cel c 107)), some (.inr 3)], [], (zr τ 22 (zu (zu (zu (τ 22) ((61 + 6 * (cel c 107)) + 0).toNat 0) ((61 + 6 * (cel c 107)) + 1).toNat 0) ((61 + 6 * (cel c 107)) + 2).toNat 0)))) (cf := (cod m8_doFerry 55, [some (.inl 21), some (.inr x), some (.inr p), some (.inr q), some (.inr (cel c 107)), some (.inr 3)], [], (zr τ 22 (zu (zu (zu (τ 22) ((61 + 6 * (cel c 107)) + 0).toNat 0) ((61 + 6 * (cel c 107)) + 1).toNat 0) ((61 + 6 * (cel c 107)) + 2).toNat 0)))) rfl ⟨⟨by decide, by decide⟩, ⟨by decide, by decide⟩⟩ (fun hh => absurd hh (by decide)) (fun _ => ?_)
                                      refine exq_k 4 (P := none) (g := (cod m8_doFerry 59, [some (.inl 21), some (.inr x), some (.inr p), some (.inr q), some (.inr (cel c 107)), some (.inr 3)], [.inr 0, .inr 3, .inr (cel c 107), .inl 21], (zr τ 22 (zu (zu (zu (τ 22) ((61 + 6 * (cel c 107)) + 0).toNat 0) ((61 + 6 * (cel c 107)) + 1).toNat 0) ((61 + 6 * (cel c 107)) + 2).toNat 0)))) rfl trivial ?_
                                      refine exq_c (m_sets (τ := (zr τ 22 (zu (zu (zu (τ 22) ((61 + 6 * (cel c 107)) + 0).toNat 0) ((61 + 6 * (cel c 107)) + 1).toNat 0) ((61 + 6 * (cel c 107)) + 2).toNat 0))) (f := cel c 107) (w := 3) (v := 0) (by omega) (by omega)) (is := cod m8_doFerry 60) (L := [some (.inl 21), some (.inr x), some (.inr p), some (.inr q), some (.inr (cel c 107)), some (.inr 3)]) (st := []) rfl rfl rfl ?_
                                      show Exq _ _ (cod m8_doFerry 60, [some (.inl 21), some (.inr x), some (.inr p), some (.inr q), some (.inr (cel c 107)), some (.inr 3)], [], (zr (zr τ 22 (zu (zu (zu (τ 22) ((61 + 6 * (cel c 107)) + 0).toNat 0) ((61 + 6 * (cel c 107)) + 1).toNat 0) ((61 + 6 * (cel c 107)) + 2).toNat 0)) 22 (zu (zu (zu (zu (τ 22) ((61 + 6 * (cel c 107)) + 0).toNat 0) ((61 + 6 * (cel c 107)) + 1).toNat 0) ((61 + 6 * (cel c 107)) + 2).toNat 0) ((61 + 6 * (cel c 107)) + 3).toNat 0))) _ _
                                      rw [zr_zr]
                                      refine exq_k 4 (P := none) (g := (cod m8_doFerry 54, [some (.inl 21), some (.inr x), some (.inr p), some (.inr q), some (.inr (cel c 107)), some (.inr 4)], [.inr 6, .inr 4], (zr τ 22 (zu (zu (zu (zu (τ 22) ((61 + 6 * (cel c 107)) + 0).toNat 0) ((61 + 6 * (cel c 107)) + 1).toNat 0) ((61 + 6 * (cel c 107)) + 2).toNat 0) ((61 + 6 * (cel c 107)) + 3).toNat 0)))) rfl trivial ?_
                                      refine exq_b (P := 6 ≤ 4) (ct := (cod m8_doFerry 62, [some (.inl 21), some (.inr x), some (.inr p), some (.inr q), some (.inr (cel c 107)), some (.inr 4)], [], (zr τ 22 (zu (zu (zu (zu (τ 22) ((61 + 6 * (cel c 107)) + 0).toNat 0) ((61 + 6 * (cel c 107)) + 1).toNat 0) ((61 + 6 * (cel c 107)) + 2).toNat 0) ((61 + 6 * (cel c 107)) + 3).toNat 0)))) (cf := (cod m8_doFerry 55, [some (.inl 21), some (.inr x), some (.inr p), some (.inr q), some (.inr (cel c 107)), some (.inr 4)], [], (zr τ 22 (zu (zu (zu (zu (τ 22) ((61 + 6 * (cel c 107)) + 0).toNat 0) ((61 + 6 * (cel c 107)) + 1).toNat 0) ((61 + 6 * (cel c 107)) + 2).toNat 0) ((61 + 6 * (cel c 107)) + 3).toNat 0)))) rfl ⟨⟨by decide, by decide⟩, ⟨by decide, by decide⟩⟩ (fun hh => absurd hh (by decide)) (fun _ => ?_)
                                      refine exq_k 4 (P := none) (g := (cod m8_doFerry 59, [some (.inl 21), some (.inr x), some (.inr p), some (.inr q), some (.inr (cel c 107)), some (.inr 4)], [.inr 0, .inr 4, .inr (cel c 107), .inl 21], (zr τ 22 (zu (zu (zu (zu (τ 22) ((61 + 6 * (cel c 107)) + 0).toNat 0) ((61 + 6 * (cel c 107)) + 1).toNat 0) ((61 + 6 * (cel c 107)) + 2).toNat 0) ((61 + 6 * (cel c 107)) + 3).toNat 0)))) rfl trivial ?_
                                      refine exq_c (m_sets (τ := (zr τ 22 (zu (zu (zu (zu (τ 22) ((61 + 6 * (cel c 107)) + 0).toNat 0) ((61 + 6 * (cel c 107)) + 1).toNat 0) ((61 + 6 * (cel c 107)) + 2).toNat 0) ((61 + 6 * (cel c 107)) + 3).toNat 0))) (f := cel c 107) (w := 4) (v := 0) (by omega) (by omega)) (is := cod m8_doFerry 60) (L := [some (.inl 21), some (.inr x), some (.inr p), some (.inr q), some (.inr (cel c 107)), some (.inr 4)]) (st := []) rfl rfl rfl ?_
                                      show Exq _ _ (cod m8_doFerry 60, [some (.inl 21), some (.inr x), some (.inr p), some (.inr q), some (.inr (cel c 107)), some (.inr 4)], [], (zr (zr τ 22 (zu (zu (zu (zu (τ 22) ((61 + 6 * (cel c 107)) + 0).toNat 0) ((61 + 6 * (cel c 107)) + 1).toNat 0) ((61 + 6 * (cel c 107)) + 2).toNat 0) ((61 + 6 * (cel c 107)) + 3).toNat 0)) 22 (zu (zu (zu (zu (zu (τ 22) ((61 + 6 * (cel c 107)) + 0).toNat 0) ((61 + 6 * (cel c 107)) + 1).toNat 0) ((61 + 6 * (cel c 107)) + 2).toNat 0) ((61 + 6 * (cel c 107)) + 3).toNat 0) ((61 + 6 * (cel c 107)) + 4).toNat 0))) _ _
                                      rw [zr_zr]
                                      refine exq_k 4 (P := none) (g := (cod m8_doFerry 54, [some (.inl 21), some (.inr x), some (.inr p), some (.inr q), some (.inr (cel c 107)), some (.inr 5)], [.inr 6, .inr 5], (zr τ 22 (zu (zu (zu (zu (zu (τ 22) ((61 + 6 * (cel c 107)) + 0).toNat 0) ((61 + 6 * (cel c 107)) + 1).toNat 0) ((61 + 6 * (cel c 107)) + 2).toNat 0) ((61 + 6 * (cel c 107)) + 3).toNat 0) ((61 + 6 * (cel c 107)) + 4).toNat 0)))) rfl trivial ?_
                                      refine exq_b (P := 6 ≤ 5) (ct := (cod m8_doFerry 62, [some (.inl 21), some (.inr x), some (.inr p), some (.inr q), some (.inr (cel c 107)), some (.inr 5)], [], (zr τ 22 (zu (zu (zu (zu (zu (τ 22) ((61 + 6 * (cel c 107)) + 0).toNat 0) ((61 + 6 * (cel c 107)) + 1).toNat 0) ((61 + 6 * (cel c 107)) + 2).toNat 0) ((61 + 6 * (cel c 107)) + 3).toNat 0) ((61 + 6 * (cel c 107)) + 4).toNat 0)))) (cf := (cod m8_doFerry 55, [some (.inl 21), some (.inr x), some (.inr p), some (.inr q), some (.inr (cel c 107)), some (.inr 5)], [], (zr τ 22 (zu (zu (zu (zu (zu (τ 22) ((61 + 6 * (cel c 107)) + 0).toNat 0) ((61 + 6 * (cel c 107)) + 1).toNat 0) ((61 + 6 * (cel c 107)) + 2).toNat 0) ((61 + 6 * (cel c 107)) + 3).toNat 0) ((61 + 6 * (cel c 107)) + 4).toNat 0)))) rfl ⟨⟨by decide, by decide⟩, ⟨by decide, by decide⟩⟩ (fun hh => absurd hh (by decide)) (fun _ => ?_)
                                      refine exq_k 4 (P := none) (g := (cod m8_doFerry 59, [some (.inl 21), some (.inr x), some (.inr p), some (.inr q), some (.inr (cel c 107)), some (.inr 5)], [.inr 0, .inr 5, .inr (cel c 107), .inl 21], (zr τ 22 (zu (zu (zu (zu (zu (τ 22) ((61 + 6 * (cel c 107)) + 0).toNat 0) ((61 + 6 * (cel c 107)) + 1).toNat 0) ((61 + 6 * (cel c 107)) + 2).toNat 0) ((61 + 6 * (cel c 107)) + 3).toNat 0) ((61 + 6 * (cel c 107)) + 4).toNat 0)))) rfl trivial ?_
                                      refine exq_c (m_sets (τ := (zr τ 22 (zu (zu (zu (zu (zu (τ 22) ((61 + 6 * (cel c 107)) + 0).toNat 0) ((61 + 6 * (cel c 107)) + 1).toNat 0) ((61 + 6 * (cel c 107)) + 2).toNat 0) ((61 + 6 * (cel c 107)) + 3).toNat 0) ((61 + 6 * (cel c 107)) + 4).toNat 0))) (f := cel c 107) (w := 5) (v := 0) (by omega) (by omega)) (is := cod m8_doFerry 60) (L := [some (.inl 21), some (.inr x), some (.inr p), some (.inr q), some (.inr (cel c 107)), some (.inr 5)]) (st := []) rfl rfl rfl ?_
                                      show Exq _ _ (cod m8_doFerry 60, [some (.inl 21), some (.inr x), some (.inr p), some (.inr q), some (.inr (cel c 107)), some (.inr 5)], [], (zr (zr τ 22 (zu (zu (zu (zu (zu (τ 22) ((61 + 6 * (cel c 107)) + 0).toNat 0) ((61 + 6 * (cel c 107)) + 1).toNat 0) ((61 + 6 * (cel c 107)) + 2).toNat 0) ((61 + 6 * (cel c 107)) + 3).toNat 0) ((61 + 6 * (cel c 107)) + 4).toNat 0)) 22 (zu (zu (zu (zu (zu (zu (τ 22) ((61 + 6 * (cel c 107)) + 0).toNat 0) ((61 + 6 * (cel c 107)) + 1).toNat 0) ((61 + 6 * (cel c 107)) + 2).toNat 0) ((61 + 6 * (cel c 107)) + 3).toNat 0) ((61 + 6 * (cel c 107)) + 4).toNat 0) ((61 + 6 * (cel c 107)) + 5).toNat 0))) _ _
                                      rw [zr_zr]
                                      refine exq_k 4 (P := none) (g := (cod m8_doFerry 54, [some (.inl 21), some (.inr x), some (.inr p), some (.inr q), some (.inr (cel c 107)), some (.inr 6)], [.inr 6, .inr 6], (zr τ 22 (zu (zu (zu (zu (zu (zu (τ 22) ((61 + 6 * (cel c 107)) + 0).toNat 0) ((61 + 6 * (cel c 107)) + 1).toNat 0) ((61 + 6 * (cel c 107)) + 2).toNat 0) ((61 + 6 * (cel c 107)) + 3).toNat 0) ((61 + 6 * (cel c 107)) + 4).toNat 0) ((61 + 6 * (cel c 107)) + 5).toNat 0)))) rfl trivial ?_
                                      refine exq_b (P := 6 ≤ 6) (ct := (cod m8_doFerry 62, [some (.inl 21), some (.inr x), some (.inr p), some (.inr q), some (.inr (cel c 107)), some (.inr 6)], [], (zr τ 22 (zu (zu (zu (zu (zu (zu (τ 22) ((61 + 6 * (cel c 107)) + 0).toNat 0) ((61 + 6 * (cel c 107)) + 1).toNat 0) ((61 + 6 * (cel c 107)) + 2).toNat 0) ((61 + 6 * (cel c 107)) + 3).toNat 0) ((61 + 6 * (cel c 107)) + 4).toNat 0) ((61 + 6 * (cel c 107)) + 5).toNat 0)))) (cf := (cod m8_doFerry 55, [some (.inl 21), some (.inr x), some (.inr p), some (.inr q), some (.inr (cel c 107)), some (.inr 6)], [], (zr τ 22 (zu (zu (zu (zu (zu (zu (τ 22) ((61 + 6 * (cel c 107)) + 0).toNat 0) ((61 + 6 * (cel c 107)) + 1).toNat 0) ((61 + 6 * (cel c 107)) + 2).toNat 0) ((61 + 6 * (cel c 107)) + 3).toNat 0) ((61 + 6 * (cel c 107)) + 4).toNat 0) ((61 + 6 * (cel c 107)) + 5).toNat 0)))) rfl ⟨⟨by decide, by decide⟩, ⟨by decide, by decide⟩⟩ (fun _ => ?_) (fun hh => absurd (by decide) hh)
                                      refine exq_k 4 (P := none) (g := (cod m8_doFerry 66, [some (.inl 21), some (.inr x), some (.inr p), some (.inr q), some (.inr (cel c 107)), some (.inr 6)], [.inr x, .inr 0, .inr (cel c 107), .inl 21], (zr τ 22 (zu (zu (zu (zu (zu (zu (τ 22) ((61 + 6 * (cel c 107)) + 0).toNat 0) ((61 + 6 * (cel c 107)) + 1).toNat 0) ((61 + 6 * (cel c 107)) + 2).toNat 0) ((61 + 6 * (cel c 107)) + 3).toNat 0) ((61 + 6 * (cel c 107)) + 4).toNat 0) ((61 + 6 * (cel c 107)) + 5).toNat 0)))) rfl trivial ?_
                                      refine exq_c (m_sets (τ := (zr τ 22 (zu (zu (zu (zu (zu (zu (τ 22) ((61 + 6 * (cel c 107)) + 0).toNat 0) ((61 + 6 * (cel c 107)) + 1).toNat 0) ((61 + 6 * (cel c 107)) + 2).toNat 0) ((61 + 6 * (cel c 107)) + 3).toNat 0) ((61 + 6 * (cel c 107)) + 4).toNat 0) ((61 + 6 * (cel c 107)) + 5).toNat 0))) (f := cel c 107) (w := 0) (v := x) (by omega) (by omega)) (is := cod m8_doFerry 67) (L := [some (.inl 21), some (.inr x), some (.inr p), some (.inr q), some (.inr (cel c 107)), some (.inr 6)]) (st := []) rfl rfl rfl ?_
                                      show Exq _ _ (cod m8_doFerry 67, [some (.inl 21), some (.inr x), some (.inr p), some (.inr q), some (.inr (cel c 107)), some (.inr 6)], [], (zr (zr τ 22 (zu (zu (zu (zu (zu (zu (τ 22) ((61 + 6 * (cel c 107)) + 0).toNat 0) ((61 + 6 * (cel c 107)) + 1).toNat 0) ((61 + 6 * (cel c 107)) + 2).toNat 0) ((61 + 6 * (cel c 107)) + 3).toNat 0) ((61 + 6 * (cel c 107)) + 4).toNat 0) ((61 + 6 * (cel c 107)) + 5).toNat 0)) 22 (zu (zu (zu (zu (zu (zu (zu (τ 22) ((61 + 6 * (cel c 107)) + 0).toNat 0) ((61 + 6 * (cel c 107)) + 1).toNat 0) ((61 + 6 * (cel c 107)) + 2).toNat 0) ((61 + 6 * (cel c 107)) + 3).toNat 0) ((61 + 6 * (cel c 107)) + 4).toNat 0) ((61 + 6 * (cel c 107)) + 5).toNat 0) ((61 + 6 * (cel c 107)) + 0).toNat x))) _ _
                                      rw [zr_zr]
                                      refine exq_k 4 (P := none) (g := (cod m8_doFerry 71, [some (.inl 21), some (.inr x), some (.inr p), some (.inr q), some (.inr (cel c 107)), some (.inr 6)], [.inr p, .inr 1, .inr (cel c 107), .inl 21], (zr τ 22 (zu (zu (zu (zu (zu (zu (zu (τ 22) ((61 + 6 * (cel c 107)) + 0).toNat 0) ((61 + 6 * (cel c 107)) + 1).toNat 0) ((61 + 6 * (cel c 107)) + 2).toNat 0) ((61 + 6 * (cel c 107)) + 3).toNat 0) ((61 + 6 * (cel c 107)) + 4).toNat 0) ((61 + 6 * (cel c 107)) + 5).toNat 0) ((61 + 6 * (cel c 107)) + 0).toNat x)))) rfl trivial ?_
                                      refine exq_c (m_sets (τ := (zr τ 22 (zu (zu (zu (zu (zu (zu (zu (τ 22) ((61 + 6 * (cel c 107)) + 0).toNat 0) ((61 + 6 * (cel c 107)) + 1).toNat 0) ((61 + 6 * (cel c 107)) + 2).toNat 0) ((61 + 6 * (cel c 107)) + 3).toNat 0) ((61 + 6 * (cel c 107)) + 4).toNat 0) ((61 + 6 * (cel c 107)) + 5).toNat 0) ((61 + 6 * (cel c 107)) + 0).toNat x))) (f := cel c 107) (w := 1) (v := p) (by omega) (by omega)) (is := cod m8_doFerry 72) (L := [some (.inl 21), some (.inr x), some (.inr p), some (.inr q), some (.inr (cel c 107)), some (.inr 6)]) (st := []) rfl rfl rfl ?_
                                      show Exq _ _ (cod m8_doFerry 72, [some (.inl 21), some (.inr x), some (.inr p), some (.inr q), some (.inr (cel c 107)), some (.inr 6)], [], (zr (zr τ 22 (zu (zu (zu (zu (zu (zu (zu (τ 22) ((61 + 6 * (cel c 107)) + 0).toNat 0) ((61 + 6 * (cel c 107)) + 1).toNat 0) ((61 + 6 * (cel c 107)) + 2).toNat 0) ((61 + 6 * (cel c 107)) + 3).toNat 0) ((61 + 6 * (cel c 107)) + 4).toNat 0) ((61 + 6 * (cel c 107)) + 5).toNat 0) ((61 + 6 * (cel c 107)) + 0).toNat x)) 22 (zu (zu (zu (zu (zu (zu (zu (zu (τ 22) ((61 + 6 * (cel c 107)) + 0).toNat 0) ((61 + 6 * (cel c 107)) + 1).toNat 0) ((61 + 6 * (cel c 107)) + 2).toNat 0) ((61 + 6 * (cel c 107)) + 3).toNat 0) ((61 + 6 * (cel c 107)) + 4).toNat 0) ((61 + 6 * (cel c 107)) + 5).toNat 0) ((61 + 6 * (cel c 107)) + 0).toNat x) ((61 + 6 * (cel c 107)) + 1).toNat p))) _ _
                                      rw [zr_zr]
                                      refine exq_k 4 (P := none) (g := (cod m8_doFerry 76, [some (.inl 21), some (.inr x), some (.inr p), some (.inr q), some (.inr (cel c 107)), some (.inr 6)], [.inr q, .inr 2, .inr (cel c 107), .inl 21], (zr τ 22 (zu (zu (zu (zu (zu (zu (zu (zu (τ 22) ((61 + 6 * (cel c 107)) + 0).toNat 0) ((61 + 6 * (cel c 107)) + 1).toNat 0) ((61 + 6 * (cel c 107)) + 2).toNat 0) ((61 + 6 * (cel c 107)) + 3).toNat 0) ((61 + 6 * (cel c 107)) + 4).toNat 0) ((61 + 6 * (cel c 107)) + 5).toNat 0) ((61 + 6 * (cel c 107)) + 0).toNat x) ((61 + 6 * (cel c 107)) + 1).toNat p)))) rfl trivial ?_
                                      refine exq_c (m_sets (τ := (zr τ 22 (zu (zu (zu (zu (zu (zu (zu (zu (τ 22) ((61 + 6 * (cel c 107)) + 0).toNat 0) ((61 + 6 * (cel c 107)) + 1).toNat 0) ((61 + 6 * (cel c 107)) + 2).toNat 0) ((61 + 6 * (cel c 107)) + 3).toNat 0) ((61 + 6 * (cel c 107)) + 4).toNat 0) ((61 + 6 * (cel c 107)) + 5).toNat 0) ((61 + 6 * (cel c 107)) + 0).toNat x) ((61 + 6 * (cel c 107)) + 1).toNat p))) (f := cel c 107) (w := 2) (v := q) (by omega) (by omega)) (is := cod m8_doFerry 77) (L := [some (.inl 21), some (.inr x), some (.inr p), some (.inr q), some (.inr (cel c 107)), some (.inr 6)]) (st := []) rfl rfl rfl ?_
                                      show Exq _ _ (cod m8_doFerry 77, [some (.inl 21), some (.inr x), some (.inr p), some (.inr q), some (.inr (cel c 107)), some (.inr 6)], [], (zr (zr τ 22 (zu (zu (zu (zu (zu (zu (zu (zu (τ 22) ((61 + 6 * (cel c 107)) + 0).toNat 0) ((61 + 6 * (cel c 107)) + 1).toNat 0) ((61 + 6 * (cel c 107)) + 2).toNat 0) ((61 + 6 * (cel c 107)) + 3).toNat 0) ((61 + 6 * (cel c 107)) + 4).toNat 0) ((61 + 6 * (cel c 107)) + 5).toNat 0) ((61 + 6 * (cel c 107)) + 0).toNat x) ((61 + 6 * (cel c 107)) + 1).toNat p)) 22 (zu (zu (zu (zu (zu (zu (zu (zu (zu (τ 22) ((61 + 6 * (cel c 107)) + 0).toNat 0) ((61 + 6 * (cel c 107)) + 1).toNat 0) ((61 + 6 * (cel c 107)) + 2).toNat 0) ((61 + 6 * (cel c 107)) + 3).toNat 0) ((61 + 6 * (cel c 107)) + 4).toNat 0) ((61 + 6 * (cel c 107)) + 5).toNat 0) ((61 + 6 * (cel c 107)) + 0).toNat x) ((61 + 6 * (cel c 107)) + 1).toNat p) ((61 + 6 * (cel c 107)) + 2).toNat q))) _ _
                                      rw [zr_zr]
                                      refine exq_k 5 (P := some (0 ≤ 0 ∧ 0 < ((109 : Nat) : Int))) (g := (cod m8_doFerry 82, [some (.inl 21), some (.inr x), some (.inr p), some (.inr q), some (.inr (cel c 107)), some (.inr 6)], [.inr ((zu (zu (zu (zu (zu (zu (zu (zu (zu (τ 22) ((61 + 6 * (cel c 107)) + 0).toNat 0) ((61 + 6 * (cel c 107)) + 1).toNat 0) ((61 + 6 * (cel c 107)) + 2).toNat 0) ((61 + 6 * (cel c 107)) + 3).toNat 0) ((61 + 6 * (cel c 107)) + 4).toNat 0) ((61 + 6 * (cel c 107)) + 5).toNat 0) ((61 + 6 * (cel c 107)) + 0).toNat x) ((61 + 6 * (cel c 107)) + 1).toNat p) ((61 + 6 * (cel c 107)) + 2).toNat q) 0), .inr 0, .inl 22], (zr τ 22 (zu (zu (zu (zu (zu (zu (zu (zu (zu (τ 22) ((61 + 6 * (cel c 107)) + 0).toNat 0) ((61 + 6 * (cel c 107)) + 1).toNat 0) ((61 + 6 * (cel c 107)) + 2).toNat 0) ((61 + 6 * (cel c 107)) + 3).toNat 0) ((61 + 6 * (cel c 107)) + 4).toNat 0) ((61 + 6 * (cel c 107)) + 5).toNat 0) ((61 + 6 * (cel c 107)) + 0).toNat x) ((61 + 6 * (cel c 107)) + 1).toNat p) ((61 + 6 * (cel c 107)) + 2).toNat q)))) rfl (by show 0 ≤ 0 ∧ 0 < ((109 : Nat) : Int); omega) ?_
                                      refine exq_k 3 (P := some ((0 ≤ 0 ∧ 0 < ((109 : Nat) : Int)) ∧ (0 = 1 → 0 ≤ (((zu (zu (zu (zu (zu (zu (zu (zu (zu (τ 22) ((61 + 6 * (cel c 107)) + 0).toNat 0) ((61 + 6 * (cel c 107)) + 1).toNat 0) ((61 + 6 * (cel c 107)) + 2).toNat 0) ((61 + 6 * (cel c 107)) + 3).toNat 0) ((61 + 6 * (cel c 107)) + 4).toNat 0) ((61 + 6 * (cel c 107)) + 5).toNat 0) ((61 + 6 * (cel c 107)) + 0).toNat x) ((61 + 6 * (cel c 107)) + 1).toNat p) ((61 + 6 * (cel c 107)) + 2).toNat q) 0) + 1) ∧ (((zu (zu (zu (zu (zu (zu (zu (zu (zu (τ 22) ((61 + 6 * (cel c 107)) + 0).toNat 0) ((61 + 6 * (cel c 107)) + 1).toNat 0) ((61 + 6 * (cel c 107)) + 2).toNat 0) ((61 + 6 * (cel c 107)) + 3).toNat 0) ((61 + 6 * (cel c 107)) + 4).toNat 0) ((61 + 6 * (cel c 107)) + 5).toNat 0) ((61 + 6 * (cel c 107)) + 0).toNat x) ((61 + 6 * (cel c 107)) + 1).toNat p) ((61 + 6 * (cel c 107)) + 2).toNat q) 0) + 1) < 65536))) (g := (cod m8_doFerry 85, [some (.inl 21), some (.inr x), some (.inr p), some (.inr q), some (.inr (cel c 107)), some (.inr 6)], [], (zr (zr τ 22 (zu (zu (zu (zu (zu (zu (zu (zu (zu (τ 22) ((61 + 6 * (cel c 107)) + 0).toNat 0) ((61 + 6 * (cel c 107)) + 1).toNat 0) ((61 + 6 * (cel c 107)) + 2).toNat 0) ((61 + 6 * (cel c 107)) + 3).toNat 0) ((61 + 6 * (cel c 107)) + 4).toNat 0) ((61 + 6 * (cel c 107)) + 5).toNat 0) ((61 + 6 * (cel c 107)) + 0).toNat x) ((61 + 6 * (cel c 107)) + 1).toNat p) ((61 + 6 * (cel c 107)) + 2).toNat q)) 22 (zu (zu (zu (zu (zu (zu (zu (zu (zu (zu (τ 22) ((61 + 6 * (cel c 107)) + 0).toNat 0) ((61 + 6 * (cel c 107)) + 1).toNat 0) ((61 + 6 * (cel c 107)) + 2).toNat 0) ((61 + 6 * (cel c 107)) + 3).toNat 0) ((61 + 6 * (cel c 107)) + 4).toNat 0) ((61 + 6 * (cel c 107)) + 5).toNat 0) ((61 + 6 * (cel c 107)) + 0).toNat x) ((61 + 6 * (cel c 107)) + 1).toNat p) ((61 + 6 * (cel c 107)) + 2).toNat q) 0 (((zu (zu (zu (zu (zu (zu (zu (zu (zu (τ 22) ((61 + 6 * (cel c 107)) + 0).toNat 0) ((61 + 6 * (cel c 107)) + 1).toNat 0) ((61 + 6 * (cel c 107)) + 2).toNat 0) ((61 + 6 * (cel c 107)) + 3).toNat 0) ((61 + 6 * (cel c 107)) + 4).toNat 0) ((61 + 6 * (cel c 107)) + 5).toNat 0) ((61 + 6 * (cel c 107)) + 0).toNat x) ((61 + 6 * (cel c 107)) + 1).toNat p) ((61 + 6 * (cel c 107)) + 2).toNat q) 0) + 1))))) rfl (by show (0 ≤ 0 ∧ 0 < ((109 : Nat) : Int)) ∧ (0 = 1 → 0 ≤ (((zu (zu (zu (zu (zu (zu (zu (zu (zu (τ 22) ((61 + 6 * (cel c 107)) + 0).toNat 0) ((61 + 6 * (cel c 107)) + 1).toNat 0) ((61 + 6 * (cel c 107)) + 2).toNat 0) ((61 + 6 * (cel c 107)) + 3).toNat 0) ((61 + 6 * (cel c 107)) + 4).toNat 0) ((61 + 6 * (cel c 107)) + 5).toNat 0) ((61 + 6 * (cel c 107)) + 0).toNat x) ((61 + 6 * (cel c 107)) + 1).toNat p) ((61 + 6 * (cel c 107)) + 2).toNat q) 0) + 1) ∧ (((zu (zu (zu (zu (zu (zu (zu (zu (zu (τ 22) ((61 + 6 * (cel c 107)) + 0).toNat 0) ((61 + 6 * (cel c 107)) + 1).toNat 0) ((61 + 6 * (cel c 107)) + 2).toNat 0) ((61 + 6 * (cel c 107)) + 3).toNat 0) ((61 + 6 * (cel c 107)) + 4).toNat 0) ((61 + 6 * (cel c 107)) + 5).toNat 0) ((61 + 6 * (cel c 107)) + 0).toNat x) ((61 + 6 * (cel c 107)) + 1).toNat p) ((61 + 6 * (cel c 107)) + 2).toNat q) 0) + 1) < 65536); omega) ?_
                                      rw [zr_zr]
                                      refine exq_k 5 (P := some (0 ≤ 8 ∧ 8 < ((109 : Nat) : Int))) (g := (cod m8_doFerry 90, [some (.inl 21), some (.inr x), some (.inr p), some (.inr q), some (.inr (cel c 107)), some (.inr 6)], [.inr ((zu (zu (zu (zu (zu (zu (zu (zu (zu (τ 22) ((61 + 6 * (cel c 107)) + 0).toNat 0) ((61 + 6 * (cel c 107)) + 1).toNat 0) ((61 + 6 * (cel c 107)) + 2).toNat 0) ((61 + 6 * (cel c 107)) + 3).toNat 0) ((61 + 6 * (cel c 107)) + 4).toNat 0) ((61 + 6 * (cel c 107)) + 5).toNat 0) ((61 + 6 * (cel c 107)) + 0).toNat x) ((61 + 6 * (cel c 107)) + 1).toNat p) ((61 + 6 * (cel c 107)) + 2).toNat q) 8), .inr 8, .inl 22], (zr τ 22 (zu (zu (zu (zu (zu (zu (zu (zu (zu (zu (τ 22) ((61 + 6 * (cel c 107)) + 0).toNat 0) ((61 + 6 * (cel c 107)) + 1).toNat 0) ((61 + 6 * (cel c 107)) + 2).toNat 0) ((61 + 6 * (cel c 107)) + 3).toNat 0) ((61 + 6 * (cel c 107)) + 4).toNat 0) ((61 + 6 * (cel c 107)) + 5).toNat 0) ((61 + 6 * (cel c 107)) + 0).toNat x) ((61 + 6 * (cel c 107)) + 1).toNat p) ((61 + 6 * (cel c 107)) + 2).toNat q) 0 (((zu (zu (zu (zu (zu (zu (zu (zu (zu (τ 22) ((61 + 6 * (cel c 107)) + 0).toNat 0) ((61 + 6 * (cel c 107)) + 1).toNat 0) ((61 + 6 * (cel c 107)) + 2).toNat 0) ((61 + 6 * (cel c 107)) + 3).toNat 0) ((61 + 6 * (cel c 107)) + 4).toNat 0) ((61 + 6 * (cel c 107)) + 5).toNat 0) ((61 + 6 * (cel c 107)) + 0).toNat x) ((61 + 6 * (cel c 107)) + 1).toNat p) ((61 + 6 * (cel c 107)) + 2).toNat q) 0) + 1))))) rfl (by show 0 ≤ 8 ∧ 8 < ((109 : Nat) : Int); omega) ?_
                                      refine exq_k 3 (P := some ((0 ≤ 8 ∧ 8 < ((109 : Nat) : Int)) ∧ (0 = 1 → 0 ≤ (((zu (zu (zu (zu (zu (zu (zu (zu (zu (τ 22) ((61 + 6 * (cel c 107)) + 0).toNat 0) ((61 + 6 * (cel c 107)) + 1).toNat 0) ((61 + 6 * (cel c 107)) + 2).toNat 0) ((61 + 6 * (cel c 107)) + 3).toNat 0) ((61 + 6 * (cel c 107)) + 4).toNat 0) ((61 + 6 * (cel c 107)) + 5).toNat 0) ((61 + 6 * (cel c 107)) + 0).toNat x) ((61 + 6 * (cel c 107)) + 1).toNat p) ((61 + 6 * (cel c 107)) + 2).toNat q) 8) + 1) ∧ (((zu (zu (zu (zu (zu (zu (zu (zu (zu (τ 22) ((61 + 6 * (cel c 107)) + 0).toNat 0) ((61 + 6 * (cel c 107)) + 1).toNat 0) ((61 + 6 * (cel c 107)) + 2).toNat 0) ((61 + 6 * (cel c 107)) + 3).toNat 0) ((61 + 6 * (cel c 107)) + 4).toNat 0) ((61 + 6 * (cel c 107)) + 5).toNat 0) ((61 + 6 * (cel c 107)) + 0).toNat x) ((61 + 6 * (cel c 107)) + 1).toNat p) ((61 + 6 * (cel c 107)) + 2).toNat q) 8) + 1) < 65536))) (g := (cod m8_doFerry 93, [some (.inl 21), some (.inr x), some (.inr p), some (.inr q), some (.inr (cel c 107)), some (.inr 6)], [], (zr (zr τ 22 (zu (zu (zu (zu (zu (zu (zu (zu (zu (zu (τ 22) ((61 + 6 * (cel c 107)) + 0).toNat 0) ((61 + 6 * (cel c 107)) + 1).toNat 0) ((61 + 6 * (cel c 107)) + 2).toNat 0) ((61 + 6 * (cel c 107)) + 3).toNat 0) ((61 + 6 * (cel c 107)) + 4).toNat 0) ((61 + 6 * (cel c 107)) + 5).toNat 0) ((61 + 6 * (cel c 107)) + 0).toNat x) ((61 + 6 * (cel c 107)) + 1).toNat p) ((61 + 6 * (cel c 107)) + 2).toNat q) 0 (((zu (zu (zu (zu (zu (zu (zu (zu (zu (τ 22) ((61 + 6 * (cel c 107)) + 0).toNat 0) ((61 + 6 * (cel c 107)) + 1).toNat 0) ((61 + 6 * (cel c 107)) + 2).toNat 0) ((61 + 6 * (cel c 107)) + 3).toNat 0) ((61 + 6 * (cel c 107)) + 4).toNat 0) ((61 + 6 * (cel c 107)) + 5).toNat 0) ((61 + 6 * (cel c 107)) + 0).toNat x) ((61 + 6 * (cel c 107)) + 1).toNat p) ((61 + 6 * (cel c 107)) + 2).toNat q) 0) + 1))) 22 (zu (zu (zu (zu (zu (zu (zu (zu (zu (zu (zu (τ 22) ((61 + 6 * (cel c 107)) + 0).toNat 0) ((61 + 6 * (cel c 107)) + 1).toNat 0) ((61 + 6 * (cel c 107)) + 2).toNat 0) ((61 + 6 * (cel c 107)) + 3).toNat 0) ((61 + 6 * (cel c 107)) + 4).toNat 0) ((61 + 6 * (cel c 107)) + 5).toNat 0) ((61 + 6 * (cel c 107)) + 0).toNat x) ((61 + 6 * (cel c 107)) + 1).toNat p) ((61 + 6 * (cel c 107)) + 2).toNat q) 0 (((zu (zu (zu (zu (zu (zu (zu (zu (zu (τ 22) ((61 + 6 * (cel c 107)) + 0).toNat 0) ((61 + 6 * (cel c 107)) + 1).toNat 0) ((61 + 6 * (cel c 107)) + 2).toNat 0) ((61 + 6 * (cel c 107)) + 3).toNat 0) ((61 + 6 * (cel c 107)) + 4).toNat 0) ((61 + 6 * (cel c 107)) + 5).toNat 0) ((61 + 6 * (cel c 107)) + 0).toNat x) ((61 + 6 * (cel c 107)) + 1).toNat p) ((61 + 6 * (cel c 107)) + 2).toNat q) 0) + 1)) 8 (((zu (zu (zu (zu (zu (zu (zu (zu (zu (τ 22) ((61 + 6 * (cel c 107)) + 0).toNat 0) ((61 + 6 * (cel c 107)) + 1).toNat 0) ((61 + 6 * (cel c 107)) + 2).toNat 0) ((61 + 6 * (cel c 107)) + 3).toNat 0) ((61 + 6 * (cel c 107)) + 4).toNat 0) ((61 + 6 * (cel c 107)) + 5).toNat 0) ((61 + 6 * (cel c 107)) + 0).toNat x) ((61 + 6 * (cel c 107)) + 1).toNat p) ((61 + 6 * (cel c 107)) + 2).toNat q) 8) + 1))))) rfl (by show (0 ≤ 8 ∧ 8 < ((109 : Nat) : Int)) ∧ (0 = 1 → 0 ≤ (((zu (zu (zu (zu (zu (zu (zu (zu (zu (τ 22) ((61 + 6 * (cel c 107)) + 0).toNat 0) ((61 + 6 * (cel c 107)) + 1).toNat 0) ((61 + 6 * (cel c 107)) + 2).toNat 0) ((61 + 6 * (cel c 107)) + 3).toNat 0) ((61 + 6 * (cel c 107)) + 4).toNat 0) ((61 + 6 * (cel c 107)) + 5).toNat 0) ((61 + 6 * (cel c 107)) + 0).toNat x) ((61 + 6 * (cel c 107)) + 1).toNat p) ((61 + 6 * (cel c 107)) + 2).toNat q) 8) + 1) ∧ (((zu (zu (zu (zu (zu (zu (zu (zu (zu (τ 22) ((61 + 6 * (cel c 107)) + 0).toNat 0) ((61 + 6 * (cel c 107)) + 1).toNat 0) ((61 + 6 * (cel c 107)) + 2).toNat 0) ((61 + 6 * (cel c 107)) + 3).toNat 0) ((61 + 6 * (cel c 107)) + 4).toNat 0) ((61 + 6 * (cel c 107)) + 5).toNat 0) ((61 + 6 * (cel c 107)) + 0).toNat x) ((61 + 6 * (cel c 107)) + 1).toNat p) ((61 + 6 * (cel c 107)) + 2).toNat q) 8) + 1) < 65536); omega) ?_
                                      rw [zr_zr]
                                      refine exq_k 1 (P := none) (g := (cod m8_doFerry 94, [some (.inl 21), some (.inr x), some (.inr p), some (.inr q), some (.inr (cel c 107)), some (.inr 6)], [.inr (cel c 107)], (zr τ 22 (zu (zu (zu (zu (zu (zu (zu (zu (zu (zu (zu (τ 22) ((61 + 6 * (cel c 107)) + 0).toNat 0) ((61 + 6 * (cel c 107)) + 1).toNat 0) ((61 + 6 * (cel c 107)) + 2).toNat 0) ((61 + 6 * (cel c 107)) + 3).toNat 0) ((61 + 6 * (cel c 107)) + 4).toNat 0) ((61 + 6 * (cel c 107)) + 5).toNat 0) ((61 + 6 * (cel c 107)) + 0).toNat x) ((61 + 6 * (cel c 107)) + 1).toNat p) ((61 + 6 * (cel c 107)) + 2).toNat q) 0 (((zu (zu (zu (zu (zu (zu (zu (zu (zu (τ 22) ((61 + 6 * (cel c 107)) + 0).toNat 0) ((61 + 6 * (cel c 107)) + 1).toNat 0) ((61 + 6 * (cel c 107)) + 2).toNat 0) ((61 + 6 * (cel c 107)) + 3).toNat 0) ((61 + 6 * (cel c 107)) + 4).toNat 0) ((61 + 6 * (cel c 107)) + 5).toNat 0) ((61 + 6 * (cel c 107)) + 0).toNat x) ((61 + 6 * (cel c 107)) + 1).toNat p) ((61 + 6 * (cel c 107)) + 2).toNat q) 0) + 1)) 8 (((zu (zu (zu (zu (zu (zu (zu (zu (zu (τ 22) ((61 + 6 * (cel c 107)) + 0).toNat 0) ((61 + 6 * (cel c 107)) + 1).toNat 0) ((61 + 6 * (cel c 107)) + 2).toNat 0) ((61 + 6 * (cel c 107)) + 3).toNat 0) ((61 + 6 * (cel c 107)) + 4).toNat 0) ((61 + 6 * (cel c 107)) + 5).toNat 0) ((61 + 6 * (cel c 107)) + 0).toNat x) ((61 + 6 * (cel c 107)) + 1).toNat p) ((61 + 6 * (cel c 107)) + 2).toNat q) 8) + 1))))) rfl trivial ?_
                                      exact exq_r rfl trivial rfl (qd0 (by unfold obF; (repeat (first | rw [if_pos (by omega)] | rw [if_neg (by omega)])); first | done | rfl | omega) (hR.kput hI (by omega) (by omega) (by omega) (by omega) (by omega)) rfl))
                                · first
                                  | (exfalso; omega)
                                  | (
                                      refine exq_k 6 (P := none) (g := (cod m8_doFerry 43, [some (.inl 21), some (.inr x), some (.inr p), some (.inr q), some (.inr (cel c 107)), none], [.inr p, .inr 0, .inl 21, .inr 2, .inr 2, .inl 21], τ)) rfl trivial ?_
                                      refine exq_c (m_there (τ := τ) (r := 0) (p := p) hI hR (by omega) (by omega)) (is := cod m8_doFerry 44) (L := [some (.inl 21), some (.inr x), some (.inr p), some (.inr q), some (.inr (cel c 107)), none]) (st := [.inr 2, .inr 2, .inl 21]) rfl rfl rfl ?_
                                      show Exq _ _ (cod m8_doFerry 44, [some (.inl 21), some (.inr x), some (.inr p), some (.inr q), some (.inr (cel c 107)), none], [.inr (whz c 0 p), .inr 2, .inr 2, .inl 21], τ) _ _
                                      refine exq_b (P := (whz c 0 p) < 0) (ct := (cod m8_doFerry 47, [some (.inl 21), some (.inr x), some (.inr p), some (.inr q), some (.inr (cel c 107)), none], [.inr 2, .inr 2, .inl 21], τ)) (cf := (cod m8_doFerry 45, [some (.inl 21), some (.inr x), some (.inr p), some (.inr q), some (.inr (cel c 107)), none], [.inr 2, .inr 2, .inl 21], τ)) rfl ⟨by omega, by omega⟩ (fun h15 => ?_) (fun h15 => ?_)
                                      · first
                                        | (exfalso; omega)
                                        | (
                                            refine exq_k 1 (P := none) (g := (cod m8_doFerry 48, [some (.inl 21), some (.inr x), some (.inr p), some (.inr q), some (.inr (cel c 107)), none], [.inr q, .inr 2, .inr 2, .inl 21], τ)) rfl trivial ?_
                                            refine exq_c (m_refuse (τ := τ) (k := 2) (w := 2) (d := q)) (is := cod m8_doFerry 49) (L := [some (.inl 21), some (.inr x), some (.inr p), some (.inr q), some (.inr (cel c 107)), none]) (st := []) rfl rfl rfl ?_
                                            show Exq _ _ (cod m8_doFerry 49, [some (.inl 21), some (.inr x), some (.inr p), some (.inr q), some (.inr (cel c 107)), none], [.inr 0], rf τ 2 2 q 0 0) _ _
                                            exact exq_r rfl trivial rfl (qd3 (by unfold obF; (repeat (first | rw [if_pos (by omega)] | rw [if_neg (by omega)])); first | done | rfl | omega) (by unfold rwF; (repeat (first | rw [if_pos (by omega)] | rw [if_neg (by omega)])); first | done | rfl) (by unfold rdF; (repeat (first | rw [if_pos (by omega)] | rw [if_neg (by omega)])); first | done | rfl)))
                                      · first
                                        | (exfalso; omega)
                                        | (
                                            refine exq_k 2 (P := none) (g := (cod m8_doFerry 48, [some (.inl 21), some (.inr x), some (.inr p), some (.inr q), some (.inr (cel c 107)), none], [.inr p, .inr 2, .inr 2, .inl 21], τ)) rfl trivial ?_
                                            refine exq_c (m_refuse (τ := τ) (k := 2) (w := 2) (d := p)) (is := cod m8_doFerry 49) (L := [some (.inl 21), some (.inr x), some (.inr p), some (.inr q), some (.inr (cel c 107)), none]) (st := []) rfl rfl rfl ?_
                                            show Exq _ _ (cod m8_doFerry 49, [some (.inl 21), some (.inr x), some (.inr p), some (.inr q), some (.inr (cel c 107)), none], [.inr 0], rf τ 2 2 p 0 0) _ _
                                            exact exq_r rfl trivial rfl (qd3 (by unfold obF; (repeat (first | rw [if_pos (by omega)] | rw [if_neg (by omega)])); first | done | rfl | omega) (by unfold rwF; (repeat (first | rw [if_pos (by omega)] | rw [if_neg (by omega)])); first | done | rfl) (by unfold rdF; (repeat (first | rw [if_pos (by omega)] | rw [if_neg (by omega)])); first | done | rfl))))))
                    · first
                      | (exfalso; omega)
                      | (
                          refine exq_k 4 (P := none) (g := (cod m8_doFerry 25, [some (.inl 21), some (.inr x), some (.inr p), some (.inr q), some (.inr (cel c 107)), none], [.inr 8, .inr 1, .inr 2, .inl 21], τ)) rfl trivial ?_
                          refine exq_c (m_refuse (τ := τ) (k := 2) (w := 1) (d := 8)) (is := cod m8_doFerry 26) (L := [some (.inl 21), some (.inr x), some (.inr p), some (.inr q), some (.inr (cel c 107)), none]) (st := []) rfl rfl rfl ?_
                          show Exq _ _ (cod m8_doFerry 26, [some (.inl 21), some (.inr x), some (.inr p), some (.inr q), some (.inr (cel c 107)), none], [.inr 0], rf τ 2 1 8 0 0) _ _
                          exact exq_r rfl trivial rfl (qd3 (by unfold obF; (repeat (first | rw [if_pos (by omega)] | rw [if_neg (by omega)])); first | done | rfl | omega) (by unfold rwF; (repeat (first | rw [if_pos (by omega)] | rw [if_neg (by omega)])); first | done | rfl) (by unfold rdF; (repeat (first | rw [if_pos (by omega)] | rw [if_neg (by omega)])); first | done | rfl))))
              · first
                | (exfalso; have h3 := b2_nn0 h3; omega)
                | (
                    have h3 := b2_nn0 h3
                    refine exq_k 2 (P := none) (g := (cod m8_doFerry 16, [some (.inl 21), some (.inr x), some (.inr p), some (.inr q), some (.inr (cel c 107)), none], [.inr 1, .inl 21], τ)) rfl trivial ?_
                    refine exq_c (m_fails (τ := τ) (k := 1)) (is := cod m8_doFerry 17) (L := [some (.inl 21), some (.inr x), some (.inr p), some (.inr q), some (.inr (cel c 107)), none]) (st := []) rfl rfl rfl ?_
                    show Exq _ _ (cod m8_doFerry 17, [some (.inl 21), some (.inr x), some (.inr p), some (.inr q), some (.inr (cel c 107)), none], [.inr 0], (zr τ 21 (zu (τ 21) 7 1))) _ _
                    exact exq_r rfl trivial rfl (qd2 (by unfold obF; (repeat (first | rw [if_pos (by omega)] | rw [if_neg (by omega)])); first | done | rfl | omega)))))
theorem m_doTug {r p : Int} {τ : SZ} {c : Nat → Int} {B : Int} (hI : Iv B c) (hR : Rs c (τ 22)) (hG : ∀ r, 0 ≤ r → r < 2 → tgs c r ≤ 4) (hr : Rng r) (hp : Rng p) : RZq 4 m8_doTug [.inl 21, .inr r, .inr p] τ (Qdo τ (obT c r p) 1 1 2 (rwT c r) (rdT c r p) 0 0 (tgs (swh c r p 8) r) (swh c r p 8)) := by
  have hS := hI.1
  have hC := hI.2.1
  have hN := hS.n
  obtain ⟨hr1, hr2⟩ := hr
  obtain ⟨hp1, hp2⟩ := hp
  have ht : 0 ≤ sm (fun k => b2 (whz c r (k : Int) = 8)) 12 ∧ sm (fun k => b2 (whz c r (k : Int) = 8)) 12 ≤ ((12 : Nat) : Int) := sm_01 (fun k _ => b2_01)
  have hg4 : 0 ≤ r → r < 2 → sm (fun k => b2 (whz c r (k : Int) = 8)) 12 ≤ 4 := hG r
  have hq0 : (0 ≤ p ∧ p < 12) → whz c r p = cel c (48 + r * 12 + p) := fun q => by unfold whz; rw [if_pos q]
  have hwr : 0 ≤ r → r < 2 → -1 ≤ whz c r p ∧ whz c r p ≤ 8 := fun q1 q2 => hS.wh ⟨q1, q2⟩
  have hI2 : obT c r p = 0 → Iv B (swh c r p 8) := fun q => hI.tug q
  have hR2 : (0 ≤ r ∧ r < 2) → (0 ≤ p ∧ p < 12) → Rs (swh c r p 8) (zu (τ 22) ((9 + 26 * r) + (14 + p)).toNat 1) := fun q1 q2 => hR.kg hN q1 q2 (b2_t rfl)
  refine Exq.call ?_ rfl rfl
  show Exq _ _ (cod m8_doTug 0, [some (.inl 21), some (.inr r), some (.inr p)], [], τ) _ _
  refine exq_k 1 (P := none) (g := (cod m8_doTug 1, [some (.inl 21), some (.inr r), some (.inr p)], [.inr r], τ)) rfl trivial ?_
  refine exq_c (m_isRiver (τ := τ) (v := r) ⟨by omega, by omega⟩) (is := cod m8_doTug 2) (L := [some (.inl 21), some (.inr r), some (.inr p)]) (st := []) rfl rfl rfl ?_
  show Exq _ _ (cod m8_doTug 2, [some (.inl 21), some (.inr r), some (.inr p)], [.inr (b2 (0 ≤ r ∧ r < 2))], τ) _ _
  refine exq_b (P := (b2 (0 ≤ r ∧ r < 2)) = 0) (ct := (cod m8_doTug 6, [some (.inl 21), some (.inr r), some (.inr p)], [], τ)) (cf := (cod m8_doTug 3, [some (.inl 21), some (.inr r), some (.inr p)], [], τ)) rfl b2_rng (fun h1 => ?_) (fun h1 => ?_)
  · first
    | (exfalso; have h1 := b2_e0 h1; omega)
    | (
        have h1 := b2_e0 h1
        refine exq_k 2 (P := none) (g := (cod m8_doTug 8, [some (.inl 21), some (.inr r), some (.inr p)], [.inr 1, .inl 21], τ)) rfl trivial ?_
        refine exq_c (m_fails (τ := τ) (k := 1)) (is := cod m8_doTug 9) (L := [some (.inl 21), some (.inr r), some (.inr p)]) (st := []) rfl rfl rfl ?_
        show Exq _ _ (cod m8_doTug 9, [some (.inl 21), some (.inr r), some (.inr p)], [.inr 0], (zr τ 21 (zu (τ 21) 7 1))) _ _
        exact exq_r rfl trivial rfl (qd1 (by unfold obT; (repeat (first | rw [if_pos (by omega)] | rw [if_neg (by omega)])); first | done | rfl | omega)))
  · first
    | (exfalso; have h1 := b2_n0 h1; omega)
    | (
        have h1 := b2_n0 h1
        refine exq_k 1 (P := none) (g := (cod m8_doTug 4, [some (.inl 21), some (.inr r), some (.inr p)], [.inr p], τ)) rfl trivial ?_
        refine exq_c (m_isPlace (τ := τ) (v := p) ⟨by omega, by omega⟩) (is := cod m8_doTug 5) (L := [some (.inl 21), some (.inr r), some (.inr p)]) (st := []) rfl rfl rfl ?_
        show Exq _ _ (cod m8_doTug 5, [some (.inl 21), some (.inr r), some (.inr p)], [.inr (b2 (0 ≤ p ∧ p < 12))], τ) _ _
        refine exq_b (P := ¬ (b2 (0 ≤ p ∧ p < 12)) = 0) (ct := (cod m8_doTug 10, [some (.inl 21), some (.inr r), some (.inr p)], [], τ)) (cf := (cod m8_doTug 6, [some (.inl 21), some (.inr r), some (.inr p)], [], τ)) rfl b2_rng (fun h2 => ?_) (fun h2 => ?_)
        · first
          | (exfalso; have h2 := b2_n0 h2; omega)
          | (
              have h2 := b2_n0 h2
              refine exq_k 2 (P := none) (g := (cod m8_doTug 12, [some (.inl 21), some (.inr r), some (.inr p)], [.inr r, .inl 21], τ)) rfl trivial ?_
              refine exq_c (m_tugMany (τ := τ) (r := r) hI hR (by omega)) (is := cod m8_doTug 13) (L := [some (.inl 21), some (.inr r), some (.inr p)]) (st := []) rfl rfl rfl ?_
              show Exq _ _ (cod m8_doTug 13, [some (.inl 21), some (.inr r), some (.inr p)], [.inr (sm (fun k => b2 (whz c r (k : Int) = 8)) 12)], τ) _ _
              refine exq_k 1 (P := none) (g := (cod m8_doTug 14, [some (.inl 21), some (.inr r), some (.inr p)], [.inr 4, .inr (sm (fun k => b2 (whz c r (k : Int) = 8)) 12)], τ)) rfl trivial ?_
              refine exq_b (P := ¬ (sm (fun k => b2 (whz c r (k : Int) = 8)) 12) = 4) (ct := (cod m8_doTug 21, [some (.inl 21), some (.inr r), some (.inr p)], [], τ)) (cf := (cod m8_doTug 15, [some (.inl 21), some (.inr r), some (.inr p)], [], τ)) rfl ⟨⟨by omega, by omega⟩, ⟨by decide, by decide⟩⟩ (fun h3 => ?_) (fun h3 => ?_)
              · first
                | (exfalso; omega)
                | (
                    refine exq_k 3 (P := none) (g := (cod m8_doTug 24, [some (.inl 21), some (.inr r), some (.inr p)], [.inr p, .inr r, .inl 21], τ)) rfl trivial ?_
                    refine exq_c (m_there (τ := τ) (r := r) (p := p) hI hR (by omega) (by omega)) (is := cod m8_doTug 25) (L := [some (.inl 21), some (.inr r), some (.inr p)]) (st := []) rfl rfl rfl ?_
                    show Exq _ _ (cod m8_doTug 25, [some (.inl 21), some (.inr r), some (.inr p)], [.inr (whz c r p)], τ) _ _
                    refine exq_b (P := (whz c r p) < 0) (ct := (cod m8_doTug 32, [some (.inl 21), some (.inr r), some (.inr p)], [], τ)) (cf := (cod m8_doTug 26, [some (.inl 21), some (.inr r), some (.inr p)], [], τ)) rfl ⟨by omega, by omega⟩ (fun h4 => ?_) (fun h4 => ?_)
                    · first
                      | (exfalso; omega)
                      | (
                          refine exq_k 6 (P := none) (g := (cod m8_doTug 38, [some (.inl 21), some (.inr r), some (.inr p)], [.inr 1, .inr (14 + p), .inr r, .inl 21], τ)) rfl trivial ?_
                          refine exq_c (m_setsOn (τ := τ) (r := r) (k := 14 + p) (v := 1) (by omega) (by omega)) (is := cod m8_doTug 39) (L := [some (.inl 21), some (.inr r), some (.inr p)]) (st := []) rfl rfl rfl ?_
                          show Exq _ _ (cod m8_doTug 39, [some (.inl 21), some (.inr r), some (.inr p)], [], (zr τ 22 (zu (τ 22) ((9 + 26 * r) + (14 + p)).toNat 1))) _ _
                          refine exq_k 2 (P := none) (g := (cod m8_doTug 41, [some (.inl 21), some (.inr r), some (.inr p)], [.inr r, .inl 21], (zr τ 22 (zu (τ 22) ((9 + 26 * r) + (14 + p)).toNat 1)))) rfl trivial ?_
                          refine exq_c (m_tugMany (τ := (zr τ 22 (zu (τ 22) ((9 + 26 * r) + (14 + p)).toNat 1))) (r := r) (hI2 (by unfold obT; (repeat (first | rw [if_pos (by omega)] | rw [if_neg (by omega)])); first | done | rfl | omega)) (hR2 (by omega) (by omega)) (by omega)) (is := cod m8_doTug 42) (L := [some (.inl 21), some (.inr r), some (.inr p)]) (st := []) rfl rfl rfl ?_
                          show Exq _ _ (cod m8_doTug 42, [some (.inl 21), some (.inr r), some (.inr p)], [.inr (sm (fun k => b2 (whz (swh c r p 8) r (k : Int) = 8)) 12)], (zr τ 22 (zu (τ 22) ((9 + 26 * r) + (14 + p)).toNat 1))) _ _
                          exact exq_r rfl trivial rfl (qd0 (by unfold obT; (repeat (first | rw [if_pos (by omega)] | rw [if_neg (by omega)])); first | done | rfl | omega) (hR2 (by omega) (by omega)) rfl))
                    · first
                      | (exfalso; omega)
                      | (
                          refine exq_k 4 (P := none) (g := (cod m8_doTug 30, [some (.inl 21), some (.inr r), some (.inr p)], [.inr p, .inr 2, .inr 2, .inl 21], τ)) rfl trivial ?_
                          refine exq_c (m_refuse (τ := τ) (k := 2) (w := 2) (d := p)) (is := cod m8_doTug 31) (L := [some (.inl 21), some (.inr r), some (.inr p)]) (st := []) rfl rfl rfl ?_
                          show Exq _ _ (cod m8_doTug 31, [some (.inl 21), some (.inr r), some (.inr p)], [.inr 0], rf τ 2 2 p 0 0) _ _
                          exact exq_r rfl trivial rfl (qd3 (by unfold obT; (repeat (first | rw [if_pos (by omega)] | rw [if_neg (by omega)])); first | done | rfl | omega) (by unfold rwT; (repeat (first | rw [if_pos (by omega)] | rw [if_neg (by omega)])); first | done | rfl) (by unfold rdT; (repeat (first | rw [if_pos (by omega)] | rw [if_neg (by omega)])); first | done | rfl))))
              · first
                | (exfalso; omega)
                | (
                    refine exq_k 4 (P := none) (g := (cod m8_doTug 19, [some (.inl 21), some (.inr r), some (.inr p)], [.inr 4, .inr 1, .inr 2, .inl 21], τ)) rfl trivial ?_
                    refine exq_c (m_refuse (τ := τ) (k := 2) (w := 1) (d := 4)) (is := cod m8_doTug 20) (L := [some (.inl 21), some (.inr r), some (.inr p)]) (st := []) rfl rfl rfl ?_
                    show Exq _ _ (cod m8_doTug 20, [some (.inl 21), some (.inr r), some (.inr p)], [.inr 0], rf τ 2 1 4 0 0) _ _
                    exact exq_r rfl trivial rfl (qd3 (by unfold obT; (repeat (first | rw [if_pos (by omega)] | rw [if_neg (by omega)])); first | done | rfl | omega) (by unfold rwT; (repeat (first | rw [if_pos (by omega)] | rw [if_neg (by omega)])); first | done | rfl) (by unfold rdT; (repeat (first | rw [if_pos (by omega)] | rw [if_neg (by omega)])); first | done | rfl))))
        · first
          | (exfalso; have h2 := b2_nn0 h2; omega)
          | (
              have h2 := b2_nn0 h2
              refine exq_k 2 (P := none) (g := (cod m8_doTug 8, [some (.inl 21), some (.inr r), some (.inr p)], [.inr 1, .inl 21], τ)) rfl trivial ?_
              refine exq_c (m_fails (τ := τ) (k := 1)) (is := cod m8_doTug 9) (L := [some (.inl 21), some (.inr r), some (.inr p)]) (st := []) rfl rfl rfl ?_
              show Exq _ _ (cod m8_doTug 9, [some (.inl 21), some (.inr r), some (.inr p)], [.inr 0], (zr τ 21 (zu (τ 21) 7 1))) _ _
              exact exq_r rfl trivial rfl (qd1 (by unfold obT; (repeat (first | rw [if_pos (by omega)] | rw [if_neg (by omega)])); first | done | rfl | omega))))
theorem m_doLock {r p v : Int} {τ : SZ} {c : Nat → Int} {B : Int} (hI : Iv B c) (hR : Rs c (τ 22)) (hr : Rng r) (hp : Rng p) (hv : Rng v) : RZq 4 m8_doLock [.inl 21, .inr r, .inr p, .inr v] τ (Qdo τ (obL c r p v) 1 2 3 3 v 0 0 (usz c r p) (sus c r p v)) := by
  have hS := hI.1
  have hC := hI.2.1
  have hN := hS.n
  obtain ⟨hr1, hr2⟩ := hr
  obtain ⟨hp1, hp2⟩ := hp
  obtain ⟨hv1, hv2⟩ := hv
  have hur : 0 ≤ r → r < 2 → 0 ≤ usz c r p ∧ usz c r p ≤ 3 := fun q1 q2 => hS.us ⟨q1, q2⟩
  have hR2 : (0 ≤ r ∧ r < 2) → (0 ≤ p ∧ p < 12) → Rs (sus c r p v) (zu (τ 22) ((9 + 26 * r) + (2 + p)).toNat v) := fun q1 q2 => hR.ku hN q1 q2
  refine Exq.call ?_ rfl rfl
  show Exq _ _ (cod m8_doLock 0, [some (.inl 21), some (.inr r), some (.inr p), some (.inr v), none], [], τ) _ _
  refine exq_k 1 (P := none) (g := (cod m8_doLock 1, [some (.inl 21), some (.inr r), some (.inr p), some (.inr v), none], [.inr r], τ)) rfl trivial ?_
  refine exq_c (m_isRiver (τ := τ) (v := r) ⟨by omega, by omega⟩) (is := cod m8_doLock 2) (L := [some (.inl 21), some (.inr r), some (.inr p), some (.inr v), none]) (st := []) rfl rfl rfl ?_
  show Exq _ _ (cod m8_doLock 2, [some (.inl 21), some (.inr r), some (.inr p), some (.inr v), none], [.inr (b2 (0 ≤ r ∧ r < 2))], τ) _ _
  refine exq_b (P := (b2 (0 ≤ r ∧ r < 2)) = 0) (ct := (cod m8_doLock 6, [some (.inl 21), some (.inr r), some (.inr p), some (.inr v), none], [], τ)) (cf := (cod m8_doLock 3, [some (.inl 21), some (.inr r), some (.inr p), some (.inr v), none], [], τ)) rfl b2_rng (fun h1 => ?_) (fun h1 => ?_)
  · first
    | (exfalso; have h1 := b2_e0 h1; omega)
    | (
        have h1 := b2_e0 h1
        refine exq_k 2 (P := none) (g := (cod m8_doLock 8, [some (.inl 21), some (.inr r), some (.inr p), some (.inr v), none], [.inr 1, .inl 21], τ)) rfl trivial ?_
        refine exq_c (m_fails (τ := τ) (k := 1)) (is := cod m8_doLock 9) (L := [some (.inl 21), some (.inr r), some (.inr p), some (.inr v), none]) (st := []) rfl rfl rfl ?_
        show Exq _ _ (cod m8_doLock 9, [some (.inl 21), some (.inr r), some (.inr p), some (.inr v), none], [.inr 0], (zr τ 21 (zu (τ 21) 7 1))) _ _
        exact exq_r rfl trivial rfl (qd1 (by unfold obL; (repeat (first | rw [if_pos (by omega)] | rw [if_neg (by omega)])); first | done | rfl | omega)))
  · first
    | (exfalso; have h1 := b2_n0 h1; omega)
    | (
        have h1 := b2_n0 h1
        refine exq_k 1 (P := none) (g := (cod m8_doLock 4, [some (.inl 21), some (.inr r), some (.inr p), some (.inr v), none], [.inr p], τ)) rfl trivial ?_
        refine exq_c (m_isPlace (τ := τ) (v := p) ⟨by omega, by omega⟩) (is := cod m8_doLock 5) (L := [some (.inl 21), some (.inr r), some (.inr p), some (.inr v), none]) (st := []) rfl rfl rfl ?_
        show Exq _ _ (cod m8_doLock 5, [some (.inl 21), some (.inr r), some (.inr p), some (.inr v), none], [.inr (b2 (0 ≤ p ∧ p < 12))], τ) _ _
        refine exq_b (P := ¬ (b2 (0 ≤ p ∧ p < 12)) = 0) (ct := (cod m8_doLock 10, [some (.inl 21), some (.inr r), some (.inr p), some (.inr v), none], [], τ)) (cf := (cod m8_doLock 6, [some (.inl 21), some (.inr r), some (.inr p), some (.inr v), none], [], τ)) rfl b2_rng (fun h2 => ?_) (fun h2 => ?_)
        · first
          | (exfalso; have h2 := b2_n0 h2; omega)
          | (
              have h2 := b2_n0 h2
              refine exq_k 3 (P := none) (g := (cod m8_doLock 13, [some (.inl 21), some (.inr r), some (.inr p), some (.inr v), none], [.inr 3, .inr 0, .inr v], τ)) rfl trivial ?_
              refine exq_c (m_in (τ := τ) (v := v) (a := 0) (b := 3) ⟨by omega, by omega⟩ ⟨by omega, by omega⟩ ⟨by omega, by omega⟩) (is := cod m8_doLock 14) (L := [some (.inl 21), some (.inr r), some (.inr p), some (.inr v), none]) (st := []) rfl rfl rfl ?_
              show Exq _ _ (cod m8_doLock 14, [some (.inl 21), some (.inr r), some (.inr p), some (.inr v), none], [.inr (b2 (0 ≤ v ∧ v ≤ 3))], τ) _ _
              refine exq_b (P := ¬ (b2 (0 ≤ v ∧ v ≤ 3)) = 0) (ct := (cod m8_doLock 19, [some (.inl 21), some (.inr r), some (.inr p), some (.inr v), none], [], τ)) (cf := (cod m8_doLock 15, [some (.inl 21), some (.inr r), some (.inr p), some (.inr v), none], [], τ)) rfl b2_rng (fun h3 => ?_) (fun h3 => ?_)
              · first
                | (exfalso; have h3 := b2_n0 h3; omega)
                | (
                    have h3 := b2_n0 h3
                    refine exq_k 5 (P := none) (g := (cod m8_doLock 24, [some (.inl 21), some (.inr r), some (.inr p), some (.inr v), none], [.inr (2 + p), .inr r, .inl 21], τ)) rfl trivial ?_
                    refine exq_c (m_ol (τ := τ) (r := r) (p := p) hI hR (by omega) (by omega)) (is := cod m8_doLock 25) (L := [some (.inl 21), some (.inr r), some (.inr p), some (.inr v), none]) (st := []) rfl rfl rfl ?_
                    show Exq _ _ (cod m8_doLock 25, [some (.inl 21), some (.inr r), some (.inr p), some (.inr v), none], [.inr (usz c r p)], τ) _ _
                    refine exq_k 3 (P := none) (g := (cod m8_doLock 28, [some (.inl 21), some (.inr r), some (.inr p), some (.inr v), some (.inr (usz c r p))], [.inr v, .inr (usz c r p)], τ)) rfl trivial ?_
                    refine exq_b (P := ¬ (usz c r p) = v) (ct := (cod m8_doLock 35, [some (.inl 21), some (.inr r), some (.inr p), some (.inr v), some (.inr (usz c r p))], [], τ)) (cf := (cod m8_doLock 29, [some (.inl 21), some (.inr r), some (.inr p), some (.inr v), some (.inr (usz c r p))], [], τ)) rfl ⟨⟨by omega, by omega⟩, ⟨by omega, by omega⟩⟩ (fun h4 => ?_) (fun h4 => ?_)
                    · first
                      | (exfalso; omega)
                      | (
                          refine exq_k 6 (P := none) (g := (cod m8_doLock 41, [some (.inl 21), some (.inr r), some (.inr p), some (.inr v), some (.inr (usz c r p))], [.inr v, .inr (2 + p), .inr r, .inl 21], τ)) rfl trivial ?_
                          refine exq_c (m_setsOn (τ := τ) (r := r) (k := 2 + p) (v := v) (by omega) (by omega)) (is := cod m8_doLock 42) (L := [some (.inl 21), some (.inr r), some (.inr p), some (.inr v), some (.inr (usz c r p))]) (st := []) rfl rfl rfl ?_
                          show Exq _ _ (cod m8_doLock 42, [some (.inl 21), some (.inr r), some (.inr p), some (.inr v), some (.inr (usz c r p))], [], (zr τ 22 (zu (τ 22) ((9 + 26 * r) + (2 + p)).toNat v))) _ _
                          refine exq_k 1 (P := none) (g := (cod m8_doLock 43, [some (.inl 21), some (.inr r), some (.inr p), some (.inr v), some (.inr (usz c r p))], [.inr (usz c r p)], (zr τ 22 (zu (τ 22) ((9 + 26 * r) + (2 + p)).toNat v)))) rfl trivial ?_
                          exact exq_r rfl trivial rfl (qd0 (by unfold obL; (repeat (first | rw [if_pos (by omega)] | rw [if_neg (by omega)])); first | done | rfl | omega) (hR2 (by omega) (by omega)) rfl))
                    · first
                      | (exfalso; omega)
                      | (
                          refine exq_k 4 (P := none) (g := (cod m8_doLock 33, [some (.inl 21), some (.inr r), some (.inr p), some (.inr v), some (.inr (usz c r p))], [.inr v, .inr 3, .inr 3, .inl 21], τ)) rfl trivial ?_
                          refine exq_c (m_refuse (τ := τ) (k := 3) (w := 3) (d := v)) (is := cod m8_doLock 34) (L := [some (.inl 21), some (.inr r), some (.inr p), some (.inr v), some (.inr (usz c r p))]) (st := []) rfl rfl rfl ?_
                          show Exq _ _ (cod m8_doLock 34, [some (.inl 21), some (.inr r), some (.inr p), some (.inr v), some (.inr (usz c r p))], [.inr 0], rf τ 3 3 v 0 0) _ _
                          exact exq_r rfl trivial rfl (qd3 (by unfold obL; (repeat (first | rw [if_pos (by omega)] | rw [if_neg (by omega)])); first | done | rfl | omega) (rfl) (rfl))))
              · first
                | (exfalso; have h3 := b2_nn0 h3; omega)
                | (
                    have h3 := b2_nn0 h3
                    refine exq_k 2 (P := none) (g := (cod m8_doLock 17, [some (.inl 21), some (.inr r), some (.inr p), some (.inr v), none], [.inr 2, .inl 21], τ)) rfl trivial ?_
                    refine exq_c (m_fails (τ := τ) (k := 2)) (is := cod m8_doLock 18) (L := [some (.inl 21), some (.inr r), some (.inr p), some (.inr v), none]) (st := []) rfl rfl rfl ?_
                    show Exq _ _ (cod m8_doLock 18, [some (.inl 21), some (.inr r), some (.inr p), some (.inr v), none], [.inr 0], (zr τ 21 (zu (τ 21) 7 2))) _ _
                    exact exq_r rfl trivial rfl (qd2 (by unfold obL; (repeat (first | rw [if_pos (by omega)] | rw [if_neg (by omega)])); first | done | rfl | omega))))
        · first
          | (exfalso; have h2 := b2_nn0 h2; omega)
          | (
              have h2 := b2_nn0 h2
              refine exq_k 2 (P := none) (g := (cod m8_doLock 8, [some (.inl 21), some (.inr r), some (.inr p), some (.inr v), none], [.inr 1, .inl 21], τ)) rfl trivial ?_
              refine exq_c (m_fails (τ := τ) (k := 1)) (is := cod m8_doLock 9) (L := [some (.inl 21), some (.inr r), some (.inr p), some (.inr v), none]) (st := []) rfl rfl rfl ?_
              show Exq _ _ (cod m8_doLock 9, [some (.inl 21), some (.inr r), some (.inr p), some (.inr v), none], [.inr 0], (zr τ 21 (zu (τ 21) 7 1))) _ _
              exact exq_r rfl trivial rfl (qd1 (by unfold obL; (repeat (first | rw [if_pos (by omega)] | rw [if_neg (by omega)])); first | done | rfl | omega))))
theorem Rs.kfog {c s : Nat → Int} (h : Rs c s) (hn : 0 ≤ cel c 107 ∧ cel c 107 ≤ 8) {r p v : Int} (hr : 0 ≤ r ∧ r < 2) : Rs (sce (sce c (96 + r) p) (98 + r) v) (zu (zu s ((9 + 26 * r) + 0).toNat p) ((9 + 26 * r) + 1).toNat v) := by
  have q := h.kr hn hr (k := 0) (v := p) (by omega)
  rw [oc_r hr (by omega), if_pos rfl] at q
  have e : cel (sce c (96 + r) p) 107 = cel c 107 := cel_ne (by omega)
  have q2 := q.kr (by rw [e]; exact hn) hr (k := 1) (v := v) (by omega)
  rw [oc_r hr (by omega), if_neg (by decide), if_pos rfl] at q2
  exact q2
theorem m_doFog {r p v : Int} {τ : SZ} {c : Nat → Int} {B : Int} (hI : Iv B c) (hR : Rs c (τ 22)) (hr : Rng r) (hp : Rng p) (hv : Rng v) : RZq 4 m8_doFog [.inl 21, .inr r, .inr p, .inr v] τ (Qdo τ (obG c r p v) 1 2 3 3 v 0 0 (cel c (98 + r)) (sce (sce c (96 + r) p) (98 + r) v)) := by
  have hS := hI.1
  have hC := hI.2.1
  have hN := hS.n
  obtain ⟨hr1, hr2⟩ := hr
  obtain ⟨hp1, hp2⟩ := hp
  obtain ⟨hv1, hv2⟩ := hv
  have hfb : 0 ≤ r → r < 2 → 0 ≤ cel c (96 + r) ∧ cel c (96 + r) ≤ 11 := fun q1 q2 => hS.fb ⟨q1, q2⟩
  have hfw : 0 ≤ r → r < 2 → 0 ≤ cel c (98 + r) ∧ cel c (98 + r) ≤ 4 := fun q1 q2 => hS.fw ⟨q1, q2⟩
  have hR2 : (0 ≤ r ∧ r < 2) → Rs (sce (sce c (96 + r) p) (98 + r) v) (zu (zu (τ 22) ((9 + 26 * r) + 0).toNat p) ((9 + 26 * r) + 1).toNat v) := fun q1 => hR.kfog hN q1
  refine Exq.call ?_ rfl rfl
  show Exq _ _ (cod m8_doFog 0, [some (.inl 21), some (.inr r), some (.inr p), some (.inr v), none], [], τ) _ _
  refine exq_k 1 (P := none) (g := (cod m8_doFog 1, [some (.inl 21), some (.inr r), some (.inr p), some (.inr v), none], [.inr r], τ)) rfl trivial ?_
  refine exq_c (m_isRiver (τ := τ) (v := r) ⟨by omega, by omega⟩) (is := cod m8_doFog 2) (L := [some (.inl 21), some (.inr r), some (.inr p), some (.inr v), none]) (st := []) rfl rfl rfl ?_
  show Exq _ _ (cod m8_doFog 2, [some (.inl 21), some (.inr r), some (.inr p), some (.inr v), none], [.inr (b2 (0 ≤ r ∧ r < 2))], τ) _ _
  refine exq_b (P := (b2 (0 ≤ r ∧ r < 2)) = 0) (ct := (cod m8_doFog 6, [some (.inl 21), some (.inr r), some (.inr p), some (.inr v), none], [], τ)) (cf := (cod m8_doFog 3, [some (.inl 21), some (.inr r), some (.inr p), some (.inr v), none], [], τ)) rfl b2_rng (fun h1 => ?_) (fun h1 => ?_)
  · first
    | (exfalso; have h1 := b2_e0 h1; omega)
    | (
        have h1 := b2_e0 h1
        refine exq_k 2 (P := none) (g := (cod m8_doFog 8, [some (.inl 21), some (.inr r), some (.inr p), some (.inr v), none], [.inr 1, .inl 21], τ)) rfl trivial ?_
        refine exq_c (m_fails (τ := τ) (k := 1)) (is := cod m8_doFog 9) (L := [some (.inl 21), some (.inr r), some (.inr p), some (.inr v), none]) (st := []) rfl rfl rfl ?_
        show Exq _ _ (cod m8_doFog 9, [some (.inl 21), some (.inr r), some (.inr p), some (.inr v), none], [.inr 0], (zr τ 21 (zu (τ 21) 7 1))) _ _
        exact exq_r rfl trivial rfl (qd1 (by unfold obG; (repeat (first | rw [if_pos (by omega)] | rw [if_neg (by omega)])); first | done | rfl | omega)))
  · first
    | (exfalso; have h1 := b2_n0 h1; omega)
    | (
        have h1 := b2_n0 h1
        refine exq_k 1 (P := none) (g := (cod m8_doFog 4, [some (.inl 21), some (.inr r), some (.inr p), some (.inr v), none], [.inr p], τ)) rfl trivial ?_
        refine exq_c (m_isPlace (τ := τ) (v := p) ⟨by omega, by omega⟩) (is := cod m8_doFog 5) (L := [some (.inl 21), some (.inr r), some (.inr p), some (.inr v), none]) (st := []) rfl rfl rfl ?_
        show Exq _ _ (cod m8_doFog 5, [some (.inl 21), some (.inr r), some (.inr p), some (.inr v), none], [.inr (b2 (0 ≤ p ∧ p < 12))], τ) _ _
        refine exq_b (P := ¬ (b2 (0 ≤ p ∧ p < 12)) = 0) (ct := (cod m8_doFog 10, [some (.inl 21), some (.inr r), some (.inr p), some (.inr v), none], [], τ)) (cf := (cod m8_doFog 6, [some (.inl 21), some (.inr r), some (.inr p), some (.inr v), none], [], τ)) rfl b2_rng (fun h2 => ?_) (fun h2 => ?_)
        · first
          | (exfalso; have h2 := b2_n0 h2; omega)
          | (
              have h2 := b2_n0 h2
              refine exq_k 3 (P := none) (g := (cod m8_doFog 13, [some (.inl 21), some (.inr r), some (.inr p), some (.inr v), none], [.inr 4, .inr 0, .inr v], τ)) rfl trivial ?_
              refine exq_c (m_in (τ := τ) (v := v) (a := 0) (b := 4) ⟨by omega, by omega⟩ ⟨by omega, by omega⟩ ⟨by omega, by omega⟩) (is := cod m8_doFog 14) (L := [some (.inl 21), some (.inr r), some (.inr p), some (.inr v), none]) (st := []) rfl rfl rfl ?_
              show Exq _ _ (cod m8_doFog 14, [some (.inl 21), some (.inr r), some (.inr p), some (.inr v), none], [.inr (b2 (0 ≤ v ∧ v ≤ 4))], τ) _ _
              refine exq_b (P := ¬ (b2 (0 ≤ v ∧ v ≤ 4)) = 0) (ct := (cod m8_doFog 19, [some (.inl 21), some (.inr r), some (.inr p), some (.inr v), none], [], τ)) (cf := (cod m8_doFog 15, [some (.inl 21), some (.inr r), some (.inr p), some (.inr v), none], [], τ)) rfl b2_rng (fun h3 => ?_) (fun h3 => ?_)
              · first
                | (exfalso; have h3 := b2_n0 h3; omega)
                | (
                    have h3 := b2_n0 h3
                    refine exq_k 3 (P := none) (g := (cod m8_doFog 22, [some (.inl 21), some (.inr r), some (.inr p), some (.inr v), none], [.inr 1, .inr r, .inl 21], τ)) rfl trivial ?_
                    refine exq_c (m_o1 (τ := τ) (r := r) hI hR (by omega)) (is := cod m8_doFog 23) (L := [some (.inl 21), some (.inr r), some (.inr p), some (.inr v), none]) (st := []) rfl rfl rfl ?_
                    show Exq _ _ (cod m8_doFog 23, [some (.inl 21), some (.inr r), some (.inr p), some (.inr v), none], [.inr (cel c (98 + r))], τ) _ _
                    refine exq_k 3 (P := none) (g := (cod m8_doFog 26, [some (.inl 21), some (.inr r), some (.inr p), some (.inr v), some (.inr (cel c (98 + r)))], [.inr v, .inr (cel c (98 + r))], τ)) rfl trivial ?_
                    refine exq_b (P := ¬ (cel c (98 + r)) = v) (ct := (cod m8_doFog 39, [some (.inl 21), some (.inr r), some (.inr p), some (.inr v), some (.inr (cel c (98 + r)))], [], τ)) (cf := (cod m8_doFog 27, [some (.inl 21), some (.inr r), some (.inr p), some (.inr v), some (.inr (cel c (98 + r)))], [], τ)) rfl ⟨⟨by omega, by omega⟩, ⟨by omega, by omega⟩⟩ (fun h4 => ?_) (fun h4 => ?_)
                    · first
                      | (exfalso; omega)
                      | (
                          refine exq_k 4 (P := none) (g := (cod m8_doFog 43, [some (.inl 21), some (.inr r), some (.inr p), some (.inr v), some (.inr (cel c (98 + r)))], [.inr p, .inr 0, .inr r, .inl 21], τ)) rfl trivial ?_
                          refine exq_c (m_setsOn (τ := τ) (r := r) (k := 0) (v := p) (by omega) (by omega)) (is := cod m8_doFog 44) (L := [some (.inl 21), some (.inr r), some (.inr p), some (.inr v), some (.inr (cel c (98 + r)))]) (st := []) rfl rfl rfl ?_
                          show Exq _ _ (cod m8_doFog 44, [some (.inl 21), some (.inr r), some (.inr p), some (.inr v), some (.inr (cel c (98 + r)))], [], (zr τ 22 (zu (τ 22) ((9 + 26 * r) + 0).toNat p))) _ _
                          refine exq_k 4 (P := none) (g := (cod m8_doFog 48, [some (.inl 21), some (.inr r), some (.inr p), some (.inr v), some (.inr (cel c (98 + r)))], [.inr v, .inr 1, .inr r, .inl 21], (zr τ 22 (zu (τ 22) ((9 + 26 * r) + 0).toNat p)))) rfl trivial ?_
                          refine exq_c (m_setsOn (τ := (zr τ 22 (zu (τ 22) ((9 + 26 * r) + 0).toNat p))) (r := r) (k := 1) (v := v) (by omega) (by omega)) (is := cod m8_doFog 49) (L := [some (.inl 21), some (.inr r), some (.inr p), some (.inr v), some (.inr (cel c (98 + r)))]) (st := []) rfl rfl rfl ?_
                          show Exq _ _ (cod m8_doFog 49, [some (.inl 21), some (.inr r), some (.inr p), some (.inr v), some (.inr (cel c (98 + r)))], [], (zr (zr τ 22 (zu (τ 22) ((9 + 26 * r) + 0).toNat p)) 22 (zu (zu (τ 22) ((9 + 26 * r) + 0).toNat p) ((9 + 26 * r) + 1).toNat v))) _ _
                          rw [zr_zr]
                          refine exq_k 1 (P := none) (g := (cod m8_doFog 50, [some (.inl 21), some (.inr r), some (.inr p), some (.inr v), some (.inr (cel c (98 + r)))], [.inr (cel c (98 + r))], (zr τ 22 (zu (zu (τ 22) ((9 + 26 * r) + 0).toNat p) ((9 + 26 * r) + 1).toNat v)))) rfl trivial ?_
                          exact exq_r rfl trivial rfl (qd0 (by unfold obG; (repeat (first | rw [if_pos (by omega)] | rw [if_neg (by omega)])); first | done | rfl | omega) (hR2 (by omega)) rfl))
                    · first
                      | (exfalso; omega)
                      | (
                          refine exq_k 3 (P := none) (g := (cod m8_doFog 30, [some (.inl 21), some (.inr r), some (.inr p), some (.inr v), some (.inr (cel c (98 + r)))], [.inr 0, .inr r, .inl 21], τ)) rfl trivial ?_
                          refine exq_c (m_o0 (τ := τ) (r := r) hI hR (by omega)) (is := cod m8_doFog 31) (L := [some (.inl 21), some (.inr r), some (.inr p), some (.inr v), some (.inr (cel c (98 + r)))]) (st := []) rfl rfl rfl ?_
                          show Exq _ _ (cod m8_doFog 31, [some (.inl 21), some (.inr r), some (.inr p), some (.inr v), some (.inr (cel c (98 + r)))], [.inr (cel c (96 + r))], τ) _ _
                          refine exq_k 1 (P := none) (g := (cod m8_doFog 32, [some (.inl 21), some (.inr r), some (.inr p), some (.inr v), some (.inr (cel c (98 + r)))], [.inr p, .inr (cel c (96 + r))], τ)) rfl trivial ?_
                          refine exq_b (P := ¬ (cel c (96 + r)) = p) (ct := (cod m8_doFog 39, [some (.inl 21), some (.inr r), some (.inr p), some (.inr v), some (.inr (cel c (98 + r)))], [], τ)) (cf := (cod m8_doFog 33, [some (.inl 21), some (.inr r), some (.inr p), some (.inr v), some (.inr (cel c (98 + r)))], [], τ)) rfl ⟨⟨by omega, by omega⟩, ⟨by omega, by omega⟩⟩ (fun h5 => ?_) (fun h5 => ?_)
                          · first
                            | (exfalso; omega)
                            | (
                                refine exq_k 4 (P := none) (g := (cod m8_doFog 43, [some (.inl 21), some (.inr r), some (.inr p), some (.inr v), some (.inr (cel c (98 + r)))], [.inr p, .inr 0, .inr r, .inl 21], τ)) rfl trivial ?_
                                refine exq_c (m_setsOn (τ := τ) (r := r) (k := 0) (v := p) (by omega) (by omega)) (is := cod m8_doFog 44) (L := [some (.inl 21), some (.inr r), some (.inr p), some (.inr v), some (.inr (cel c (98 + r)))]) (st := []) rfl rfl rfl ?_
                                show Exq _ _ (cod m8_doFog 44, [some (.inl 21), some (.inr r), some (.inr p), some (.inr v), some (.inr (cel c (98 + r)))], [], (zr τ 22 (zu (τ 22) ((9 + 26 * r) + 0).toNat p))) _ _
                                refine exq_k 4 (P := none) (g := (cod m8_doFog 48, [some (.inl 21), some (.inr r), some (.inr p), some (.inr v), some (.inr (cel c (98 + r)))], [.inr v, .inr 1, .inr r, .inl 21], (zr τ 22 (zu (τ 22) ((9 + 26 * r) + 0).toNat p)))) rfl trivial ?_
                                refine exq_c (m_setsOn (τ := (zr τ 22 (zu (τ 22) ((9 + 26 * r) + 0).toNat p))) (r := r) (k := 1) (v := v) (by omega) (by omega)) (is := cod m8_doFog 49) (L := [some (.inl 21), some (.inr r), some (.inr p), some (.inr v), some (.inr (cel c (98 + r)))]) (st := []) rfl rfl rfl ?_
                                show Exq _ _ (cod m8_doFog 49, [some (.inl 21), some (.inr r), some (.inr p), some (.inr v), some (.inr (cel c (98 + r)))], [], (zr (zr τ 22 (zu (τ 22) ((9 + 26 * r) + 0).toNat p)) 22 (zu (zu (τ 22) ((9 + 26 * r) + 0).toNat p) ((9 + 26 * r) + 1).toNat v))) _ _
                                rw [zr_zr]
                                refine exq_k 1 (P := none) (g := (cod m8_doFog 50, [some (.inl 21), some (.inr r), some (.inr p), some (.inr v), some (.inr (cel c (98 + r)))], [.inr (cel c (98 + r))], (zr τ 22 (zu (zu (τ 22) ((9 + 26 * r) + 0).toNat p) ((9 + 26 * r) + 1).toNat v)))) rfl trivial ?_
                                exact exq_r rfl trivial rfl (qd0 (by unfold obG; (repeat (first | rw [if_pos (by omega)] | rw [if_neg (by omega)])); first | done | rfl | omega) (hR2 (by omega)) rfl))
                          · first
                            | (exfalso; omega)
                            | (
                                refine exq_k 4 (P := none) (g := (cod m8_doFog 37, [some (.inl 21), some (.inr r), some (.inr p), some (.inr v), some (.inr (cel c (98 + r)))], [.inr v, .inr 3, .inr 3, .inl 21], τ)) rfl trivial ?_
                                refine exq_c (m_refuse (τ := τ) (k := 3) (w := 3) (d := v)) (is := cod m8_doFog 38) (L := [some (.inl 21), some (.inr r), some (.inr p), some (.inr v), some (.inr (cel c (98 + r)))]) (st := []) rfl rfl rfl ?_
                                show Exq _ _ (cod m8_doFog 38, [some (.inl 21), some (.inr r), some (.inr p), some (.inr v), some (.inr (cel c (98 + r)))], [.inr 0], rf τ 3 3 v 0 0) _ _
                                exact exq_r rfl trivial rfl (qd3 (by unfold obG; (repeat (first | rw [if_pos (by omega)] | rw [if_neg (by omega)])); first | done | rfl | omega) (rfl) (rfl)))))
              · first
                | (exfalso; have h3 := b2_nn0 h3; omega)
                | (
                    have h3 := b2_nn0 h3
                    refine exq_k 2 (P := none) (g := (cod m8_doFog 17, [some (.inl 21), some (.inr r), some (.inr p), some (.inr v), none], [.inr 2, .inl 21], τ)) rfl trivial ?_
                    refine exq_c (m_fails (τ := τ) (k := 2)) (is := cod m8_doFog 18) (L := [some (.inl 21), some (.inr r), some (.inr p), some (.inr v), none]) (st := []) rfl rfl rfl ?_
                    show Exq _ _ (cod m8_doFog 18, [some (.inl 21), some (.inr r), some (.inr p), some (.inr v), none], [.inr 0], (zr τ 21 (zu (τ 21) 7 2))) _ _
                    exact exq_r rfl trivial rfl (qd2 (by unfold obG; (repeat (first | rw [if_pos (by omega)] | rw [if_neg (by omega)])); first | done | rfl | omega))))
        · first
          | (exfalso; have h2 := b2_nn0 h2; omega)
          | (
              have h2 := b2_nn0 h2
              refine exq_k 2 (P := none) (g := (cod m8_doFog 8, [some (.inl 21), some (.inr r), some (.inr p), some (.inr v), none], [.inr 1, .inl 21], τ)) rfl trivial ?_
              refine exq_c (m_fails (τ := τ) (k := 1)) (is := cod m8_doFog 9) (L := [some (.inl 21), some (.inr r), some (.inr p), some (.inr v), none]) (st := []) rfl rfl rfl ?_
              show Exq _ _ (cod m8_doFog 9, [some (.inl 21), some (.inr r), some (.inr p), some (.inr v), none], [.inr 0], (zr τ 21 (zu (τ 21) 7 1))) _ _
              exact exq_r rfl trivial rfl (qd1 (by unfold obG; (repeat (first | rw [if_pos (by omega)] | rw [if_neg (by omega)])); first | done | rfl | omega))))
theorem Rs.kdr {B : Int} {c s : Nat → Int} (hS : Sh B c) (h : Rs c s) {r : Int} (hr : 0 ≤ r ∧ r < 2) {v : Int} (hv : v = (cel c (96 + r) + (if 0 < cel c (98 + r) then 1 else 0)) % 12) : Rs (dr1 c (96 + r) (98 + r)) (zu s ((9 + 26 * r) + 0).toNat v) := by
  have hb := hS.fb hr
  have q := h.kr hS.n hr (k := 0) (v := v) (by omega)
  rw [oc_r hr (by omega), if_pos rfl] at q
  unfold dr1
  by_cases w : 0 < cel c (98 + r)
  · rw [if_pos w] at hv ⊢
    rw [← hv]
    exact q
  · rw [if_neg w] at hv ⊢
    have ev : v = cel c (96 + r) := by omega
    have e : zu s ((9 + 26 * r) + 0).toNat v = s := by
      rw [ev, ← h.o0 hS.n.1 hr, zu_self]
    rw [e]
    exact h
theorem m_drifts {τ : SZ} {c : Nat → Int} {B : Int} (hI : Iv B c) (hR : Rs c (τ 22)) : ∃ s', Rs (drf c) s' ∧ RZ 2 m8_drifts [.inl 21] τ (.inl (none, zr τ 22 s')) := by
  have hS := hI.1
  have hC := hI.2.1
  have hN := hS.n
  have hb0 : 0 ≤ cel c 96 ∧ cel c 96 ≤ 11 := hS.fb (r := 0) (by omega)
  have hw0 : 0 ≤ cel c 98 ∧ cel c 98 ≤ 4 := hS.fw (r := 0) (by omega)
  have hb1 : 0 ≤ cel c 97 ∧ cel c 97 ≤ 11 := hS.fb (r := 1) (by omega)
  have hw1 : 0 ≤ cel c 99 ∧ cel c 99 ≤ 4 := hS.fw (r := 1) (by omega)
  have d1 := hI.1.fgs (z := 96) (v := (cel c 96 + 1) % 12) (by omega) (by omega)
  have hI1 : Iv B (dr1 c 96 98) := by unfold dr1; split; exact ⟨d1, hC.ext (fun y hy => cel_ne (by omega)) hS, by rw [cel_ne (by omega), cel_ne (by omega), cel_ne (by omega)]; exact hI.2.2⟩; exact hI
  have e98 : cel (dr1 c 96 98) 97 = cel c 97 := by unfold dr1; split; exact cel_ne (by omega); rfl
  have e99 : cel (dr1 c 96 98) 99 = cel c 99 := by unfold dr1; split; exact cel_ne (by omega); rfl
  have hR1 : ∀ v, v = (cel c 96 + (if 0 < cel c 98 then 1 else 0)) % 12 → Rs (dr1 c 96 98) (zu (τ 22) 9 v) := fun v hv => hR.kdr hS (r := 0) (by omega) hv
  have hR2 : ∀ v u, v = (cel c 96 + (if 0 < cel c 98 then 1 else 0)) % 12 → u = (cel c 97 + (if 0 < cel c 99 then 1 else 0)) % 12 → Rs (drf c) (zu (zu (τ 22) 9 v) 35 u) := fun v u hv hu => (hR1 v hv).kdr hI1.1 (r := 1) (by omega) (by show _ = (cel (dr1 c 96 98) 97 + (if 0 < cel (dr1 c 96 98) 99 then 1 else 0)) % 12; rw [e98, e99]; exact hu)
  have q : RZq 2 m8_drifts [.inl 21] τ (fun q => ∃ s', Rs (drf c) s' ∧ q = .inl (none, zr τ 22 s')) := by
    refine Exq.call ?_ rfl rfl
    show Exq _ _ (cod m8_drifts 0, [some (.inl 21), none], [], τ) _ _
    refine exq_k 4 (P := none) (g := (cod m8_drifts 4, [some (.inl 21), some (.inr 0)], [.inr 2, .inr 0], τ)) rfl trivial ?_
    refine exq_b (P := 2 ≤ 0) (ct := (cod m8_drifts 26, [some (.inl 21), some (.inr 0)], [], τ)) (cf := (cod m8_drifts 5, [some (.inl 21), some (.inr 0)], [], τ)) rfl ⟨⟨by decide, by decide⟩, ⟨by decide, by decide⟩⟩ (fun hh => absurd hh (by decide)) (fun _ => ?_)
    refine exq_k 6 (P := none) (g := (cod m8_drifts 11, [some (.inl 21), some (.inr 0)], [.inr 0, .inr 0, .inl 21, .inr 0, .inr 0, .inl 21], τ)) rfl trivial ?_
    refine exq_c (m_o0 (τ := τ) (r := 0) hI hR (by omega)) (is := cod m8_drifts 12) (L := [some (.inl 21), some (.inr 0)]) (st := [.inr 0, .inr 0, .inl 21]) rfl rfl rfl ?_
    show Exq _ _ (cod m8_drifts 12, [some (.inl 21), some (.inr 0)], [.inr (cel c 96), .inr 0, .inr 0, .inl 21], τ) _ _
    refine exq_k 3 (P := none) (g := (cod m8_drifts 15, [some (.inl 21), some (.inr 0)], [.inr 1, .inr 0, .inl 21, .inr (cel c 96), .inr 0, .inr 0, .inl 21], τ)) rfl trivial ?_
    refine exq_c (m_o1 (τ := τ) (r := 0) hI hR (by omega)) (is := cod m8_drifts 16) (L := [some (.inl 21), some (.inr 0)]) (st := [.inr (cel c 96), .inr 0, .inr 0, .inl 21]) rfl rfl rfl ?_
    show Exq _ _ (cod m8_drifts 16, [some (.inl 21), some (.inr 0)], [.inr (cel c 98), .inr (cel c 96), .inr 0, .inr 0, .inl 21], τ) _ _
    refine exq_b (P := (cel c 98) ≤ 0) (ct := (cod m8_drifts 19, [some (.inl 21), some (.inr 0)], [.inr (cel c 96), .inr 0, .inr 0, .inl 21], τ)) (cf := (cod m8_drifts 17, [some (.inl 21), some (.inr 0)], [.inr (cel c 96), .inr 0, .inr 0, .inl 21], τ)) rfl ⟨by omega, by omega⟩ (fun h2 => ?_) (fun h2 => ?_)
    · first
      | (exfalso; omega)
      | (
          refine exq_k 4 (P := some (0 ≤ ((cel c 96) + 0) ∧ ((cel c 96) + 0) < 2147483648 ∧ 0 < 12 ∧ 12 < 2147483648)) (g := (cod m8_drifts 23, [some (.inl 21), some (.inr 0)], [.inr (((cel c 96) + 0) % 12), .inr 0, .inr 0, .inl 21], τ)) rfl (by show 0 ≤ ((cel c 96) + 0) ∧ ((cel c 96) + 0) < 2147483648 ∧ 0 < 12 ∧ 12 < 2147483648; omega) ?_
          refine exq_c (m_setsOn (τ := τ) (r := 0) (k := 0) (v := ((cel c 96) + 0) % 12) (by omega) (by omega)) (is := cod m8_drifts 24) (L := [some (.inl 21), some (.inr 0)]) (st := []) rfl rfl rfl ?_
          show Exq _ _ (cod m8_drifts 24, [some (.inl 21), some (.inr 0)], [], (zr τ 22 (zu (τ 22) 9 (((cel c 96) + 0) % 12)))) _ _
          refine exq_k 4 (P := none) (g := (cod m8_drifts 4, [some (.inl 21), some (.inr 1)], [.inr 2, .inr 1], (zr τ 22 (zu (τ 22) 9 (((cel c 96) + 0) % 12))))) rfl trivial ?_
          refine exq_b (P := 2 ≤ 1) (ct := (cod m8_drifts 26, [some (.inl 21), some (.inr 1)], [], (zr τ 22 (zu (τ 22) 9 (((cel c 96) + 0) % 12))))) (cf := (cod m8_drifts 5, [some (.inl 21), some (.inr 1)], [], (zr τ 22 (zu (τ 22) 9 (((cel c 96) + 0) % 12))))) rfl ⟨⟨by decide, by decide⟩, ⟨by decide, by decide⟩⟩ (fun hh => absurd hh (by decide)) (fun _ => ?_)
          refine exq_k 6 (P := none) (g := (cod m8_drifts 11, [some (.inl 21), some (.inr 1)], [.inr 0, .inr 1, .inl 21, .inr 0, .inr 1, .inl 21], (zr τ 22 (zu (τ 22) 9 (((cel c 96) + 0) % 12))))) rfl trivial ?_
          refine exq_c (m_o0 (τ := (zr τ 22 (zu (τ 22) 9 (((cel c 96) + 0) % 12)))) (r := 1) hI1 (hR1 _ (by first | rw [if_pos (by omega)] | rw [if_neg (by omega)])) (by omega)) (is := cod m8_drifts 12) (L := [some (.inl 21), some (.inr 1)]) (st := [.inr 0, .inr 1, .inl 21]) rfl rfl rfl ?_
          show Exq _ _ (cod m8_drifts 12, [some (.inl 21), some (.inr 1)], [.inr (cel (dr1 c 96 98) 97), .inr 0, .inr 1, .inl 21], (zr τ 22 (zu (τ 22) 9 (((cel c 96) + 0) % 12)))) _ _
          refine exq_k 3 (P := none) (g := (cod m8_drifts 15, [some (.inl 21), some (.inr 1)], [.inr 1, .inr 1, .inl 21, .inr (cel (dr1 c 96 98) 97), .inr 0, .inr 1, .inl 21], (zr τ 22 (zu (τ 22) 9 (((cel c 96) + 0) % 12))))) rfl trivial ?_
          refine exq_c (m_o1 (τ := (zr τ 22 (zu (τ 22) 9 (((cel c 96) + 0) % 12)))) (r := 1) hI1 (hR1 _ (by first | rw [if_pos (by omega)] | rw [if_neg (by omega)])) (by omega)) (is := cod m8_drifts 16) (L := [some (.inl 21), some (.inr 1)]) (st := [.inr (cel (dr1 c 96 98) 97), .inr 0, .inr 1, .inl 21]) rfl rfl rfl ?_
          show Exq _ _ (cod m8_drifts 16, [some (.inl 21), some (.inr 1)], [.inr (cel (dr1 c 96 98) 99), .inr (cel (dr1 c 96 98) 97), .inr 0, .inr 1, .inl 21], (zr τ 22 (zu (τ 22) 9 (((cel c 96) + 0) % 12)))) _ _
          refine exq_b (P := (cel (dr1 c 96 98) 99) ≤ 0) (ct := (cod m8_drifts 19, [some (.inl 21), some (.inr 1)], [.inr (cel (dr1 c 96 98) 97), .inr 0, .inr 1, .inl 21], (zr τ 22 (zu (τ 22) 9 (((cel c 96) + 0) % 12))))) (cf := (cod m8_drifts 17, [some (.inl 21), some (.inr 1)], [.inr (cel (dr1 c 96 98) 97), .inr 0, .inr 1, .inl 21], (zr τ 22 (zu (τ 22) 9 (((cel c 96) + 0) % 12))))) rfl ⟨by omega, by omega⟩ (fun h4 => ?_) (fun h4 => ?_)
          · first
            | (exfalso; omega)
            | (
                refine exq_k 4 (P := some (0 ≤ ((cel (dr1 c 96 98) 97) + 0) ∧ ((cel (dr1 c 96 98) 97) + 0) < 2147483648 ∧ 0 < 12 ∧ 12 < 2147483648)) (g := (cod m8_drifts 23, [some (.inl 21), some (.inr 1)], [.inr (((cel (dr1 c 96 98) 97) + 0) % 12), .inr 0, .inr 1, .inl 21], (zr τ 22 (zu (τ 22) 9 (((cel c 96) + 0) % 12))))) rfl (by show 0 ≤ ((cel (dr1 c 96 98) 97) + 0) ∧ ((cel (dr1 c 96 98) 97) + 0) < 2147483648 ∧ 0 < 12 ∧ 12 < 2147483648; omega) ?_
                refine exq_c (m_setsOn (τ := (zr τ 22 (zu (τ 22) 9 (((cel c 96) + 0) % 12)))) (r := 1) (k := 0) (v := ((cel (dr1 c 96 98) 97) + 0) % 12) (by omega) (by omega)) (is := cod m8_drifts 24) (L := [some (.inl 21), some (.inr 1)]) (st := []) rfl rfl rfl ?_
                show Exq _ _ (cod m8_drifts 24, [some (.inl 21), some (.inr 1)], [], (zr (zr τ 22 (zu (τ 22) 9 (((cel c 96) + 0) % 12))) 22 (zu (zu (τ 22) 9 (((cel c 96) + 0) % 12)) 35 (((cel (dr1 c 96 98) 97) + 0) % 12)))) _ _
                rw [zr_zr]
                refine exq_k 4 (P := none) (g := (cod m8_drifts 4, [some (.inl 21), some (.inr 2)], [.inr 2, .inr 2], (zr τ 22 (zu (zu (τ 22) 9 (((cel c 96) + 0) % 12)) 35 (((cel (dr1 c 96 98) 97) + 0) % 12))))) rfl trivial ?_
                refine exq_b (P := 2 ≤ 2) (ct := (cod m8_drifts 26, [some (.inl 21), some (.inr 2)], [], (zr τ 22 (zu (zu (τ 22) 9 (((cel c 96) + 0) % 12)) 35 (((cel (dr1 c 96 98) 97) + 0) % 12))))) (cf := (cod m8_drifts 5, [some (.inl 21), some (.inr 2)], [], (zr τ 22 (zu (zu (τ 22) 9 (((cel c 96) + 0) % 12)) 35 (((cel (dr1 c 96 98) 97) + 0) % 12))))) rfl ⟨⟨by decide, by decide⟩, ⟨by decide, by decide⟩⟩ (fun _ => ?_) (fun hh => absurd (by decide) hh)
                exact exq_r rfl rfl rfl (⟨_, hR2 _ _ (by first | rw [if_pos (by omega)] | rw [if_neg (by omega)]) (by first | (rw [if_pos (by omega)]; omega) | (rw [if_neg (by omega)]; omega)), rfl⟩))
          · first
            | (exfalso; omega)
            | (
                refine exq_k 5 (P := some (0 ≤ ((cel (dr1 c 96 98) 97) + 1) ∧ ((cel (dr1 c 96 98) 97) + 1) < 2147483648 ∧ 0 < 12 ∧ 12 < 2147483648)) (g := (cod m8_drifts 23, [some (.inl 21), some (.inr 1)], [.inr (((cel (dr1 c 96 98) 97) + 1) % 12), .inr 0, .inr 1, .inl 21], (zr τ 22 (zu (τ 22) 9 (((cel c 96) + 0) % 12))))) rfl (by show 0 ≤ ((cel (dr1 c 96 98) 97) + 1) ∧ ((cel (dr1 c 96 98) 97) + 1) < 2147483648 ∧ 0 < 12 ∧ 12 < 2147483648; omega) ?_
                refine exq_c (m_setsOn (τ := (zr τ 22 (zu (τ 22) 9 (((cel c 96) + 0) % 12)))) (r := 1) (k := 0) (v := ((cel (dr1 c 96 98) 97) + 1) % 12) (by omega) (by omega)) (is := cod m8_drifts 24) (L := [some (.inl 21), some (.inr 1)]) (st := []) rfl rfl rfl ?_
                show Exq _ _ (cod m8_drifts 24, [some (.inl 21), some (.inr 1)], [], (zr (zr τ 22 (zu (τ 22) 9 (((cel c 96) + 0) % 12))) 22 (zu (zu (τ 22) 9 (((cel c 96) + 0) % 12)) 35 (((cel (dr1 c 96 98) 97) + 1) % 12)))) _ _
                rw [zr_zr]
                refine exq_k 4 (P := none) (g := (cod m8_drifts 4, [some (.inl 21), some (.inr 2)], [.inr 2, .inr 2], (zr τ 22 (zu (zu (τ 22) 9 (((cel c 96) + 0) % 12)) 35 (((cel (dr1 c 96 98) 97) + 1) % 12))))) rfl trivial ?_
                refine exq_b (P := 2 ≤ 2) (ct := (cod m8_drifts 26, [some (.inl 21), some (.inr 2)], [], (zr τ 22 (zu (zu (τ 22) 9 (((cel c 96) + 0) % 12)) 35 (((cel (dr1 c 96 98) 97) + 1) % 12))))) (cf := (cod m8_drifts 5, [some (.inl 21), some (.inr 2)], [], (zr τ 22 (zu (zu (τ 22) 9 (((cel c 96) + 0) % 12)) 35 (((cel (dr1 c 96 98) 97) + 1) % 12))))) rfl ⟨⟨by decide, by decide⟩, ⟨by decide, by decide⟩⟩ (fun _ => ?_) (fun hh => absurd (by decide) hh)
                exact exq_r rfl rfl rfl (⟨_, hR2 _ _ (by first | rw [if_pos (by omega)] | rw [if_neg (by omega)]) (by first | (rw [if_pos (by omega)]; omega) | (rw [if_neg (by omega)]; omega)), rfl⟩)))
    · first
      | (exfalso; omega)
      | (
          refine exq_k 5 (P := some (0 ≤ ((cel c 96) + 1) ∧ ((cel c 96) + 1) < 2147483648 ∧ 0 < 12 ∧ 12 < 2147483648)) (g := (cod m8_drifts 23, [some (.inl 21), some (.inr 0)], [.inr (((cel c 96) + 1) % 12), .inr 0, .inr 0, .inl 21], τ)) rfl (by show 0 ≤ ((cel c 96) + 1) ∧ ((cel c 96) + 1) < 2147483648 ∧ 0 < 12 ∧ 12 < 2147483648; omega) ?_
          refine exq_c (m_setsOn (τ := τ) (r := 0) (k := 0) (v := ((cel c 96) + 1) % 12) (by omega) (by omega)) (is := cod m8_drifts 24) (L := [some (.inl 21), some (.inr 0)]) (st := []) rfl rfl rfl ?_
          show Exq _ _ (cod m8_drifts 24, [some (.inl 21), some (.inr 0)], [], (zr τ 22 (zu (τ 22) 9 (((cel c 96) + 1) % 12)))) _ _
          refine exq_k 4 (P := none) (g := (cod m8_drifts 4, [some (.inl 21), some (.inr 1)], [.inr 2, .inr 1], (zr τ 22 (zu (τ 22) 9 (((cel c 96) + 1) % 12))))) rfl trivial ?_
          refine exq_b (P := 2 ≤ 1) (ct := (cod m8_drifts 26, [some (.inl 21), some (.inr 1)], [], (zr τ 22 (zu (τ 22) 9 (((cel c 96) + 1) % 12))))) (cf := (cod m8_drifts 5, [some (.inl 21), some (.inr 1)], [], (zr τ 22 (zu (τ 22) 9 (((cel c 96) + 1) % 12))))) rfl ⟨⟨by decide, by decide⟩, ⟨by decide, by decide⟩⟩ (fun hh => absurd hh (by decide)) (fun _ => ?_)
          refine exq_k 6 (P := none) (g := (cod m8_drifts 11, [some (.inl 21), some (.inr 1)], [.inr 0, .inr 1, .inl 21, .inr 0, .inr 1, .inl 21], (zr τ 22 (zu (τ 22) 9 (((cel c 96) + 1) % 12))))) rfl trivial ?_
          refine exq_c (m_o0 (τ := (zr τ 22 (zu (τ 22) 9 (((cel c 96) + 1) % 12)))) (r := 1) hI1 (hR1 _ (by first | rw [if_pos (by omega)] | rw [if_neg (by omega)])) (by omega)) (is := cod m8_drifts 12) (L := [some (.inl 21), some (.inr 1)]) (st := [.inr 0, .inr 1, .inl 21]) rfl rfl rfl ?_
          show Exq _ _ (cod m8_drifts 12, [some (.inl 21), some (.inr 1)], [.inr (cel (dr1 c 96 98) 97), .inr 0, .inr 1, .inl 21], (zr τ 22 (zu (τ 22) 9 (((cel c 96) + 1) % 12)))) _ _
          refine exq_k 3 (P := none) (g := (cod m8_drifts 15, [some (.inl 21), some (.inr 1)], [.inr 1, .inr 1, .inl 21, .inr (cel (dr1 c 96 98) 97), .inr 0, .inr 1, .inl 21], (zr τ 22 (zu (τ 22) 9 (((cel c 96) + 1) % 12))))) rfl trivial ?_
          refine exq_c (m_o1 (τ := (zr τ 22 (zu (τ 22) 9 (((cel c 96) + 1) % 12)))) (r := 1) hI1 (hR1 _ (by first | rw [if_pos (by omega)] | rw [if_neg (by omega)])) (by omega)) (is := cod m8_drifts 16) (L := [some (.inl 21), some (.inr 1)]) (st := [.inr (cel (dr1 c 96 98) 97), .inr 0, .inr 1, .inl 21]) rfl rfl rfl ?_
          show Exq _ _ (cod m8_drifts 16, [some (.inl 21), some (.inr 1)], [.inr (cel (dr1 c 96 98) 99), .inr (cel (dr1 c 96 98) 97), .inr 0, .inr 1, .inl 21], (zr τ 22 (zu (τ 22) 9 (((cel c 96) + 1) % 12)))) _ _
          refine exq_b (P := (cel (dr1 c 96 98) 99) ≤ 0) (ct := (cod m8_drifts 19, [some (.inl 21), some (.inr 1)], [.inr (cel (dr1 c 96 98) 97), .inr 0, .inr 1, .inl 21], (zr τ 22 (zu (τ 22) 9 (((cel c 96) + 1) % 12))))) (cf := (cod m8_drifts 17, [some (.inl 21), some (.inr 1)], [.inr (cel (dr1 c 96 98) 97), .inr 0, .inr 1, .inl 21], (zr τ 22 (zu (τ 22) 9 (((cel c 96) + 1) % 12))))) rfl ⟨by omega, by omega⟩ (fun h8 => ?_) (fun h8 => ?_)
          · first
            | (exfalso; omega)
            | (
                refine exq_k 4 (P := some (0 ≤ ((cel (dr1 c 96 98) 97) + 0) ∧ ((cel (dr1 c 96 98) 97) + 0) < 2147483648 ∧ 0 < 12 ∧ 12 < 2147483648)) (g := (cod m8_drifts 23, [some (.inl 21), some (.inr 1)], [.inr (((cel (dr1 c 96 98) 97) + 0) % 12), .inr 0, .inr 1, .inl 21], (zr τ 22 (zu (τ 22) 9 (((cel c 96) + 1) % 12))))) rfl (by show 0 ≤ ((cel (dr1 c 96 98) 97) + 0) ∧ ((cel (dr1 c 96 98) 97) + 0) < 2147483648 ∧ 0 < 12 ∧ 12 < 2147483648; omega) ?_
                refine exq_c (m_setsOn (τ := (zr τ 22 (zu (τ 22) 9 (((cel c 96) + 1) % 12)))) (r := 1) (k := 0) (v := ((cel (dr1 c 96 98) 97) + 0) % 12) (by omega) (by omega)) (is := cod m8_drifts 24) (L := [some (.inl 21), some (.inr 1)]) (st := []) rfl rfl rfl ?_
                show Exq _ _ (cod m8_drifts 24, [some (.inl 21), some (.inr 1)], [], (zr (zr τ 22 (zu (τ 22) 9 (((cel c 96) + 1) % 12))) 22 (zu (zu (τ 22) 9 (((cel c 96) + 1) % 12)) 35 (((cel (dr1 c 96 98) 97) + 0) % 12)))) _ _
                rw [zr_zr]
                refine exq_k 4 (P := none) (g := (cod m8_drifts 4, [some (.inl 21), some (.inr 2)], [.inr 2, .inr 2], (zr τ 22 (zu (zu (τ 22) 9 (((cel c 96) + 1) % 12)) 35 (((cel (dr1 c 96 98) 97) + 0) % 12))))) rfl trivial ?_
                refine exq_b (P := 2 ≤ 2) (ct := (cod m8_drifts 26, [some (.inl 21), some (.inr 2)], [], (zr τ 22 (zu (zu (τ 22) 9 (((cel c 96) + 1) % 12)) 35 (((cel (dr1 c 96 98) 97) + 0) % 12))))) (cf := (cod m8_drifts 5, [some (.inl 21), some (.inr 2)], [], (zr τ 22 (zu (zu (τ 22) 9 (((cel c 96) + 1) % 12)) 35 (((cel (dr1 c 96 98) 97) + 0) % 12))))) rfl ⟨⟨by decide, by decide⟩, ⟨by decide, by decide⟩⟩ (fun _ => ?_) (fun hh => absurd (by decide) hh)
                exact exq_r rfl rfl rfl (⟨_, hR2 _ _ (by first | rw [if_pos (by omega)] | rw [if_neg (by omega)]) (by first | (rw [if_pos (by omega)]; omega) | (rw [if_neg (by omega)]; omega)), rfl⟩))
          · first
            | (exfalso; omega)
            | (
                refine exq_k 5 (P := some (0 ≤ ((cel (dr1 c 96 98) 97) + 1) ∧ ((cel (dr1 c 96 98) 97) + 1) < 2147483648 ∧ 0 < 12 ∧ 12 < 2147483648)) (g := (cod m8_drifts 23, [some (.inl 21), some (.inr 1)], [.inr (((cel (dr1 c 96 98) 97) + 1) % 12), .inr 0, .inr 1, .inl 21], (zr τ 22 (zu (τ 22) 9 (((cel c 96) + 1) % 12))))) rfl (by show 0 ≤ ((cel (dr1 c 96 98) 97) + 1) ∧ ((cel (dr1 c 96 98) 97) + 1) < 2147483648 ∧ 0 < 12 ∧ 12 < 2147483648; omega) ?_
                refine exq_c (m_setsOn (τ := (zr τ 22 (zu (τ 22) 9 (((cel c 96) + 1) % 12)))) (r := 1) (k := 0) (v := ((cel (dr1 c 96 98) 97) + 1) % 12) (by omega) (by omega)) (is := cod m8_drifts 24) (L := [some (.inl 21), some (.inr 1)]) (st := []) rfl rfl rfl ?_
                show Exq _ _ (cod m8_drifts 24, [some (.inl 21), some (.inr 1)], [], (zr (zr τ 22 (zu (τ 22) 9 (((cel c 96) + 1) % 12))) 22 (zu (zu (τ 22) 9 (((cel c 96) + 1) % 12)) 35 (((cel (dr1 c 96 98) 97) + 1) % 12)))) _ _
                rw [zr_zr]
                refine exq_k 4 (P := none) (g := (cod m8_drifts 4, [some (.inl 21), some (.inr 2)], [.inr 2, .inr 2], (zr τ 22 (zu (zu (τ 22) 9 (((cel c 96) + 1) % 12)) 35 (((cel (dr1 c 96 98) 97) + 1) % 12))))) rfl trivial ?_
                refine exq_b (P := 2 ≤ 2) (ct := (cod m8_drifts 26, [some (.inl 21), some (.inr 2)], [], (zr τ 22 (zu (zu (τ 22) 9 (((cel c 96) + 1) % 12)) 35 (((cel (dr1 c 96 98) 97) + 1) % 12))))) (cf := (cod m8_drifts 5, [some (.inl 21), some (.inr 2)], [], (zr τ 22 (zu (zu (τ 22) 9 (((cel c 96) + 1) % 12)) 35 (((cel (dr1 c 96 98) 97) + 1) % 12))))) rfl ⟨⟨by decide, by decide⟩, ⟨by decide, by decide⟩⟩ (fun _ => ?_) (fun hh => absurd (by decide) hh)
                exact exq_r rfl rfl rfl (⟨_, hR2 _ _ (by first | rw [if_pos (by omega)] | rw [if_neg (by omega)]) (by first | (rw [if_pos (by omega)]; omega) | (rw [if_neg (by omega)]; omega)), rfl⟩)))
  obtain ⟨q, ⟨s', h1, rfl⟩, h2⟩ := q
  exact ⟨s', h1, h2⟩
theorem m_takes {g : Int} {τ : SZ} {c : Nat → Int} {B : Int} (hI : Iv B c) (hR : Rs c (τ 22)) (hg : 0 ≤ g ∧ g < cel c 107) : RZ 1 m8_takes [.inl 21, .inr g] τ (.inl (none, zr τ 22 (zu (zc (τ 22) (τ 22) (61 + 6 * g + 6).toNat (61 + 6 * g).toNat (6 * (cel c 107 - 1 - g)).toNat) 0 (cel c 107 - 1)))) := by
  have hS := hI.1
  have hC := hI.2.1
  have hN := hS.n
  have h0 := hR.n hN.1
  refine Ex.call ?_ rfl rfl
  show Ex _ _ (cod m8_takes 0, [some (.inl 21), some (.inr g), none, none], [], τ) _ _
  refine ex_k 4 (P := some (0 ≤ 0 ∧ 0 < ((109 : Nat) : Int))) (g := (cod m8_takes 4, [some (.inl 21), some (.inr g), none, none], [.inr ((τ 22) 0)], τ)) rfl (by show 0 ≤ 0 ∧ 0 < ((109 : Nat) : Int); omega) ?_
  refine ex_k 5 (P := none) (g := (cod m8_takes 9, [some (.inl 21), some (.inr g), some (.inr (((τ 22) 0) - 1)), none], [.inr 6, .inr 61], τ)) rfl trivial ?_
  rw [show τ 22 0 - 1 = cel c 107 - 1 from by rw [h0]]
  refine ex_k 18 (P := some (0 ≤ ((61 + (6 * g)) + 6) ∧ 0 ≤ (61 + (6 * g)) ∧ 0 ≤ (6 * ((cel c 107 - 1) - g)) ∧ ((61 + (6 * g)) + 6) + (6 * ((cel c 107 - 1) - g)) ≤ ((109 : Nat) : Int) ∧ (61 + (6 * g)) + (6 * ((cel c 107 - 1) - g)) ≤ ((109 : Nat) : Int))) (g := (cod m8_takes 27, [some (.inl 21), some (.inr g), some (.inr (cel c 107 - 1)), some (.inr (61 + (6 * g)))], [], (zr τ 22 (zc (τ 22) (τ 22) ((61 + (6 * g)) + 6).toNat (61 + (6 * g)).toNat (6 * ((cel c 107 - 1) - g)).toNat)))) rfl (by show 0 ≤ ((61 + (6 * g)) + 6) ∧ 0 ≤ (61 + (6 * g)) ∧ 0 ≤ (6 * ((cel c 107 - 1) - g)) ∧ ((61 + (6 * g)) + 6) + (6 * ((cel c 107 - 1) - g)) ≤ ((109 : Nat) : Int) ∧ (61 + (6 * g)) + (6 * ((cel c 107 - 1) - g)) ≤ ((109 : Nat) : Int); omega) ?_
  refine ex_k 5 (P := some ((0 ≤ 0 ∧ 0 < ((109 : Nat) : Int)) ∧ (0 = 1 → 0 ≤ (cel c 107 - 1) ∧ (cel c 107 - 1) < 65536))) (g := (cod m8_takes 32, [some (.inl 21), some (.inr g), some (.inr (cel c 107 - 1)), some (.inr (61 + (6 * g)))], [], (zr (zr τ 22 (zc (τ 22) (τ 22) ((61 + (6 * g)) + 6).toNat (61 + (6 * g)).toNat (6 * ((cel c 107 - 1) - g)).toNat)) 22 (zu (zc (τ 22) (τ 22) ((61 + (6 * g)) + 6).toNat (61 + (6 * g)).toNat (6 * ((cel c 107 - 1) - g)).toNat) 0 (cel c 107 - 1))))) rfl (by show (0 ≤ 0 ∧ 0 < ((109 : Nat) : Int)) ∧ (0 = 1 → 0 ≤ (cel c 107 - 1) ∧ (cel c 107 - 1) < 65536); omega) ?_
  rw [zr_zr]
  exact ex_r rfl rfl rfl (rfl)
end MDO
