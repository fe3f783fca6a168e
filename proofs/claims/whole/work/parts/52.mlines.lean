/-! contracts of the second implementation: lines: printed by wip/whole/db29.py -/
section MLI
/-- the line of the second implementation -/
def lnm (τ : SZ) (l : List Int) : SZ := zr (zr τ 28 (lnl (τ 28) l)) 21 (zu (τ 21) 12 (l.length : Int))
theorem lnm_nil {τ : SZ} : zr τ 21 (zu (τ 21) 12 0) = lnm τ [] := by
  unfold lnm
  rw [lnl_nil, zr_self]
  rfl
theorem lnm_add {τ : SZ} {l : List Int} {v : Int} : zr (zr (lnm τ l) 28 (zu (lnm τ l 28) (lnm τ l 21 12).toNat v)) 21 (zu (lnm τ l 21) 12 (lnm τ l 21 12 + 1)) = lnm τ (l ++ [v]) := by
  show zr (zr (zr (zr τ 28 (lnl (τ 28) l)) 21 (zu (τ 21) 12 (l.length : Int))) 28 (zu (lnl (τ 28) l) ((l.length : Int)).toNat v)) 21 (zu (zu (τ 21) 12 (l.length : Int)) 12 ((l.length : Int) + 1)) = _
  rw [Int.toNat_natCast, lnl_add, zr_sw (a := 21) (b := 28) (by decide), zr_zr, zr_zr, zu_zu]
  unfold lnm
  rw [show ((l ++ [v]).length : Int) = (l.length : Int) + 1 from by simp]
theorem m_says {τ : SZ} {l : List Int} {v : Int} (hl : l.length < 20) (hv : 0 ≤ v ∧ v < 65536) : RZ 1 m8_says [.inl 21, .inr v] (lnm τ l) (.inl (none, lnm τ (l ++ [v]))) := by
  have e : lnm τ l 21 12 = (l.length : Int) := rfl
  refine Ex.call ?_ rfl rfl
  show Ex _ _ (cod m8_says 0, [some (.inl 21), some (.inr v)], [], lnm τ l) _ _
  refine ex_k 6 (P := some ((0 ≤ (((lnm τ l) 21) 12) ∧ (((lnm τ l) 21) 12) < ((20 : Nat) : Int)) ∧ (1 = 1 → 0 ≤ v ∧ v < 65536))) (g := (cod m8_says 6, [some (.inl 21), some (.inr v)], [], (zr (lnm τ l) 28 (zu ((lnm τ l) 28) (((lnm τ l) 21) 12).toNat v)))) rfl (by show (0 ≤ (((lnm τ l) 21) 12) ∧ (((lnm τ l) 21) 12) < ((20 : Nat) : Int)) ∧ (1 = 1 → 0 ≤ v ∧ v < 65536); omega) ?_
  refine ex_k 6 (P := none) (g := (cod m8_says 12, [some (.inl 21), some (.inr v)], [], (zr (zr (lnm τ l) 28 (zu ((lnm τ l) 28) (((lnm τ l) 21) 12).toNat v)) 21 (zu ((lnm τ l) 21) 12 ((((lnm τ l) 21) 12) + 1))))) rfl trivial ?_
  exact ex_r rfl rfl rfl (rV lnm_add.symm)
theorem m_saysNumber0 {τ : SZ} {l : List Int} {p : Int} (hl : l.length < 20) (hp : 0 ≤ p ∧ p < 10) : RZ 2 m8_saysNumber [.inl 21, .inr p] (lnm τ l) (.inl (none, lnm τ (l ++ pll p))) := by
  refine Ex.call ?_ rfl rfl
  show Ex _ _ (cod m8_saysNumber 0, [some (.inl 21), some (.inr p)], [], lnm τ l) _ _
  refine ex_k 2 (P := none) (g := (cod m8_saysNumber 2, [some (.inl 21), some (.inr p)], [.inr 9, .inr p], lnm τ l)) rfl trivial ?_
  refine ex_b (P := p ≤ 9) (ct := (cod m8_saysNumber 8, [some (.inl 21), some (.inr p)], [], lnm τ l)) (cf := (cod m8_saysNumber 3, [some (.inl 21), some (.inr p)], [], lnm τ l)) rfl ⟨⟨by omega, by omega⟩, ⟨by decide, by decide⟩⟩ (fun _ => ?_) (fun hh => absurd (by omega) hh)
  refine ex_k 5 (P := some (0 ≤ p ∧ p < 2147483648 ∧ 0 < 10 ∧ 10 < 2147483648)) (g := (cod m8_saysNumber 13, [some (.inl 21), some (.inr p)], [.inr (p % 10), .inr 48, .inl 21], lnm τ l)) rfl (by show 0 ≤ p ∧ p < 2147483648 ∧ 0 < 10 ∧ 10 < 2147483648; omega) ?_
  refine ex_k 2 (P := some (0 ≤ (48 + (p % 10)) ∧ (48 + (p % 10)) < 65536)) (g := (cod m8_saysNumber 15, [some (.inl 21), some (.inr p)], [.inr (48 + (p % 10)), .inl 21], lnm τ l)) rfl (by show 0 ≤ (48 + (p % 10)) ∧ (48 + (p % 10)) < 65536; omega) ?_
  refine ex_c (m_says (l := l) (v := 48 + (p % 10)) (by first | omega | (simp only [List.length_append, List.length_cons, List.length_nil]; omega)) (by omega)) (is := cod m8_saysNumber 16) (L := [some (.inl 21), some (.inr p)]) (st := []) rfl rfl rfl ?_
  show Ex _ _ (cod m8_saysNumber 16, [some (.inl 21), some (.inr p)], [], lnm τ (l ++ [48 + (p % 10)])) _ _
  exact ex_r rfl rfl rfl (rV (by unfold pll; rw [if_neg (by omega)]))
theorem m_saysNumber {τ : SZ} {l : List Int} {p : Int} (hl : l.length < 18) (hp : 0 ≤ p ∧ p < 20) : RZ 3 m8_saysNumber [.inl 21, .inr p] (lnm τ l) (.inl (none, lnm τ (l ++ pll p))) := by
  have hk := pll_len (p / 10)
  refine Ex.call ?_ rfl rfl
  show Ex _ _ (cod m8_saysNumber 0, [some (.inl 21), some (.inr p)], [], lnm τ l) _ _
  refine ex_k 2 (P := none) (g := (cod m8_saysNumber 2, [some (.inl 21), some (.inr p)], [.inr 9, .inr p], lnm τ l)) rfl trivial ?_
  refine ex_b (P := p ≤ 9) (ct := (cod m8_saysNumber 8, [some (.inl 21), some (.inr p)], [], lnm τ l)) (cf := (cod m8_saysNumber 3, [some (.inl 21), some (.inr p)], [], lnm τ l)) rfl ⟨⟨by omega, by omega⟩, ⟨by decide, by decide⟩⟩ (fun h1 => ?_) (fun h1 => ?_)
  · first
    | (exfalso; omega)
    | (
        refine ex_k 5 (P := some (0 ≤ p ∧ p < 2147483648 ∧ 0 < 10 ∧ 10 < 2147483648)) (g := (cod m8_saysNumber 13, [some (.inl 21), some (.inr p)], [.inr (p % 10), .inr 48, .inl 21], lnm τ l)) rfl (by show 0 ≤ p ∧ p < 2147483648 ∧ 0 < 10 ∧ 10 < 2147483648; omega) ?_
        refine ex_k 2 (P := some (0 ≤ (48 + (p % 10)) ∧ (48 + (p % 10)) < 65536)) (g := (cod m8_saysNumber 15, [some (.inl 21), some (.inr p)], [.inr (48 + (p % 10)), .inl 21], lnm τ l)) rfl (by show 0 ≤ (48 + (p % 10)) ∧ (48 + (p % 10)) < 65536; omega) ?_
        refine ex_c (m_says (l := l) (v := 48 + (p % 10)) (by first | omega | (simp only [List.length_append, List.length_cons, List.length_nil]; omega)) (by omega)) (is := cod m8_saysNumber 16) (L := [some (.inl 21), some (.inr p)]) (st := []) rfl rfl rfl ?_
        show Ex _ _ (cod m8_saysNumber 16, [some (.inl 21), some (.inr p)], [], lnm τ (l ++ [48 + (p % 10)])) _ _
        exact ex_r rfl rfl rfl (rV (by unfold pll; first | (rw [if_pos (by omega), if_neg (show ¬ 10 ≤ p / 10 by omega), List.append_assoc]; rw [show p / 10 % 10 = 1 from by omega]; rfl) | (rw [if_neg (by omega)]))))
  · first
    | (exfalso; omega)
    | (
        refine ex_k 4 (P := some (0 ≤ p ∧ p < 2147483648 ∧ 0 < 10 ∧ 10 < 2147483648)) (g := (cod m8_saysNumber 7, [some (.inl 21), some (.inr p)], [.inr (p / 10), .inl 21], lnm τ l)) rfl (by show 0 ≤ p ∧ p < 2147483648 ∧ 0 < 10 ∧ 10 < 2147483648; omega) ?_
        refine ex_c (m_saysNumber0 (l := l) (p := p / 10) (by first | omega | (simp only [List.length_append, List.length_cons, List.length_nil]; omega)) (by omega)) (is := cod m8_saysNumber 8) (L := [some (.inl 21), some (.inr p)]) (st := []) rfl rfl rfl ?_
        show Ex _ _ (cod m8_saysNumber 8, [some (.inl 21), some (.inr p)], [], lnm τ (l ++ pll (p / 10))) _ _
        refine ex_k 5 (P := some (0 ≤ p ∧ p < 2147483648 ∧ 0 < 10 ∧ 10 < 2147483648)) (g := (cod m8_saysNumber 13, [some (.inl 21), some (.inr p)], [.inr (p % 10), .inr 48, .inl 21], lnm τ (l ++ pll (p / 10)))) rfl (by show 0 ≤ p ∧ p < 2147483648 ∧ 0 < 10 ∧ 10 < 2147483648; omega) ?_
        refine ex_k 2 (P := some (0 ≤ (48 + (p % 10)) ∧ (48 + (p % 10)) < 65536)) (g := (cod m8_saysNumber 15, [some (.inl 21), some (.inr p)], [.inr (48 + (p % 10)), .inl 21], lnm τ (l ++ pll (p / 10)))) rfl (by show 0 ≤ (48 + (p % 10)) ∧ (48 + (p % 10)) < 65536; omega) ?_
        refine ex_c (m_says (l := (l ++ pll (p / 10))) (v := 48 + (p % 10)) (by first | omega | (simp only [List.length_append, List.length_cons, List.length_nil]; omega)) (by omega)) (is := cod m8_saysNumber 16) (L := [some (.inl 21), some (.inr p)]) (st := []) rfl rfl rfl ?_
        show Ex _ _ (cod m8_saysNumber 16, [some (.inl 21), some (.inr p)], [], lnm τ ((l ++ pll (p / 10)) ++ [48 + (p % 10)])) _ _
        exact ex_r rfl rfl rfl (rV (by unfold pll; first | (rw [if_pos (by omega), if_neg (show ¬ 10 ≤ p / 10 by omega), List.append_assoc]; rw [show p / 10 % 10 = 1 from by omega]; rfl) | (rw [if_neg (by omega)]))))
theorem m_letter {f : Int} {τ : SZ} {c : Nat → Int} {B : Int} (hI : Iv B c) (hR : Rs c (τ 22)) (hf : 0 ≤ f ∧ f < cel c 107) : RZ 3 m8_letter [.inl 21, .inr f] τ (.inl (some (.inr (ltr c f)), τ)) := by
  have hS := hI.1
  have hC := hI.2.1
  have hN := hS.n
  have hkg := hS.kg (f := f) (by omega)
  refine Ex.call ?_ rfl rfl
  show Ex _ _ (cod m8_letter 0, [some (.inl 21), some (.inr f)], [], τ) _ _
  refine ex_k 3 (P := none) (g := (cod m8_letter 3, [some (.inl 21), some (.inr f)], [.inr 3, .inr f, .inl 21], τ)) rfl trivial ?_
  refine ex_c (m_of (τ := τ) (f := f) (w := 3) hI hR (by omega) (by omega)) (is := cod m8_letter 4) (L := [some (.inl 21), some (.inr f)]) (st := []) rfl rfl rfl ?_
  show Ex _ _ (cod m8_letter 4, [some (.inl 21), some (.inr f)], [.inr (cel c (0 + f * 6 + 3))], τ) _ _
  refine ex_k 1 (P := none) (g := (cod m8_letter 5, [some (.inl 21), some (.inr f)], [.inr 1, .inr (cel c (0 + f * 6 + 3))], τ)) rfl trivial ?_
  refine ex_b (P := ¬ (cel c (0 + f * 6 + 3)) = 1) (ct := (cod m8_letter 8, [some (.inl 21), some (.inr f)], [], τ)) (cf := (cod m8_letter 6, [some (.inl 21), some (.inr f)], [], τ)) rfl ⟨⟨by omega, by omega⟩, ⟨by decide, by decide⟩⟩ (fun h1 => ?_) (fun h1 => ?_)
  · first
    | (exfalso; omega)
    | (
        refine ex_k 4 (P := some (0 ≤ (97 + f) ∧ (97 + f) < 65536)) (g := (cod m8_letter 12, [some (.inl 21), some (.inr f)], [.inr (97 + f)], τ)) rfl (by show 0 ≤ (97 + f) ∧ (97 + f) < 65536; omega) ?_
        exact ex_r rfl ⟨by omega, by omega⟩ rfl (rI (by unfold ltr; first | rw [if_pos (by omega)] | rw [if_neg (by omega)])))
  · first
    | (exfalso; omega)
    | (
        refine ex_k 5 (P := some (0 ≤ (65 + f) ∧ (65 + f) < 65536)) (g := (cod m8_letter 12, [some (.inl 21), some (.inr f)], [.inr (65 + f)], τ)) rfl (by show 0 ≤ (65 + f) ∧ (65 + f) < 65536; omega) ?_
        exact ex_r rfl ⟨by omega, by omega⟩ rfl (rI (by unfold ltr; first | rw [if_pos (by omega)] | rw [if_neg (by omega)])))
theorem lp_mriver {r : Int} {τ : SZ} {c : Nat → Int} {B : Int} (hI : Iv B c) (hR : Rs c (τ 22)) (hr : 0 ≤ r ∧ r < 2) : ∀ (j k : Nat), k + j = 12 → ∀ (o3 : Option VZ), Ex 3 m8_riverLine (cod m8_riverLine 18, [some (.inl 21), some (.inr r), some (.inr (k : Int)), o3], [], lnm τ (rvl c r k)) 0 (.inl (some (.inr 12), lnm τ (rvl c r 12))) := by
  have hS := hI.1
  have hC := hI.2.1
  have hN := hS.n
  intro j
  induction j with
  | zero =>
    intro k hk o3
    have hw := hS.wh (p := (k : Int)) hr
    have hu := hS.us (p := (k : Int)) hr
    have hlen := rvl_len (c := c) (r := r) k
    have hov := hC.ov (p := (k : Int)) hr
    have hlt : 0 ≤ whz c r (k : Int) → 60 ≤ ltr c (whz c r (k : Int)) ∧ ltr c (whz c r (k : Int)) < 200 := fun q => ltr_in (by omega)
    refine ex_k 2 (P := none) (g := (cod m8_riverLine 20, [some (.inl 21), some (.inr r), some (.inr (k : Int)), o3], [.inr 12, .inr (k : Int)], lnm τ (rvl c r k))) rfl trivial ?_
    refine ex_b (P := 12 ≤ (k : Int)) (ct := (cod m8_riverLine 51, [some (.inl 21), some (.inr r), some (.inr (k : Int)), o3], [], lnm τ (rvl c r k))) (cf := (cod m8_riverLine 21, [some (.inl 21), some (.inr r), some (.inr (k : Int)), o3], [], lnm τ (rvl c r k))) rfl ⟨⟨by omega, by omega⟩, ⟨by decide, by decide⟩⟩ (fun _ => ?_) (fun hh => absurd (by omega) hh)
    refine ex_k 2 (P := none) (g := (cod m8_riverLine 53, [some (.inl 21), some (.inr r), some (.inr (k : Int)), o3], [.inr (((lnm τ (rvl c r k)) 21) 12)], lnm τ (rvl c r k))) rfl trivial ?_
    exact ex_r rfl trivial rfl (rIV (by show 12 = ((rvl c r k).length : Int); rw [hlen]; omega) (by rw [show k = 12 from by omega]))
  | succ j ih =>
    intro k hk o3
    have hw := hS.wh (p := (k : Int)) hr
    have hu := hS.us (p := (k : Int)) hr
    have hlen := rvl_len (c := c) (r := r) k
    have hov := hC.ov (p := (k : Int)) hr
    have hlt : 0 ≤ whz c r (k : Int) → 60 ≤ ltr c (whz c r (k : Int)) ∧ ltr c (whz c r (k : Int)) < 200 := fun q => ltr_in (by omega)
    refine ex_k 2 (P := none) (g := (cod m8_riverLine 20, [some (.inl 21), some (.inr r), some (.inr (k : Int)), o3], [.inr 12, .inr (k : Int)], lnm τ (rvl c r k))) rfl trivial ?_
    refine ex_b (P := 12 ≤ (k : Int)) (ct := (cod m8_riverLine 51, [some (.inl 21), some (.inr r), some (.inr (k : Int)), o3], [], lnm τ (rvl c r k))) (cf := (cod m8_riverLine 21, [some (.inl 21), some (.inr r), some (.inr (k : Int)), o3], [], lnm τ (rvl c r k))) rfl ⟨⟨by omega, by omega⟩, ⟨by decide, by decide⟩⟩ (fun hh => absurd hh (by omega)) (fun _ => ?_)
    refine ex_k 3 (P := none) (g := (cod m8_riverLine 24, [some (.inl 21), some (.inr r), some (.inr (k : Int)), o3], [.inr (k : Int), .inr r, .inl 21], lnm τ (rvl c r k))) rfl trivial ?_
    refine ex_c (m_there (τ := lnm τ (rvl c r k)) (r := r) (p := (k : Int)) hI hR (by omega) (by omega)) (is := cod m8_riverLine 25) (L := [some (.inl 21), some (.inr r), some (.inr (k : Int)), o3]) (st := []) rfl rfl rfl ?_
    show Ex _ _ (cod m8_riverLine 25, [some (.inl 21), some (.inr r), some (.inr (k : Int)), o3], [.inr (whz c r (k : Int))], lnm τ (rvl c r k)) _ _
    refine ex_k 4 (P := none) (g := (cod m8_riverLine 29, [some (.inl 21), some (.inr r), some (.inr (k : Int)), some (.inr (whz c r (k : Int)))], [.inr 8, .inr (whz c r (k : Int)), .inl 21], lnm τ (rvl c r k))) rfl trivial ?_
    refine ex_b (P := ¬ (whz c r (k : Int)) = 8) (ct := (cod m8_riverLine 32, [some (.inl 21), some (.inr r), some (.inr (k : Int)), some (.inr (whz c r (k : Int)))], [.inl 21], lnm τ (rvl c r k))) (cf := (cod m8_riverLine 30, [some (.inl 21), some (.inr r), some (.inr (k : Int)), some (.inr (whz c r (k : Int)))], [.inl 21], lnm τ (rvl c r k))) rfl ⟨⟨by omega, by omega⟩, ⟨by decide, by decide⟩⟩ (fun h2 => ?_) (fun h2 => ?_)
    · first
      | (exfalso; omega)
      | (
          refine ex_k 1 (P := none) (g := (cod m8_riverLine 33, [some (.inl 21), some (.inr r), some (.inr (k : Int)), some (.inr (whz c r (k : Int)))], [.inr (whz c r (k : Int)), .inl 21], lnm τ (rvl c r k))) rfl trivial ?_
          refine ex_b (P := (whz c r (k : Int)) < 0) (ct := (cod m8_riverLine 38, [some (.inl 21), some (.inr r), some (.inr (k : Int)), some (.inr (whz c r (k : Int)))], [.inl 21], lnm τ (rvl c r k))) (cf := (cod m8_riverLine 34, [some (.inl 21), some (.inr r), some (.inr (k : Int)), some (.inr (whz c r (k : Int)))], [.inl 21], lnm τ (rvl c r k))) rfl ⟨by omega, by omega⟩ (fun h3 => ?_) (fun h3 => ?_)
          · first
            | (exfalso; omega)
            | (
                refine ex_k 5 (P := none) (g := (cod m8_riverLine 43, [some (.inl 21), some (.inr r), some (.inr (k : Int)), some (.inr (whz c r (k : Int)))], [.inr (2 + (k : Int)), .inr r, .inl 21, .inl 21], lnm τ (rvl c r k))) rfl trivial ?_
                refine ex_c (m_ol (τ := lnm τ (rvl c r k)) (r := r) (p := (k : Int)) hI hR (by omega) (by omega)) (is := cod m8_riverLine 44) (L := [some (.inl 21), some (.inr r), some (.inr (k : Int)), some (.inr (whz c r (k : Int)))]) (st := [.inl 21]) rfl rfl rfl ?_
                show Ex _ _ (cod m8_riverLine 44, [some (.inl 21), some (.inr r), some (.inr (k : Int)), some (.inr (whz c r (k : Int)))], [.inr (usz c r (k : Int)), .inl 21], lnm τ (rvl c r k)) _ _
                refine ex_b (P := (usz c r (k : Int)) ≤ 0) (ct := (cod m8_riverLine 47, [some (.inl 21), some (.inr r), some (.inr (k : Int)), some (.inr (whz c r (k : Int)))], [.inl 21], lnm τ (rvl c r k))) (cf := (cod m8_riverLine 45, [some (.inl 21), some (.inr r), some (.inr (k : Int)), some (.inr (whz c r (k : Int)))], [.inl 21], lnm τ (rvl c r k))) rfl ⟨by omega, by omega⟩ (fun h4 => ?_) (fun h4 => ?_)
                · first
                  | (exfalso; omega)
                  | (
                      refine ex_k 1 (P := none) (g := (cod m8_riverLine 48, [some (.inl 21), some (.inr r), some (.inr (k : Int)), some (.inr (whz c r (k : Int)))], [.inr 46, .inl 21], lnm τ (rvl c r k))) rfl trivial ?_
                      refine ex_c (m_says (l := (rvl c r k)) (v := 46) (by first | omega | (simp only [List.length_append, List.length_cons, List.length_nil]; omega)) (by omega)) (is := cod m8_riverLine 49) (L := [some (.inl 21), some (.inr r), some (.inr (k : Int)), some (.inr (whz c r (k : Int)))]) (st := []) rfl rfl rfl ?_
                      show Ex _ _ (cod m8_riverLine 49, [some (.inl 21), some (.inr r), some (.inr (k : Int)), some (.inr (whz c r (k : Int)))], [], lnm τ ((rvl c r k) ++ [46])) _ _
                      refine ex_k 2 (P := none) (g := (cod m8_riverLine 18, [some (.inl 21), some (.inr r), some (.inr ((k : Int) + 1)), some (.inr (whz c r (k : Int)))], [], lnm τ ((rvl c r k) ++ [46]))) rfl trivial ?_
                      rw [show ((rvl c r k) ++ [46]) = rvl c r (k + 1) from by show _ = rvl c r k ++ [chr c r (k : Int)]; unfold chr; (repeat (first | rw [if_pos (by omega)] | rw [if_neg (by omega)]))]
                      exact ih (k + 1) (by omega) _)
                · first
                  | (exfalso; omega)
                  | (
                      refine ex_k 2 (P := none) (g := (cod m8_riverLine 48, [some (.inl 21), some (.inr r), some (.inr (k : Int)), some (.inr (whz c r (k : Int)))], [.inr 61, .inl 21], lnm τ (rvl c r k))) rfl trivial ?_
                      refine ex_c (m_says (l := (rvl c r k)) (v := 61) (by first | omega | (simp only [List.length_append, List.length_cons, List.length_nil]; omega)) (by omega)) (is := cod m8_riverLine 49) (L := [some (.inl 21), some (.inr r), some (.inr (k : Int)), some (.inr (whz c r (k : Int)))]) (st := []) rfl rfl rfl ?_
                      show Ex _ _ (cod m8_riverLine 49, [some (.inl 21), some (.inr r), some (.inr (k : Int)), some (.inr (whz c r (k : Int)))], [], lnm τ ((rvl c r k) ++ [61])) _ _
                      refine ex_k 2 (P := none) (g := (cod m8_riverLine 18, [some (.inl 21), some (.inr r), some (.inr ((k : Int) + 1)), some (.inr (whz c r (k : Int)))], [], lnm τ ((rvl c r k) ++ [61]))) rfl trivial ?_
                      rw [show ((rvl c r k) ++ [61]) = rvl c r (k + 1) from by show _ = rvl c r k ++ [chr c r (k : Int)]; unfold chr; (repeat (first | rw [if_pos (by omega)] | rw [if_neg (by omega)]))]
                      exact ih (k + 1) (by omega) _))
          · first
            | (exfalso; omega)
            | (
                refine ex_k 2 (P := none) (g := (cod m8_riverLine 36, [some (.inl 21), some (.inr r), some (.inr (k : Int)), some (.inr (whz c r (k : Int)))], [.inr (whz c r (k : Int)), .inl 21, .inl 21], lnm τ (rvl c r k))) rfl trivial ?_
                refine ex_c (m_letter (τ := lnm τ (rvl c r k)) (f := whz c r (k : Int)) hI hR (by omega)) (is := cod m8_riverLine 37) (L := [some (.inl 21), some (.inr r), some (.inr (k : Int)), some (.inr (whz c r (k : Int)))]) (st := [.inl 21]) rfl rfl rfl ?_
                show Ex _ _ (cod m8_riverLine 37, [some (.inl 21), some (.inr r), some (.inr (k : Int)), some (.inr (whz c r (k : Int)))], [.inr (ltr c (whz c r (k : Int))), .inl 21], lnm τ (rvl c r k)) _ _
                refine ex_k 1 (P := none) (g := (cod m8_riverLine 48, [some (.inl 21), some (.inr r), some (.inr (k : Int)), some (.inr (whz c r (k : Int)))], [.inr (ltr c (whz c r (k : Int))), .inl 21], lnm τ (rvl c r k))) rfl trivial ?_
                refine ex_c (m_says (l := (rvl c r k)) (v := ltr c (whz c r (k : Int))) (by first | omega | (simp only [List.length_append, List.length_cons, List.length_nil]; omega)) (by omega)) (is := cod m8_riverLine 49) (L := [some (.inl 21), some (.inr r), some (.inr (k : Int)), some (.inr (whz c r (k : Int)))]) (st := []) rfl rfl rfl ?_
                show Ex _ _ (cod m8_riverLine 49, [some (.inl 21), some (.inr r), some (.inr (k : Int)), some (.inr (whz c r (k : Int)))], [], lnm τ ((rvl c r k) ++ [ltr c (whz c r (k : Int))])) _ _
                refine ex_k 2 (P := none) (g := (cod m8_riverLine 18, [some (.inl 21), some (.inr r), some (.inr ((k : Int) + 1)), some (.inr (whz c r (k : Int)))], [], lnm τ ((rvl c r k) ++ [ltr c (whz c r (k : Int))]))) rfl trivial ?_
                rw [show ((rvl c r k) ++ [ltr c (whz c r (k : Int))]) = rvl c r (k + 1) from by show _ = rvl c r k ++ [chr c r (k : Int)]; unfold chr; (repeat (first | rw [if_pos (by omega)] | rw [if_neg (by omega)]))]
                exact ih (k + 1) (by omega) _))
    · first
      | (exfalso; omega)
      | (
          refine ex_k 2 (P := none) (g := (cod m8_riverLine 48, [some (.inl 21), some (.inr r), some (.inr (k : Int)), some (.inr (whz c r (k : Int)))], [.inr 42, .inl 21], lnm τ (rvl c r k))) rfl trivial ?_
          refine ex_c (m_says (l := (rvl c r k)) (v := 42) (by first | omega | (simp only [List.length_append, List.length_cons, List.length_nil]; omega)) (by omega)) (is := cod m8_riverLine 49) (L := [some (.inl 21), some (.inr r), some (.inr (k : Int)), some (.inr (whz c r (k : Int)))]) (st := []) rfl rfl rfl ?_
          show Ex _ _ (cod m8_riverLine 49, [some (.inl 21), some (.inr r), some (.inr (k : Int)), some (.inr (whz c r (k : Int)))], [], lnm τ ((rvl c r k) ++ [42])) _ _
          refine ex_k 2 (P := none) (g := (cod m8_riverLine 18, [some (.inl 21), some (.inr r), some (.inr ((k : Int) + 1)), some (.inr (whz c r (k : Int)))], [], lnm τ ((rvl c r k) ++ [42]))) rfl trivial ?_
          rw [show ((rvl c r k) ++ [42]) = rvl c r (k + 1) from by show _ = rvl c r k ++ [chr c r (k : Int)]; unfold chr; (repeat (first | rw [if_pos (by omega)] | rw [if_neg (by omega)]))]
          exact ih (k + 1) (by omega) _)
theorem d_riverLine {r : Int} {τ : SZ} {c : Nat → Int} {B : Int} (hI : Iv B c) (hR : Rs c (τ 22)) (hr : Rng r) : RZ 4 m8_riverLine [.inl 21, .inr r] τ (if 0 ≤ r ∧ r < 2 then .inl (some (.inr 12), lnm (th τ 0) (rvl c r 12)) else .inl (some (.inr 0), th τ 1)) := by
  obtain ⟨hr1, hr2⟩ := hr
  refine Ex.call ?_ rfl rfl
  show Ex _ _ (cod m8_riverLine 0, [some (.inl 21), some (.inr r), none, none], [], τ) _ _
  refine ex_k 2 (P := none) (g := (cod m8_riverLine 2, [some (.inl 21), some (.inr r), none, none], [.inr r, .inl 21], τ)) rfl trivial ?_
  refine ex_c (m_isRiver (τ := τ) (v := r) ⟨by omega, by omega⟩) (is := cod m8_riverLine 3) (L := [some (.inl 21), some (.inr r), none, none]) (st := [.inl 21]) rfl rfl rfl ?_
  show Ex _ _ (cod m8_riverLine 3, [some (.inl 21), some (.inr r), none, none], [.inr (b2 (0 ≤ r ∧ r < 2)), .inl 21], τ) _ _
  refine ex_b (P := (b2 (0 ≤ r ∧ r < 2)) = 0) (ct := (cod m8_riverLine 6, [some (.inl 21), some (.inr r), none, none], [.inl 21], τ)) (cf := (cod m8_riverLine 4, [some (.inl 21), some (.inr r), none, none], [.inl 21], τ)) rfl b2_rng (fun h1 => ?_) (fun h1 => ?_)
  · first
    | (exfalso; have h1 := b2_e0 h1; omega)
    | (
        have h1 := b2_e0 h1
        refine ex_k 2 (P := none) (g := (cod m8_riverLine 8, [some (.inl 21), some (.inr r), none, none], [], (zr τ 21 (zu (τ 21) 7 1)))) rfl trivial ?_
        refine ex_k 2 (P := none) (g := (cod m8_riverLine 10, [some (.inl 21), some (.inr r), none, none], [.inr 1], (zr τ 21 (zu (τ 21) 7 1)))) rfl trivial ?_
        refine ex_b (P := 1 ≤ 0) (ct := (cod m8_riverLine 13, [some (.inl 21), some (.inr r), none, none], [], (zr τ 21 (zu (τ 21) 7 1)))) (cf := (cod m8_riverLine 11, [some (.inl 21), some (.inr r), none, none], [], (zr τ 21 (zu (τ 21) 7 1)))) rfl ⟨by decide, by decide⟩ (fun hh => absurd hh (by decide)) (fun _ => ?_)
        refine ex_k 1 (P := none) (g := (cod m8_riverLine 12, [some (.inl 21), some (.inr r), none, none], [.inr 0], (zr τ 21 (zu (τ 21) 7 1)))) rfl trivial ?_
        exact ex_r rfl trivial rfl (by rw [if_neg (by omega)]; rfl))
  · first
    | (exfalso; have h1 := b2_n0 h1; omega)
    | (
        have h1 := b2_n0 h1
        refine ex_k 3 (P := none) (g := (cod m8_riverLine 8, [some (.inl 21), some (.inr r), none, none], [], (zr τ 21 (zu (τ 21) 7 0)))) rfl trivial ?_
        refine ex_k 2 (P := none) (g := (cod m8_riverLine 10, [some (.inl 21), some (.inr r), none, none], [.inr 0], (zr τ 21 (zu (τ 21) 7 0)))) rfl trivial ?_
        refine ex_b (P := 0 ≤ 0) (ct := (cod m8_riverLine 13, [some (.inl 21), some (.inr r), none, none], [], (zr τ 21 (zu (τ 21) 7 0)))) (cf := (cod m8_riverLine 11, [some (.inl 21), some (.inr r), none, none], [], (zr τ 21 (zu (τ 21) 7 0)))) rfl ⟨by decide, by decide⟩ (fun _ => ?_) (fun hh => absurd (by decide) hh)
        refine ex_k 3 (P := none) (g := (cod m8_riverLine 16, [some (.inl 21), some (.inr r), none, none], [], (zr (zr τ 21 (zu (τ 21) 7 0)) 21 (zu (zu (τ 21) 7 0) 12 0)))) rfl trivial ?_
        rw [zr_zr]
        refine ex_k 2 (P := none) (g := (cod m8_riverLine 18, [some (.inl 21), some (.inr r), some (.inr 0), none], [], (zr τ 21 (zu (zu (τ 21) 7 0) 12 0)))) rfl trivial ?_
        rw [show (zr τ 21 (zu (zu (τ 21) 7 0) 12 0)) = lnm (th τ 0) [] from by unfold lnm th; rw [lnl_nil, zr_ne (by decide), show zr (zr τ 21 (zu (τ 21) 7 0)) 28 (τ 28) = zr τ 21 (zu (τ 21) 7 0) from zr_self (τ := zr τ 21 (zu (τ 21) 7 0)) (a := 28), zr_zr]; rfl]
        rw [if_pos (by omega)]
        exact lp_mriver (τ := th τ 0) hI hR (by omega) 12 0 (by omega) none)
theorem fll_m {B : Int} {c : Nat → Int} (hS : Sh B c) {f : Int} (hf : 0 ≤ f ∧ f < 8) : ([] ++ [ltr c f] ++ pll (cel c (0 + f * 6 + 0)) ++ [64] ++ pll (cel c (0 + f * 6 + 1)) ++ [47] ++ pll (cel c (0 + f * 6 + 2)) : List Int) = fll c f := by
  have hsd := hS.sd hf
  unfold fll
  rw [show pll (cel c (0 + f * 6 + 0)) = [48 + cel c (0 + f * 6 + 0)] from by unfold pll; rw [if_neg (by omega), show cel c (0 + f * 6 + 0) % 10 = cel c (0 + f * 6 + 0) from by omega]]
theorem d_ferryLine {f : Int} {τ : SZ} {c : Nat → Int} {B : Int} (hI : Iv B c) (hR : Rs c (τ 22)) (hf : Rng f) : RZ 4 m8_ferryLine [.inl 21, .inr f] τ (if 0 ≤ f ∧ f < cel c 107 then .inl (some (.inr ((fll c f).length : Int)), lnm (th τ 0) (fll c f)) else .inl (some (.inr 0), th τ 1)) := by
  have hS := hI.1
  have hC := hI.2.1
  have hN := hS.n
  obtain ⟨hf1, hf2⟩ := hf
  have hsd : (0 ≤ f ∧ f < cel c 107) → 0 ≤ cel c (0 + f * 6 + 0) ∧ cel c (0 + f * 6 + 0) ≤ 1 := fun q => hS.sd (by omega)
  have hp1 : (0 ≤ f ∧ f < cel c 107) → 0 ≤ cel c (0 + f * 6 + 1) ∧ cel c (0 + f * 6 + 1) ≤ 11 := fun q => hS.p1 (by omega)
  have hp2 : (0 ≤ f ∧ f < cel c 107) → 0 ≤ cel c (0 + f * 6 + 2) ∧ cel c (0 + f * 6 + 2) ≤ 11 := fun q => hS.p2 (by omega)
  have hl : (0 ≤ f ∧ f < cel c 107) → 60 ≤ ltr c f ∧ ltr c f < 200 := fun q => ltr_in (c := c) (f := f) (by omega)
  have hk0 := pll_len (cel c (0 + f * 6 + 0))
  have hk1 := pll_len (cel c (0 + f * 6 + 1))
  have hk2 := pll_len (cel c (0 + f * 6 + 2))
  refine Ex.call ?_ rfl rfl
  show Ex _ _ (cod m8_ferryLine 0, [some (.inl 21), some (.inr f)], [], τ) _ _
  refine ex_k 3 (P := none) (g := (cod m8_ferryLine 3, [some (.inl 21), some (.inr f)], [.inr f, .inl 21, .inl 21], τ)) rfl trivial ?_
  refine ex_c (m_isFerry (τ := τ) (f := f) hI hR ⟨by omega, by omega⟩) (is := cod m8_ferryLine 4) (L := [some (.inl 21), some (.inr f)]) (st := [.inl 21]) rfl rfl rfl ?_
  show Ex _ _ (cod m8_ferryLine 4, [some (.inl 21), some (.inr f)], [.inr (b2 (0 ≤ f ∧ f < cel c 107)), .inl 21], τ) _ _
  refine ex_b (P := (b2 (0 ≤ f ∧ f < cel c 107)) = 0) (ct := (cod m8_ferryLine 7, [some (.inl 21), some (.inr f)], [.inl 21], τ)) (cf := (cod m8_ferryLine 5, [some (.inl 21), some (.inr f)], [.inl 21], τ)) rfl b2_rng (fun h1 => ?_) (fun h1 => ?_)
  · first
    | (exfalso; have h1 := b2_e0 h1; omega)
    | (
        have h1 := b2_e0 h1
        refine ex_k 2 (P := none) (g := (cod m8_ferryLine 9, [some (.inl 21), some (.inr f)], [], (zr τ 21 (zu (τ 21) 7 1)))) rfl trivial ?_
        refine ex_k 2 (P := none) (g := (cod m8_ferryLine 11, [some (.inl 21), some (.inr f)], [.inr 1], (zr τ 21 (zu (τ 21) 7 1)))) rfl trivial ?_
        refine ex_b (P := 1 ≤ 0) (ct := (cod m8_ferryLine 14, [some (.inl 21), some (.inr f)], [], (zr τ 21 (zu (τ 21) 7 1)))) (cf := (cod m8_ferryLine 12, [some (.inl 21), some (.inr f)], [], (zr τ 21 (zu (τ 21) 7 1)))) rfl ⟨by decide, by decide⟩ (fun hh => absurd hh (by decide)) (fun _ => ?_)
        refine ex_k 1 (P := none) (g := (cod m8_ferryLine 13, [some (.inl 21), some (.inr f)], [.inr 0], (zr τ 21 (zu (τ 21) 7 1)))) rfl trivial ?_
        exact ex_r rfl trivial rfl (by rw [if_neg (by omega)]; rfl))
  · first
    | (exfalso; have h1 := b2_n0 h1; omega)
    | (
        have h1 := b2_n0 h1
        refine ex_k 3 (P := none) (g := (cod m8_ferryLine 9, [some (.inl 21), some (.inr f)], [], (zr τ 21 (zu (τ 21) 7 0)))) rfl trivial ?_
        refine ex_k 2 (P := none) (g := (cod m8_ferryLine 11, [some (.inl 21), some (.inr f)], [.inr 0], (zr τ 21 (zu (τ 21) 7 0)))) rfl trivial ?_
        refine ex_b (P := 0 ≤ 0) (ct := (cod m8_ferryLine 14, [some (.inl 21), some (.inr f)], [], (zr τ 21 (zu (τ 21) 7 0)))) (cf := (cod m8_ferryLine 12, [some (.inl 21), some (.inr f)], [], (zr τ 21 (zu (τ 21) 7 0)))) rfl ⟨by decide, by decide⟩ (fun _ => ?_) (fun hh => absurd (by decide) hh)
        refine ex_k 3 (P := none) (g := (cod m8_ferryLine 17, [some (.inl 21), some (.inr f)], [], (zr (zr τ 21 (zu (τ 21) 7 0)) 21 (zu (zu (τ 21) 7 0) 12 0)))) rfl trivial ?_
        rw [zr_zr]
        rw [show (zr τ 21 (zu (zu (τ 21) 7 0) 12 0)) = lnm (th τ 0) [] from by unfold lnm th; rw [lnl_nil, zr_ne (by decide), show zr (zr τ 21 (zu (τ 21) 7 0)) 28 (τ 28) = zr τ 21 (zu (τ 21) 7 0) from zr_self (τ := zr τ 21 (zu (τ 21) 7 0)) (a := 28), zr_zr]; rfl]
        rw [if_pos (by omega)]
        have hfq := fll_m hS (f := f) (by omega)
        refine ex_k 3 (P := none) (g := (cod m8_ferryLine 20, [some (.inl 21), some (.inr f)], [.inr f, .inl 21, .inl 21], lnm (th τ 0) [])) rfl trivial ?_
        refine ex_c (m_letter (τ := lnm (th τ 0) []) (f := f) hI hR (by omega)) (is := cod m8_ferryLine 21) (L := [some (.inl 21), some (.inr f)]) (st := [.inl 21]) rfl rfl rfl ?_
        show Ex _ _ (cod m8_ferryLine 21, [some (.inl 21), some (.inr f)], [.inr (ltr c f), .inl 21], lnm (th τ 0) []) _ _
        refine ex_c (m_says (l := []) (v := ltr c f) (by first | omega | (simp only [List.length_append, List.length_cons, List.length_nil]; omega)) (by omega)) (is := cod m8_ferryLine 22) (L := [some (.inl 21), some (.inr f)]) (st := []) rfl rfl rfl ?_
        show Ex _ _ (cod m8_ferryLine 22, [some (.inl 21), some (.inr f)], [], lnm (th τ 0) ([] ++ [ltr c f])) _ _
        refine ex_k 4 (P := none) (g := (cod m8_ferryLine 26, [some (.inl 21), some (.inr f)], [.inr 0, .inr f, .inl 21, .inl 21], lnm (th τ 0) ([] ++ [ltr c f]))) rfl trivial ?_
        refine ex_c (m_of (τ := lnm (th τ 0) ([] ++ [ltr c f])) (f := f) (w := 0) hI hR (by omega) (by omega)) (is := cod m8_ferryLine 27) (L := [some (.inl 21), some (.inr f)]) (st := [.inl 21]) rfl rfl rfl ?_
        show Ex _ _ (cod m8_ferryLine 27, [some (.inl 21), some (.inr f)], [.inr (cel c (0 + f * 6 + 0)), .inl 21], lnm (th τ 0) ([] ++ [ltr c f])) _ _
        refine ex_c (m_saysNumber (l := ([] ++ [ltr c f])) (p := cel c (0 + f * 6 + 0)) (by first | omega | (simp only [List.length_append, List.length_cons, List.length_nil]; omega)) (by omega)) (is := cod m8_ferryLine 28) (L := [some (.inl 21), some (.inr f)]) (st := []) rfl rfl rfl ?_
        show Ex _ _ (cod m8_ferryLine 28, [some (.inl 21), some (.inr f)], [], lnm (th τ 0) (([] ++ [ltr c f]) ++ pll (cel c (0 + f * 6 + 0)))) _ _
        refine ex_k 2 (P := none) (g := (cod m8_ferryLine 30, [some (.inl 21), some (.inr f)], [.inr 64, .inl 21], lnm (th τ 0) (([] ++ [ltr c f]) ++ pll (cel c (0 + f * 6 + 0))))) rfl trivial ?_
        refine ex_c (m_says (l := (([] ++ [ltr c f]) ++ pll (cel c (0 + f * 6 + 0)))) (v := 64) (by first | omega | (simp only [List.length_append, List.length_cons, List.length_nil]; omega)) (by omega)) (is := cod m8_ferryLine 31) (L := [some (.inl 21), some (.inr f)]) (st := []) rfl rfl rfl ?_
        show Ex _ _ (cod m8_ferryLine 31, [some (.inl 21), some (.inr f)], [], lnm (th τ 0) ((([] ++ [ltr c f]) ++ pll (cel c (0 + f * 6 + 0))) ++ [64])) _ _
        refine ex_k 4 (P := none) (g := (cod m8_ferryLine 35, [some (.inl 21), some (.inr f)], [.inr 1, .inr f, .inl 21, .inl 21], lnm (th τ 0) ((([] ++ [ltr c f]) ++ pll (cel c (0 + f * 6 + 0))) ++ [64]))) rfl trivial ?_
        refine ex_c (m_of (τ := lnm (th τ 0) ((([] ++ [ltr c f]) ++ pll (cel c (0 + f * 6 + 0))) ++ [64])) (f := f) (w := 1) hI hR (by omega) (by omega)) (is := cod m8_ferryLine 36) (L := [some (.inl 21), some (.inr f)]) (st := [.inl 21]) rfl rfl rfl ?_
        show Ex _ _ (cod m8_ferryLine 36, [some (.inl 21), some (.inr f)], [.inr (cel c (0 + f * 6 + 1)), .inl 21], lnm (th τ 0) ((([] ++ [ltr c f]) ++ pll (cel c (0 + f * 6 + 0))) ++ [64])) _ _
        refine ex_c (m_saysNumber (l := ((([] ++ [ltr c f]) ++ pll (cel c (0 + f * 6 + 0))) ++ [64])) (p := cel c (0 + f * 6 + 1)) (by first | omega | (simp only [List.length_append, List.length_cons, List.length_nil]; omega)) (by omega)) (is := cod m8_ferryLine 37) (L := [some (.inl 21), some (.inr f)]) (st := []) rfl rfl rfl ?_
        show Ex _ _ (cod m8_ferryLine 37, [some (.inl 21), some (.inr f)], [], lnm (th τ 0) (((([] ++ [ltr c f]) ++ pll (cel c (0 + f * 6 + 0))) ++ [64]) ++ pll (cel c (0 + f * 6 + 1)))) _ _
        refine ex_k 2 (P := none) (g := (cod m8_ferryLine 39, [some (.inl 21), some (.inr f)], [.inr 47, .inl 21], lnm (th τ 0) (((([] ++ [ltr c f]) ++ pll (cel c (0 + f * 6 + 0))) ++ [64]) ++ pll (cel c (0 + f * 6 + 1))))) rfl trivial ?_
        refine ex_c (m_says (l := (((([] ++ [ltr c f]) ++ pll (cel c (0 + f * 6 + 0))) ++ [64]) ++ pll (cel c (0 + f * 6 + 1)))) (v := 47) (by first | omega | (simp only [List.length_append, List.length_cons, List.length_nil]; omega)) (by omega)) (is := cod m8_ferryLine 40) (L := [some (.inl 21), some (.inr f)]) (st := []) rfl rfl rfl ?_
        show Ex _ _ (cod m8_ferryLine 40, [some (.inl 21), some (.inr f)], [], lnm (th τ 0) ((((([] ++ [ltr c f]) ++ pll (cel c (0 + f * 6 + 0))) ++ [64]) ++ pll (cel c (0 + f * 6 + 1))) ++ [47])) _ _
        refine ex_k 4 (P := none) (g := (cod m8_ferryLine 44, [some (.inl 21), some (.inr f)], [.inr 2, .inr f, .inl 21, .inl 21], lnm (th τ 0) ((((([] ++ [ltr c f]) ++ pll (cel c (0 + f * 6 + 0))) ++ [64]) ++ pll (cel c (0 + f * 6 + 1))) ++ [47]))) rfl trivial ?_
        refine ex_c (m_of (τ := lnm (th τ 0) ((((([] ++ [ltr c f]) ++ pll (cel c (0 + f * 6 + 0))) ++ [64]) ++ pll (cel c (0 + f * 6 + 1))) ++ [47])) (f := f) (w := 2) hI hR (by omega) (by omega)) (is := cod m8_ferryLine 45) (L := [some (.inl 21), some (.inr f)]) (st := [.inl 21]) rfl rfl rfl ?_
        show Ex _ _ (cod m8_ferryLine 45, [some (.inl 21), some (.inr f)], [.inr (cel c (0 + f * 6 + 2)), .inl 21], lnm (th τ 0) ((((([] ++ [ltr c f]) ++ pll (cel c (0 + f * 6 + 0))) ++ [64]) ++ pll (cel c (0 + f * 6 + 1))) ++ [47])) _ _
        refine ex_c (m_saysNumber (l := ((((([] ++ [ltr c f]) ++ pll (cel c (0 + f * 6 + 0))) ++ [64]) ++ pll (cel c (0 + f * 6 + 1))) ++ [47])) (p := cel c (0 + f * 6 + 2)) (by first | omega | (simp only [List.length_append, List.length_cons, List.length_nil]; omega)) (by omega)) (is := cod m8_ferryLine 46) (L := [some (.inl 21), some (.inr f)]) (st := []) rfl rfl rfl ?_
        show Ex _ _ (cod m8_ferryLine 46, [some (.inl 21), some (.inr f)], [], lnm (th τ 0) (((((([] ++ [ltr c f]) ++ pll (cel c (0 + f * 6 + 0))) ++ [64]) ++ pll (cel c (0 + f * 6 + 1))) ++ [47]) ++ pll (cel c (0 + f * 6 + 2)))) _ _
        refine ex_k 2 (P := none) (g := (cod m8_ferryLine 48, [some (.inl 21), some (.inr f)], [.inr (((lnm (th τ 0) (((((([] ++ [ltr c f]) ++ pll (cel c (0 + f * 6 + 0))) ++ [64]) ++ pll (cel c (0 + f * 6 + 1))) ++ [47]) ++ pll (cel c (0 + f * 6 + 2)))) 21) 12)], lnm (th τ 0) (((((([] ++ [ltr c f]) ++ pll (cel c (0 + f * 6 + 0))) ++ [64]) ++ pll (cel c (0 + f * 6 + 1))) ++ [47]) ++ pll (cel c (0 + f * 6 + 2))))) rfl trivial ?_
        exact ex_r rfl trivial rfl (rIV (by rw [← hfq]; rfl) (by rw [← hfq])))
end MLI
