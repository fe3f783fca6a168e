/-! contracts of the second implementation: counts: printed by wip/whole/db18.py -/
section MR2
theorem cnt_f0 {v S : Int} {P : Prop} [Decidable P] (hv : v = S) (h : ¬ P) : v + 0 = S + b2 P := by rw [hv, b2_f h]
theorem add_f0 {v S x : Int} {P : Prop} [Decidable P] (hv : v = S) (h : ¬ P) : v + 0 = S + (if P then x else 0) := by rw [hv, if_neg h]
def hnd (c : Nat → Int) (f r s : Int) : Int := if 3 < oco c f r s then oco c f r s else 0
def hnt (c : Nat → Int) (f r s : Int) : Int := if 3 < ocn c f r s then ocn c f r s else 0
theorem hnd_in (c : Nat → Int) (f r s : Int) : ((oco c f r s = 1 ∨ oco c f r s = 2 ∨ oco c f r s = 3) ∧ hnd c f r s = 0) ∨ ((12 ≤ oco c f r s ∧ oco c f r s ≤ 16) ∧ hnd c f r s = oco c f r s) := by
  have h := @oco_in c f r s
  unfold hnd
  split <;> omega
theorem hnt_in (c : Nat → Int) (f r s : Int) : ((ocn c f r s = 1 ∨ ocn c f r s = 2 ∨ ocn c f r s = 3) ∧ hnt c f r s = 0) ∨ ((11 ≤ ocn c f r s ∧ ocn c f r s ≤ 16) ∧ hnt c f r s = ocn c f r s) := by
  have h := @ocn_in c f r s
  unfold hnt
  split <;> omega
theorem dtl11 {c : Nat → Int} {f r s : Int} : dtl c 11 f r s = cel c 108 := rfl
theorem ocn_t {c : Nat → Int} {f r s : Int} (h : cel c (0 + f * 6 + 0) = cel c 108) : ocn c f r s = oco c f r s := if_pos h
theorem ocn_f {c : Nat → Int} {f r s : Int} (h : ¬ cel c (0 + f * 6 + 0) = cel c 108) : ocn c f r s = 11 := if_neg h
theorem hnt_t {c : Nat → Int} {f r s : Int} (h : cel c (0 + f * 6 + 0) = cel c 108) : hnt c f r s = hnd c f r s := by unfold hnt hnd; rw [ocn_t h]
theorem hnt_f {c : Nat → Int} {f r s : Int} (h : ¬ cel c (0 + f * 6 + 0) = cel c 108) : hnt c f r s = 11 := by unfold hnt; rw [ocn_f h]; rfl
theorem m_hindersInTurn {f r s : Int} {τ : SZ} {c : Nat → Int} {B : Int} (hI : Iv B c) (hR : Rs c (τ 22)) (hf : 0 ≤ f ∧ f < cel c 107) (hr : 0 ≤ r ∧ r < 2) (hs : s = 1 ∨ s = -1) : ∃ e, (3 < ocn c f r s → e = dtl c (ocn c f r s) f r s) ∧ RZ 5 m8_hindersInTurn [.inl 21, .inr f, .inr r, .inr s] τ (.inl (some (.inr (hnt c f r s)), dt τ e)) := by
  have hS := hI.1
  have hC := hI.2.1
  have hN := hS.n
  have h1 := hR.tu hN.1
  have hsd := hS.sd (f := f) (by omega)
  have htu := hS.tu
  have q : RZq 5 m8_hindersInTurn [.inl 21, .inr f, .inr r, .inr s] τ (fun q => ∃ e, (3 < ocn c f r s → e = dtl c (ocn c f r s) f r s) ∧ q = .inl (some (.inr (hnt c f r s)), dt τ e)) := by
    refine Exq.call ?_ rfl rfl
    show Exq _ _ (cod m8_hindersInTurn 0, [some (.inl 21), some (.inr f), some (.inr r), some (.inr s)], [], τ) _ _
    refine exq_k 3 (P := none) (g := (cod m8_hindersInTurn 3, [some (.inl 21), some (.inr f), some (.inr r), some (.inr s)], [.inr 0, .inr f, .inl 21], τ)) rfl trivial ?_
    refine exq_c (m_of (τ := τ) (f := f) (w := 0) hI hR (by omega) (by omega)) (is := cod m8_hindersInTurn 4) (L := [some (.inl 21), some (.inr f), some (.inr r), some (.inr s)]) (st := []) rfl rfl rfl ?_
    show Exq _ _ (cod m8_hindersInTurn 4, [some (.inl 21), some (.inr f), some (.inr r), some (.inr s)], [.inr (cel c (0 + f * 6 + 0))], τ) _ _
    refine exq_k 4 (P := some (0 ≤ 1 ∧ 1 < ((109 : Nat) : Int))) (g := (cod m8_hindersInTurn 8, [some (.inl 21), some (.inr f), some (.inr r), some (.inr s)], [.inr ((τ 22) 1), .inr (cel c (0 + f * 6 + 0))], τ)) rfl (by show 0 ≤ 1 ∧ 1 < ((109 : Nat) : Int); omega) ?_
    refine exq_b (P := (cel c (0 + f * 6 + 0)) = ((τ 22) 1)) (ct := (cod m8_hindersInTurn 17, [some (.inl 21), some (.inr f), some (.inr r), some (.inr s)], [], τ)) (cf := (cod m8_hindersInTurn 9, [some (.inl 21), some (.inr f), some (.inr r), some (.inr s)], [], τ)) rfl ⟨⟨by omega, by omega⟩, ⟨by omega, by omega⟩⟩ (fun h1 => ?_) (fun h1 => ?_)
    · first
      | (exfalso; omega)
      | (
          refine exq_k 4 (P := none) (g := (cod m8_hindersInTurn 21, [some (.inl 21), some (.inr f), some (.inr r), some (.inr s)], [.inr s, .inr r, .inr f, .inl 21], τ)) rfl trivial ?_
          obtain ⟨e1, he1, hc1⟩ := m_hinders (τ := τ) (f := f) (r := r) (s := s) hI hR (by omega) (by omega) (by omega)
          refine exq_c hc1 (is := cod m8_hindersInTurn 22) (L := [some (.inl 21), some (.inr f), some (.inr r), some (.inr s)]) (st := []) rfl rfl rfl ?_
          show Exq _ _ (cod m8_hindersInTurn 22, [some (.inl 21), some (.inr f), some (.inr r), some (.inr s)], [.inr (hnd c f r s)], (zr τ 21 (zu (τ 21) 10 e1))) _ _
          exact exq_r rfl trivial rfl (⟨e1, fun hx => (by rw [ocn_t (by omega)] at hx ⊢; exact he1 hx), rI2 (hnt_t (by omega)).symm rfl⟩))
    · first
      | (exfalso; omega)
      | (
          refine exq_k 6 (P := some (0 ≤ 1 ∧ 1 < ((109 : Nat) : Int))) (g := (cod m8_hindersInTurn 15, [some (.inl 21), some (.inr f), some (.inr r), some (.inr s)], [.inr ((τ 22) 1), .inr 11, .inl 21], τ)) rfl (by show 0 ≤ 1 ∧ 1 < ((109 : Nat) : Int); omega) ?_
          refine exq_c (m_reasonBy (τ := τ) (w := 11) (e := (τ 22) 1)) (is := cod m8_hindersInTurn 16) (L := [some (.inl 21), some (.inr f), some (.inr r), some (.inr s)]) (st := []) rfl rfl rfl ?_
          show Exq _ _ (cod m8_hindersInTurn 16, [some (.inl 21), some (.inr f), some (.inr r), some (.inr s)], [.inr 11], (zr τ 21 (zu (τ 21) 10 ((τ 22) 1)))) _ _
          refine exq_k 1 (P := none) (g := (cod m8_hindersInTurn 22, [some (.inl 21), some (.inr f), some (.inr r), some (.inr s)], [.inr 11], (zr τ 21 (zu (τ 21) 10 ((τ 22) 1))))) rfl trivial ?_
          exact exq_r rfl trivial rfl (⟨(τ 22) 1, fun _ => (by rw [ocn_f (by omega), dtl11]; omega), rI2 (hnt_f (by omega)).symm rfl⟩))
  obtain ⟨q, ⟨e, he, rfl⟩, h⟩ := q
  exact ⟨e, he, h⟩
theorem m_kind {f r s : Int} {τ : SZ} {c : Nat → Int} {B : Int} (hI : Iv B c) (hR : Rs c (τ 22)) (hf : 0 ≤ f ∧ f < cel c 107) (hr : 0 ≤ r ∧ r < 2) (ho : oco c f r s = 1 ∨ oco c f r s = 2 ∨ oco c f r s = 3) : RZ 4 m8_kind [.inl 21, .inr f, .inr r, .inr s] τ (.inl (some (.inr (oco c f r s)), τ)) := by
  have hS := hI.1
  have hC := hI.2.1
  have hN := hS.n
  have hk := oco_k ho
  have hw := hS.wh (p := cel c (0 + f * 6 + (1 + r)) + s) hr
  refine Ex.call ?_ rfl rfl
  show Ex _ _ (cod m8_kind 0, [some (.inl 21), some (.inr f), some (.inr r), some (.inr s), none], [], τ) _ _
  refine ex_k 7 (P := none) (g := (cod m8_kind 7, [some (.inl 21), some (.inr f), some (.inr r), some (.inr s), none], [.inr (1 + r), .inr f, .inl 21, .inr r, .inl 21], τ)) rfl trivial ?_
  refine ex_c (m_of (τ := τ) (f := f) (w := 1 + r) hI hR (by omega) (by omega)) (is := cod m8_kind 8) (L := [some (.inl 21), some (.inr f), some (.inr r), some (.inr s), none]) (st := [.inr r, .inl 21]) rfl rfl rfl ?_
  show Ex _ _ (cod m8_kind 8, [some (.inl 21), some (.inr f), some (.inr r), some (.inr s), none], [.inr (cel c (0 + f * 6 + (1 + r))), .inr r, .inl 21], τ) _ _
  refine ex_k 2 (P := none) (g := (cod m8_kind 10, [some (.inl 21), some (.inr f), some (.inr r), some (.inr s), none], [.inr ((cel c (0 + f * 6 + (1 + r))) + s), .inr r, .inl 21], τ)) rfl trivial ?_
  refine ex_c (m_there (τ := τ) (r := r) (p := (cel c (0 + f * 6 + (1 + r))) + s) hI hR (by omega) (by omega)) (is := cod m8_kind 11) (L := [some (.inl 21), some (.inr f), some (.inr r), some (.inr s), none]) (st := []) rfl rfl rfl ?_
  show Ex _ _ (cod m8_kind 11, [some (.inl 21), some (.inr f), some (.inr r), some (.inr s), none], [.inr (whz c r ((cel c (0 + f * 6 + (1 + r))) + s))], τ) _ _
  refine ex_k 2 (P := none) (g := (cod m8_kind 13, [some (.inl 21), some (.inr f), some (.inr r), some (.inr s), some (.inr (whz c r ((cel c (0 + f * 6 + (1 + r))) + s)))], [.inr (whz c r ((cel c (0 + f * 6 + (1 + r))) + s))], τ)) rfl trivial ?_
  refine ex_b (P := 0 ≤ (whz c r ((cel c (0 + f * 6 + (1 + r))) + s))) (ct := (cod m8_kind 16, [some (.inl 21), some (.inr f), some (.inr r), some (.inr s), some (.inr (whz c r ((cel c (0 + f * 6 + (1 + r))) + s)))], [], τ)) (cf := (cod m8_kind 14, [some (.inl 21), some (.inr f), some (.inr r), some (.inr s), some (.inr (whz c r ((cel c (0 + f * 6 + (1 + r))) + s)))], [], τ)) rfl ⟨by omega, by omega⟩ (fun h1 => ?_) (fun h1 => ?_)
  · first
    | (exfalso; omega)
    | (
        refine ex_k 2 (P := none) (g := (cod m8_kind 18, [some (.inl 21), some (.inr f), some (.inr r), some (.inr s), some (.inr (whz c r ((cel c (0 + f * 6 + (1 + r))) + s)))], [.inr 8, .inr (whz c r ((cel c (0 + f * 6 + (1 + r))) + s))], τ)) rfl trivial ?_
        refine ex_b (P := ¬ (whz c r ((cel c (0 + f * 6 + (1 + r))) + s)) = 8) (ct := (cod m8_kind 21, [some (.inl 21), some (.inr f), some (.inr r), some (.inr s), some (.inr (whz c r ((cel c (0 + f * 6 + (1 + r))) + s)))], [], τ)) (cf := (cod m8_kind 19, [some (.inl 21), some (.inr f), some (.inr r), some (.inr s), some (.inr (whz c r ((cel c (0 + f * 6 + (1 + r))) + s)))], [], τ)) rfl ⟨⟨by omega, by omega⟩, ⟨by decide, by decide⟩⟩ (fun h2 => ?_) (fun h2 => ?_)
        · first
          | (exfalso; omega)
          | (
              refine ex_k 1 (P := none) (g := (cod m8_kind 22, [some (.inl 21), some (.inr f), some (.inr r), some (.inr s), some (.inr (whz c r ((cel c (0 + f * 6 + (1 + r))) + s)))], [.inr 3], τ)) rfl trivial ?_
              exact ex_r rfl trivial rfl (rI (by omega)))
        · first
          | (exfalso; omega)
          | (
              refine ex_k 2 (P := none) (g := (cod m8_kind 22, [some (.inl 21), some (.inr f), some (.inr r), some (.inr s), some (.inr (whz c r ((cel c (0 + f * 6 + (1 + r))) + s)))], [.inr 2], τ)) rfl trivial ?_
              exact ex_r rfl trivial rfl (rI (by omega))))
  · first
    | (exfalso; omega)
    | (
        refine ex_k 2 (P := none) (g := (cod m8_kind 22, [some (.inl 21), some (.inr f), some (.inr r), some (.inr s), some (.inr (whz c r ((cel c (0 + f * 6 + (1 + r))) + s)))], [.inr 1], τ)) rfl trivial ?_
        exact ex_r rfl trivial rfl (rI (by omega)))
theorem m_isCapture {f r s : Int} {τ : SZ} {c : Nat → Int} {B : Int} (hI : Iv B c) (hR : Rs c (τ 22)) (hf : 0 ≤ f ∧ f < cel c 107) (hr : 0 ≤ r ∧ r < 2) (hs : s = 1 ∨ s = -1) : ∃ e, RZ 5 m8_isCapture [.inl 21, .inr f, .inr r, .inr s] τ (.inl (some (.inr (b2 (oco c f r s = 3))), dt τ e)) := by
  have hS := hI.1
  have hC := hI.2.1
  have hN := hS.n
  have hh := hnd_in c f r s
  have q : RZq 5 m8_isCapture [.inl 21, .inr f, .inr r, .inr s] τ (fun q => ∃ e, q = .inl (some (.inr (b2 (oco c f r s = 3))), dt τ e)) := by
    refine Exq.call ?_ rfl rfl
    show Exq _ _ (cod m8_isCapture 0, [some (.inl 21), some (.inr f), some (.inr r), some (.inr s)], [], τ) _ _
    refine exq_k 4 (P := none) (g := (cod m8_isCapture 4, [some (.inl 21), some (.inr f), some (.inr r), some (.inr s)], [.inr s, .inr r, .inr f, .inl 21], τ)) rfl trivial ?_
    obtain ⟨e2, he2, hc2⟩ := m_hinders (τ := τ) (f := f) (r := r) (s := s) hI hR (by omega) (by omega) (by omega)
    refine exq_c hc2 (is := cod m8_isCapture 5) (L := [some (.inl 21), some (.inr f), some (.inr r), some (.inr s)]) (st := []) rfl rfl rfl ?_
    show Exq _ _ (cod m8_isCapture 5, [some (.inl 21), some (.inr f), some (.inr r), some (.inr s)], [.inr (hnd c f r s)], (zr τ 21 (zu (τ 21) 10 e2))) _ _
    refine exq_b (P := ¬ (hnd c f r s) = 0) (ct := (cod m8_isCapture 15, [some (.inl 21), some (.inr f), some (.inr r), some (.inr s)], [], (zr τ 21 (zu (τ 21) 10 e2)))) (cf := (cod m8_isCapture 6, [some (.inl 21), some (.inr f), some (.inr r), some (.inr s)], [], (zr τ 21 (zu (τ 21) 10 e2)))) rfl ⟨by omega, by omega⟩ (fun h1 => ?_) (fun h1 => ?_)
    · first
      | (exfalso; omega)
      | (
          refine exq_k 1 (P := none) (g := (cod m8_isCapture 16, [some (.inl 21), some (.inr f), some (.inr r), some (.inr s)], [.inr 0], (zr τ 21 (zu (τ 21) 10 e2)))) rfl trivial ?_
          exact exq_r rfl (by first | exact Or.inl rfl | exact Or.inr rfl | omega) rfl (⟨_, rI2 (by first | rw [b2_t (by omega)] | rw [b2_f (by omega)]) rfl⟩))
    · first
      | (exfalso; omega)
      | (
          refine exq_k 4 (P := none) (g := (cod m8_isCapture 10, [some (.inl 21), some (.inr f), some (.inr r), some (.inr s)], [.inr s, .inr r, .inr f, .inl 21], (zr τ 21 (zu (τ 21) 10 e2)))) rfl trivial ?_
          refine exq_c (m_kind (τ := (zr τ 21 (zu (τ 21) 10 e2))) (f := f) (r := r) (s := s) hI hR (by omega) (by omega) (show oco c f r s = 1 ∨ oco c f r s = 2 ∨ oco c f r s = 3 by omega)) (is := cod m8_isCapture 11) (L := [some (.inl 21), some (.inr f), some (.inr r), some (.inr s)]) (st := []) rfl rfl rfl ?_
          show Exq _ _ (cod m8_isCapture 11, [some (.inl 21), some (.inr f), some (.inr r), some (.inr s)], [.inr (oco c f r s)], (zr τ 21 (zu (τ 21) 10 e2))) _ _
          refine exq_k 1 (P := none) (g := (cod m8_isCapture 12, [some (.inl 21), some (.inr f), some (.inr r), some (.inr s)], [.inr 3, .inr (oco c f r s)], (zr τ 21 (zu (τ 21) 10 e2)))) rfl trivial ?_
          refine exq_b (P := ¬ (oco c f r s) = 3) (ct := (cod m8_isCapture 15, [some (.inl 21), some (.inr f), some (.inr r), some (.inr s)], [], (zr τ 21 (zu (τ 21) 10 e2)))) (cf := (cod m8_isCapture 13, [some (.inl 21), some (.inr f), some (.inr r), some (.inr s)], [], (zr τ 21 (zu (τ 21) 10 e2)))) rfl ⟨⟨by omega, by omega⟩, ⟨by decide, by decide⟩⟩ (fun h2 => ?_) (fun h2 => ?_)
          · first
            | (exfalso; omega)
            | (
                refine exq_k 1 (P := none) (g := (cod m8_isCapture 16, [some (.inl 21), some (.inr f), some (.inr r), some (.inr s)], [.inr 0], (zr τ 21 (zu (τ 21) 10 e2)))) rfl trivial ?_
                exact exq_r rfl (by first | exact Or.inl rfl | exact Or.inr rfl | omega) rfl (⟨_, rI2 (by first | rw [b2_t (by omega)] | rw [b2_f (by omega)]) rfl⟩))
          · first
            | (exfalso; omega)
            | (
                refine exq_k 2 (P := none) (g := (cod m8_isCapture 16, [some (.inl 21), some (.inr f), some (.inr r), some (.inr s)], [.inr 1], (zr τ 21 (zu (τ 21) 10 e2)))) rfl trivial ?_
                exact exq_r rfl (by first | exact Or.inl rfl | exact Or.inr rfl | omega) rfl (⟨_, rI2 (by first | rw [b2_t (by omega)] | rw [b2_f (by omega)]) rfl⟩)))
  obtain ⟨q, ⟨e, rfl⟩, h⟩ := q
  exact ⟨e, h⟩
theorem m_movesOf_0 {f : Int} {τ : SZ} {c : Nat → Int} {B : Int} (hI : Iv B c) (hR : Rs c (τ 22)) (hf : 0 ≤ f ∧ f < cel c 107) : ∃ e, RZ 5 m8_movesOf [.inl 21, .inr f, .inr 0] τ (.inl (some (.inr (mvo c f)), dt τ e)) := by
  have hS := hI.1
  have hC := hI.2.1
  have hN := hS.n
  have hh0 := hnd_in c f 0 1
  have hh1 := hnd_in c f 0 (-1)
  have hh2 := hnd_in c f 1 1
  have hh3 := hnd_in c f 1 (-1)
  have q : RZq 5 m8_movesOf [.inl 21, .inr f, .inr 0] τ (fun q => ∃ e, q = .inl (some (.inr (mvo c f)), dt τ e)) := by
    have q3 : ∀ (v e : Int) (o0 : Option VZ) (o1 : Option VZ), v = 0 + b2 (oco c f 0 1 = 1 ∨ oco c f 0 1 = 2 ∨ oco c f 0 1 = 3) + b2 (oco c f 0 (-1) = 1 ∨ oco c f 0 (-1) = 2 ∨ oco c f 0 (-1) = 3) + b2 (oco c f 1 1 = 1 ∨ oco c f 1 1 = 2 ∨ oco c f 1 1 = 3) → Exq 4 m8_movesOf (cod m8_movesOf 4, [some (.inl 21), some (.inr f), some (.inr 0), some (.inr v), some (.inr 3), o0, o1], [], (zr τ 21 (zu (τ 21) 10 e))) 0 (fun q => ∃ e, q = .inl (some (.inr (mvo c f)), dt τ e)) := by
      intro v e o0 o1 hv
      refine exq_k 2 (P := none) (g := (cod m8_movesOf 6, [some (.inl 21), some (.inr f), some (.inr 0), some (.inr v), some (.inr 3), o0, o1], [.inr 4, .inr 3], (zr τ 21 (zu (τ 21) 10 e)))) rfl trivial ?_
      refine exq_b (P := 4 ≤ 3) (ct := (cod m8_movesOf 48, [some (.inl 21), some (.inr f), some (.inr 0), some (.inr v), some (.inr 3), o0, o1], [], (zr τ 21 (zu (τ 21) 10 e)))) (cf := (cod m8_movesOf 7, [some (.inl 21), some (.inr f), some (.inr 0), some (.inr v), some (.inr 3), o0, o1], [], (zr τ 21 (zu (τ 21) 10 e)))) rfl ⟨⟨by decide, by decide⟩, ⟨by decide, by decide⟩⟩ (fun hh => absurd hh (by decide)) (fun _ => ?_)
      refine exq_k 3 (P := some (0 ≤ 3 ∧ 3 < 2147483648 ∧ 0 < 2 ∧ 2 < 2147483648)) (g := (cod m8_movesOf 10, [some (.inl 21), some (.inr f), some (.inr 0), some (.inr v), some (.inr 3), o0, o1], [.inr 1], (zr τ 21 (zu (τ 21) 10 e)))) rfl (by show 0 ≤ 3 ∧ 3 < 2147483648 ∧ 0 < 2 ∧ 2 < 2147483648; omega) ?_
      refine exq_b (P := ¬ 1 = 0) (ct := (cod m8_movesOf 13, [some (.inl 21), some (.inr f), some (.inr 0), some (.inr v), some (.inr 3), o0, o1], [], (zr τ 21 (zu (τ 21) 10 e)))) (cf := (cod m8_movesOf 11, [some (.inl 21), some (.inr f), some (.inr 0), some (.inr v), some (.inr 3), o0, o1], [], (zr τ 21 (zu (τ 21) 10 e)))) rfl ⟨by decide, by decide⟩ (fun _ => ?_) (fun hh => absurd (by decide) hh)
      refine exq_k 7 (P := some (0 ≤ 3 ∧ 3 < 2147483648 ∧ 0 < 2 ∧ 2 < 2147483648)) (g := (cod m8_movesOf 20, [some (.inl 21), some (.inr f), some (.inr 0), some (.inr v), some (.inr 3), some (.inr (-1)), o1], [.inr 1, .inr f, .inl 21], (zr τ 21 (zu (τ 21) 10 e)))) rfl (by show 0 ≤ 3 ∧ 3 < 2147483648 ∧ 0 < 2 ∧ 2 < 2147483648; omega) ?_
      refine exq_k 1 (P := none) (g := (cod m8_movesOf 21, [some (.inl 21), some (.inr f), some (.inr 0), some (.inr v), some (.inr 3), some (.inr (-1)), o1], [.inr (-1), .inr 1, .inr f, .inl 21], (zr τ 21 (zu (τ 21) 10 e)))) rfl trivial ?_
      obtain ⟨e3, he3, hc3⟩ := m_hinders (τ := (zr τ 21 (zu (τ 21) 10 e))) (f := f) (r := 1) (s := (-1)) hI hR (by omega) (by omega) (by omega)
      refine exq_c hc3 (is := cod m8_movesOf 22) (L := [some (.inl 21), some (.inr f), some (.inr 0), some (.inr v), some (.inr 3), some (.inr (-1)), o1]) (st := []) rfl rfl rfl ?_
      show Exq _ _ (cod m8_movesOf 22, [some (.inl 21), some (.inr f), some (.inr 0), some (.inr v), some (.inr 3), some (.inr (-1)), o1], [.inr (hnd c f 1 (-1))], (zr (zr τ 21 (zu (τ 21) 10 e)) 21 (zu (zu (τ 21) 10 e) 10 e3))) _ _
      rw [zr_zr, zu_zu]
      refine exq_b (P := ¬ (hnd c f 1 (-1)) = 0) (ct := (cod m8_movesOf 25, [some (.inl 21), some (.inr f), some (.inr 0), some (.inr v), some (.inr 3), some (.inr (-1)), o1], [], (zr τ 21 (zu (τ 21) 10 e3)))) (cf := (cod m8_movesOf 23, [some (.inl 21), some (.inr f), some (.inr 0), some (.inr v), some (.inr 3), some (.inr (-1)), o1], [], (zr τ 21 (zu (τ 21) 10 e3)))) rfl ⟨by omega, by omega⟩ (fun h3 => ?_) (fun h3 => ?_)
      · first
        | (exfalso; omega)
        | (
            refine exq_k 4 (P := none) (g := (cod m8_movesOf 29, [some (.inl 21), some (.inr f), some (.inr 0), some (.inr v), some (.inr 3), some (.inr (-1)), some (.inr 0)], [.inr 0, .inr v], (zr τ 21 (zu (τ 21) 10 e3)))) rfl trivial ?_
            refine exq_b (P := 0 = 0) (ct := (cod m8_movesOf 43, [some (.inl 21), some (.inr f), some (.inr 0), some (.inr v), some (.inr 3), some (.inr (-1)), some (.inr 0)], [.inr v], (zr τ 21 (zu (τ 21) 10 e3)))) (cf := (cod m8_movesOf 30, [some (.inl 21), some (.inr f), some (.inr 0), some (.inr v), some (.inr 3), some (.inr (-1)), some (.inr 0)], [.inr v], (zr τ 21 (zu (τ 21) 10 e3)))) rfl ⟨by decide, by decide⟩ (fun _ => ?_) (fun hh => absurd (by decide) hh)
            refine exq_k 7 (P := none) (g := (cod m8_movesOf 6, [some (.inl 21), some (.inr f), some (.inr 0), some (.inr (v + 0)), some (.inr 4), some (.inr (-1)), some (.inr 0)], [.inr 4, .inr 4], (zr τ 21 (zu (τ 21) 10 e3)))) rfl trivial ?_
            refine exq_b (P := 4 ≤ 4) (ct := (cod m8_movesOf 48, [some (.inl 21), some (.inr f), some (.inr 0), some (.inr (v + 0)), some (.inr 4), some (.inr (-1)), some (.inr 0)], [], (zr τ 21 (zu (τ 21) 10 e3)))) (cf := (cod m8_movesOf 7, [some (.inl 21), some (.inr f), some (.inr 0), some (.inr (v + 0)), some (.inr 4), some (.inr (-1)), some (.inr 0)], [], (zr τ 21 (zu (τ 21) 10 e3)))) rfl ⟨⟨by decide, by decide⟩, ⟨by decide, by decide⟩⟩ (fun _ => ?_) (fun hh => absurd (by decide) hh)
            refine exq_k 1 (P := none) (g := (cod m8_movesOf 49, [some (.inl 21), some (.inr f), some (.inr 0), some (.inr (v + 0)), some (.inr 4), some (.inr (-1)), some (.inr 0)], [.inr (v + 0)], (zr τ 21 (zu (τ 21) 10 e3)))) rfl trivial ?_
            exact exq_r rfl trivial rfl (⟨_, rI2 ((show _ = 0 + b2 (oco c f 0 1 = 1 ∨ oco c f 0 1 = 2 ∨ oco c f 0 1 = 3) + b2 (oco c f 0 (-1) = 1 ∨ oco c f 0 (-1) = 2 ∨ oco c f 0 (-1) = 3) + b2 (oco c f 1 1 = 1 ∨ oco c f 1 1 = 2 ∨ oco c f 1 1 = 3) + b2 (oco c f 1 (-1) = 1 ∨ oco c f 1 (-1) = 2 ∨ oco c f 1 (-1) = 3) from by first | exact cnt_t hv (by omega) | exact cnt_f0 hv (by omega) | exact cnt_f hv (by omega)).trans (by unfold mvo; omega)) rfl⟩))
      · first
        | (exfalso; omega)
        | (
            refine exq_k 5 (P := none) (g := (cod m8_movesOf 29, [some (.inl 21), some (.inr f), some (.inr 0), some (.inr v), some (.inr 3), some (.inr (-1)), some (.inr 1)], [.inr 1, .inr v], (zr τ 21 (zu (τ 21) 10 e3)))) rfl trivial ?_
            refine exq_b (P := 1 = 0) (ct := (cod m8_movesOf 43, [some (.inl 21), some (.inr f), some (.inr 0), some (.inr v), some (.inr 3), some (.inr (-1)), some (.inr 1)], [.inr v], (zr τ 21 (zu (τ 21) 10 e3)))) (cf := (cod m8_movesOf 30, [some (.inl 21), some (.inr f), some (.inr 0), some (.inr v), some (.inr 3), some (.inr (-1)), some (.inr 1)], [.inr v], (zr τ 21 (zu (τ 21) 10 e3)))) rfl ⟨by decide, by decide⟩ (fun hh => absurd hh (by decide)) (fun _ => ?_)
            refine exq_k 1 (P := none) (g := (cod m8_movesOf 31, [some (.inl 21), some (.inr f), some (.inr 0), some (.inr v), some (.inr 3), some (.inr (-1)), some (.inr 1)], [.inr 0, .inr v], (zr τ 21 (zu (τ 21) 10 e3)))) rfl trivial ?_
            refine exq_b (P := 0 = 0) (ct := (cod m8_movesOf 41, [some (.inl 21), some (.inr f), some (.inr 0), some (.inr v), some (.inr 3), some (.inr (-1)), some (.inr 1)], [.inr v], (zr τ 21 (zu (τ 21) 10 e3)))) (cf := (cod m8_movesOf 32, [some (.inl 21), some (.inr f), some (.inr 0), some (.inr v), some (.inr 3), some (.inr (-1)), some (.inr 1)], [.inr v], (zr τ 21 (zu (τ 21) 10 e3)))) rfl ⟨by decide, by decide⟩ (fun _ => ?_) (fun hh => absurd (by decide) hh)
            refine exq_k 8 (P := none) (g := (cod m8_movesOf 6, [some (.inl 21), some (.inr f), some (.inr 0), some (.inr (v + 1)), some (.inr 4), some (.inr (-1)), some (.inr 1)], [.inr 4, .inr 4], (zr τ 21 (zu (τ 21) 10 e3)))) rfl trivial ?_
            refine exq_b (P := 4 ≤ 4) (ct := (cod m8_movesOf 48, [some (.inl 21), some (.inr f), some (.inr 0), some (.inr (v + 1)), some (.inr 4), some (.inr (-1)), some (.inr 1)], [], (zr τ 21 (zu (τ 21) 10 e3)))) (cf := (cod m8_movesOf 7, [some (.inl 21), some (.inr f), some (.inr 0), some (.inr (v + 1)), some (.inr 4), some (.inr (-1)), some (.inr 1)], [], (zr τ 21 (zu (τ 21) 10 e3)))) rfl ⟨⟨by decide, by decide⟩, ⟨by decide, by decide⟩⟩ (fun _ => ?_) (fun hh => absurd (by decide) hh)
            refine exq_k 1 (P := none) (g := (cod m8_movesOf 49, [some (.inl 21), some (.inr f), some (.inr 0), some (.inr (v + 1)), some (.inr 4), some (.inr (-1)), some (.inr 1)], [.inr (v + 1)], (zr τ 21 (zu (τ 21) 10 e3)))) rfl trivial ?_
            exact exq_r rfl trivial rfl (⟨_, rI2 ((show _ = 0 + b2 (oco c f 0 1 = 1 ∨ oco c f 0 1 = 2 ∨ oco c f 0 1 = 3) + b2 (oco c f 0 (-1) = 1 ∨ oco c f 0 (-1) = 2 ∨ oco c f 0 (-1) = 3) + b2 (oco c f 1 1 = 1 ∨ oco c f 1 1 = 2 ∨ oco c f 1 1 = 3) + b2 (oco c f 1 (-1) = 1 ∨ oco c f 1 (-1) = 2 ∨ oco c f 1 (-1) = 3) from by first | exact cnt_t hv (by omega) | exact cnt_f0 hv (by omega) | exact cnt_f hv (by omega)).trans (by unfold mvo; omega)) rfl⟩))
    have q2 : ∀ (v e : Int) (o0 : Option VZ) (o1 : Option VZ), v = 0 + b2 (oco c f 0 1 = 1 ∨ oco c f 0 1 = 2 ∨ oco c f 0 1 = 3) + b2 (oco c f 0 (-1) = 1 ∨ oco c f 0 (-1) = 2 ∨ oco c f 0 (-1) = 3) → Exq 4 m8_movesOf (cod m8_movesOf 4, [some (.inl 21), some (.inr f), some (.inr 0), some (.inr v), some (.inr 2), o0, o1], [], (zr τ 21 (zu (τ 21) 10 e))) 0 (fun q => ∃ e, q = .inl (some (.inr (mvo c f)), dt τ e)) := by
      intro v e o0 o1 hv
      refine exq_k 2 (P := none) (g := (cod m8_movesOf 6, [some (.inl 21), some (.inr f), some (.inr 0), some (.inr v), some (.inr 2), o0, o1], [.inr 4, .inr 2], (zr τ 21 (zu (τ 21) 10 e)))) rfl trivial ?_
      refine exq_b (P := 4 ≤ 2) (ct := (cod m8_movesOf 48, [some (.inl 21), some (.inr f), some (.inr 0), some (.inr v), some (.inr 2), o0, o1], [], (zr τ 21 (zu (τ 21) 10 e)))) (cf := (cod m8_movesOf 7, [some (.inl 21), some (.inr f), some (.inr 0), some (.inr v), some (.inr 2), o0, o1], [], (zr τ 21 (zu (τ 21) 10 e)))) rfl ⟨⟨by decide, by decide⟩, ⟨by decide, by decide⟩⟩ (fun hh => absurd hh (by decide)) (fun _ => ?_)
      refine exq_k 3 (P := some (0 ≤ 2 ∧ 2 < 2147483648 ∧ 0 < 2 ∧ 2 < 2147483648)) (g := (cod m8_movesOf 10, [some (.inl 21), some (.inr f), some (.inr 0), some (.inr v), some (.inr 2), o0, o1], [.inr 0], (zr τ 21 (zu (τ 21) 10 e)))) rfl (by show 0 ≤ 2 ∧ 2 < 2147483648 ∧ 0 < 2 ∧ 2 < 2147483648; omega) ?_
      refine exq_b (P := ¬ 0 = 0) (ct := (cod m8_movesOf 13, [some (.inl 21), some (.inr f), some (.inr 0), some (.inr v), some (.inr 2), o0, o1], [], (zr τ 21 (zu (τ 21) 10 e)))) (cf := (cod m8_movesOf 11, [some (.inl 21), some (.inr f), some (.inr 0), some (.inr v), some (.inr 2), o0, o1], [], (zr τ 21 (zu (τ 21) 10 e)))) rfl ⟨by decide, by decide⟩ (fun hh => absurd hh (by decide)) (fun _ => ?_)
      refine exq_k 8 (P := some (0 ≤ 2 ∧ 2 < 2147483648 ∧ 0 < 2 ∧ 2 < 2147483648)) (g := (cod m8_movesOf 20, [some (.inl 21), some (.inr f), some (.inr 0), some (.inr v), some (.inr 2), some (.inr 1), o1], [.inr 1, .inr f, .inl 21], (zr τ 21 (zu (τ 21) 10 e)))) rfl (by show 0 ≤ 2 ∧ 2 < 2147483648 ∧ 0 < 2 ∧ 2 < 2147483648; omega) ?_
      refine exq_k 1 (P := none) (g := (cod m8_movesOf 21, [some (.inl 21), some (.inr f), some (.inr 0), some (.inr v), some (.inr 2), some (.inr 1), o1], [.inr 1, .inr 1, .inr f, .inl 21], (zr τ 21 (zu (τ 21) 10 e)))) rfl trivial ?_
      obtain ⟨e4, he4, hc4⟩ := m_hinders (τ := (zr τ 21 (zu (τ 21) 10 e))) (f := f) (r := 1) (s := 1) hI hR (by omega) (by omega) (by omega)
      refine exq_c hc4 (is := cod m8_movesOf 22) (L := [some (.inl 21), some (.inr f), some (.inr 0), some (.inr v), some (.inr 2), some (.inr 1), o1]) (st := []) rfl rfl rfl ?_
      show Exq _ _ (cod m8_movesOf 22, [some (.inl 21), some (.inr f), some (.inr 0), some (.inr v), some (.inr 2), some (.inr 1), o1], [.inr (hnd c f 1 1)], (zr (zr τ 21 (zu (τ 21) 10 e)) 21 (zu (zu (τ 21) 10 e) 10 e4))) _ _
      rw [zr_zr, zu_zu]
      refine exq_b (P := ¬ (hnd c f 1 1) = 0) (ct := (cod m8_movesOf 25, [some (.inl 21), some (.inr f), some (.inr 0), some (.inr v), some (.inr 2), some (.inr 1), o1], [], (zr τ 21 (zu (τ 21) 10 e4)))) (cf := (cod m8_movesOf 23, [some (.inl 21), some (.inr f), some (.inr 0), some (.inr v), some (.inr 2), some (.inr 1), o1], [], (zr τ 21 (zu (τ 21) 10 e4)))) rfl ⟨by omega, by omega⟩ (fun h3 => ?_) (fun h3 => ?_)
      · first
        | (exfalso; omega)
        | (
            refine exq_k 4 (P := none) (g := (cod m8_movesOf 29, [some (.inl 21), some (.inr f), some (.inr 0), some (.inr v), some (.inr 2), some (.inr 1), some (.inr 0)], [.inr 0, .inr v], (zr τ 21 (zu (τ 21) 10 e4)))) rfl trivial ?_
            refine exq_b (P := 0 = 0) (ct := (cod m8_movesOf 43, [some (.inl 21), some (.inr f), some (.inr 0), some (.inr v), some (.inr 2), some (.inr 1), some (.inr 0)], [.inr v], (zr τ 21 (zu (τ 21) 10 e4)))) (cf := (cod m8_movesOf 30, [some (.inl 21), some (.inr f), some (.inr 0), some (.inr v), some (.inr 2), some (.inr 1), some (.inr 0)], [.inr v], (zr τ 21 (zu (τ 21) 10 e4)))) rfl ⟨by decide, by decide⟩ (fun _ => ?_) (fun hh => absurd (by decide) hh)
            refine exq_k 5 (P := none) (g := (cod m8_movesOf 4, [some (.inl 21), some (.inr f), some (.inr 0), some (.inr (v + 0)), some (.inr 3), some (.inr 1), some (.inr 0)], [], (zr τ 21 (zu (τ 21) 10 e4)))) rfl trivial ?_
            exact q3 _ _ _ _ (by first | exact cnt_t hv (by omega) | exact cnt_f0 hv (by omega) | exact cnt_f hv (by omega)))
      · first
        | (exfalso; omega)
        | (
            refine exq_k 5 (P := none) (g := (cod m8_movesOf 29, [some (.inl 21), some (.inr f), some (.inr 0), some (.inr v), some (.inr 2), some (.inr 1), some (.inr 1)], [.inr 1, .inr v], (zr τ 21 (zu (τ 21) 10 e4)))) rfl trivial ?_
            refine exq_b (P := 1 = 0) (ct := (cod m8_movesOf 43, [some (.inl 21), some (.inr f), some (.inr 0), some (.inr v), some (.inr 2), some (.inr 1), some (.inr 1)], [.inr v], (zr τ 21 (zu (τ 21) 10 e4)))) (cf := (cod m8_movesOf 30, [some (.inl 21), some (.inr f), some (.inr 0), some (.inr v), some (.inr 2), some (.inr 1), some (.inr 1)], [.inr v], (zr τ 21 (zu (τ 21) 10 e4)))) rfl ⟨by decide, by decide⟩ (fun hh => absurd hh (by decide)) (fun _ => ?_)
            refine exq_k 1 (P := none) (g := (cod m8_movesOf 31, [some (.inl 21), some (.inr f), some (.inr 0), some (.inr v), some (.inr 2), some (.inr 1), some (.inr 1)], [.inr 0, .inr v], (zr τ 21 (zu (τ 21) 10 e4)))) rfl trivial ?_
            refine exq_b (P := 0 = 0) (ct := (cod m8_movesOf 41, [some (.inl 21), some (.inr f), some (.inr 0), some (.inr v), some (.inr 2), some (.inr 1), some (.inr 1)], [.inr v], (zr τ 21 (zu (τ 21) 10 e4)))) (cf := (cod m8_movesOf 32, [some (.inl 21), some (.inr f), some (.inr 0), some (.inr v), some (.inr 2), some (.inr 1), some (.inr 1)], [.inr v], (zr τ 21 (zu (τ 21) 10 e4)))) rfl ⟨by decide, by decide⟩ (fun _ => ?_) (fun hh => absurd (by decide) hh)
            refine exq_k 6 (P := none) (g := (cod m8_movesOf 4, [some (.inl 21), some (.inr f), some (.inr 0), some (.inr (v + 1)), some (.inr 3), some (.inr 1), some (.inr 1)], [], (zr τ 21 (zu (τ 21) 10 e4)))) rfl trivial ?_
            exact q3 _ _ _ _ (by first | exact cnt_t hv (by omega) | exact cnt_f0 hv (by omega) | exact cnt_f hv (by omega)))
    have q1 : ∀ (v e : Int) (o0 : Option VZ) (o1 : Option VZ), v = 0 + b2 (oco c f 0 1 = 1 ∨ oco c f 0 1 = 2 ∨ oco c f 0 1 = 3) → Exq 4 m8_movesOf (cod m8_movesOf 4, [some (.inl 21), some (.inr f), some (.inr 0), some (.inr v), some (.inr 1), o0, o1], [], (zr τ 21 (zu (τ 21) 10 e))) 0 (fun q => ∃ e, q = .inl (some (.inr (mvo c f)), dt τ e)) := by
      intro v e o0 o1 hv
      refine exq_k 2 (P := none) (g := (cod m8_movesOf 6, [some (.inl 21), some (.inr f), some (.inr 0), some (.inr v), some (.inr 1), o0, o1], [.inr 4, .inr 1], (zr τ 21 (zu (τ 21) 10 e)))) rfl trivial ?_
      refine exq_b (P := 4 ≤ 1) (ct := (cod m8_movesOf 48, [some (.inl 21), some (.inr f), some (.inr 0), some (.inr v), some (.inr 1), o0, o1], [], (zr τ 21 (zu (τ 21) 10 e)))) (cf := (cod m8_movesOf 7, [some (.inl 21), some (.inr f), some (.inr 0), some (.inr v), some (.inr 1), o0, o1], [], (zr τ 21 (zu (τ 21) 10 e)))) rfl ⟨⟨by decide, by decide⟩, ⟨by decide, by decide⟩⟩ (fun hh => absurd hh (by decide)) (fun _ => ?_)
      refine exq_k 3 (P := some (0 ≤ 1 ∧ 1 < 2147483648 ∧ 0 < 2 ∧ 2 < 2147483648)) (g := (cod m8_movesOf 10, [some (.inl 21), some (.inr f), some (.inr 0), some (.inr v), some (.inr 1), o0, o1], [.inr 1], (zr τ 21 (zu (τ 21) 10 e)))) rfl (by show 0 ≤ 1 ∧ 1 < 2147483648 ∧ 0 < 2 ∧ 2 < 2147483648; omega) ?_
      refine exq_b (P := ¬ 1 = 0) (ct := (cod m8_movesOf 13, [some (.inl 21), some (.inr f), some (.inr 0), some (.inr v), some (.inr 1), o0, o1], [], (zr τ 21 (zu (τ 21) 10 e)))) (cf := (cod m8_movesOf 11, [some (.inl 21), some (.inr f), some (.inr 0), some (.inr v), some (.inr 1), o0, o1], [], (zr τ 21 (zu (τ 21) 10 e)))) rfl ⟨by decide, by decide⟩ (fun _ => ?_) (fun hh => absurd (by decide) hh)
      refine exq_k 7 (P := some (0 ≤ 1 ∧ 1 < 2147483648 ∧ 0 < 2 ∧ 2 < 2147483648)) (g := (cod m8_movesOf 20, [some (.inl 21), some (.inr f), some (.inr 0), some (.inr v), some (.inr 1), some (.inr (-1)), o1], [.inr 0, .inr f, .inl 21], (zr τ 21 (zu (τ 21) 10 e)))) rfl (by show 0 ≤ 1 ∧ 1 < 2147483648 ∧ 0 < 2 ∧ 2 < 2147483648; omega) ?_
      refine exq_k 1 (P := none) (g := (cod m8_movesOf 21, [some (.inl 21), some (.inr f), some (.inr 0), some (.inr v), some (.inr 1), some (.inr (-1)), o1], [.inr (-1), .inr 0, .inr f, .inl 21], (zr τ 21 (zu (τ 21) 10 e)))) rfl trivial ?_
      obtain ⟨e5, he5, hc5⟩ := m_hinders (τ := (zr τ 21 (zu (τ 21) 10 e))) (f := f) (r := 0) (s := (-1)) hI hR (by omega) (by omega) (by omega)
      refine exq_c hc5 (is := cod m8_movesOf 22) (L := [some (.inl 21), some (.inr f), some (.inr 0), some (.inr v), some (.inr 1), some (.inr (-1)), o1]) (st := []) rfl rfl rfl ?_
      show Exq _ _ (cod m8_movesOf 22, [some (.inl 21), some (.inr f), some (.inr 0), some (.inr v), some (.inr 1), some (.inr (-1)), o1], [.inr (hnd c f 0 (-1))], (zr (zr τ 21 (zu (τ 21) 10 e)) 21 (zu (zu (τ 21) 10 e) 10 e5))) _ _
      rw [zr_zr, zu_zu]
      refine exq_b (P := ¬ (hnd c f 0 (-1)) = 0) (ct := (cod m8_movesOf 25, [some (.inl 21), some (.inr f), some (.inr 0), some (.inr v), some (.inr 1), some (.inr (-1)), o1], [], (zr τ 21 (zu (τ 21) 10 e5)))) (cf := (cod m8_movesOf 23, [some (.inl 21), some (.inr f), some (.inr 0), some (.inr v), some (.inr 1), some (.inr (-1)), o1], [], (zr τ 21 (zu (τ 21) 10 e5)))) rfl ⟨by omega, by omega⟩ (fun h3 => ?_) (fun h3 => ?_)
      · first
        | (exfalso; omega)
        | (
            refine exq_k 4 (P := none) (g := (cod m8_movesOf 29, [some (.inl 21), some (.inr f), some (.inr 0), some (.inr v), some (.inr 1), some (.inr (-1)), some (.inr 0)], [.inr 0, .inr v], (zr τ 21 (zu (τ 21) 10 e5)))) rfl trivial ?_
            refine exq_b (P := 0 = 0) (ct := (cod m8_movesOf 43, [some (.inl 21), some (.inr f), some (.inr 0), some (.inr v), some (.inr 1), some (.inr (-1)), some (.inr 0)], [.inr v], (zr τ 21 (zu (τ 21) 10 e5)))) (cf := (cod m8_movesOf 30, [some (.inl 21), some (.inr f), some (.inr 0), some (.inr v), some (.inr 1), some (.inr (-1)), some (.inr 0)], [.inr v], (zr τ 21 (zu (τ 21) 10 e5)))) rfl ⟨by decide, by decide⟩ (fun _ => ?_) (fun hh => absurd (by decide) hh)
            refine exq_k 5 (P := none) (g := (cod m8_movesOf 4, [some (.inl 21), some (.inr f), some (.inr 0), some (.inr (v + 0)), some (.inr 2), some (.inr (-1)), some (.inr 0)], [], (zr τ 21 (zu (τ 21) 10 e5)))) rfl trivial ?_
            exact q2 _ _ _ _ (by first | exact cnt_t hv (by omega) | exact cnt_f0 hv (by omega) | exact cnt_f hv (by omega)))
      · first
        | (exfalso; omega)
        | (
            refine exq_k 5 (P := none) (g := (cod m8_movesOf 29, [some (.inl 21), some (.inr f), some (.inr 0), some (.inr v), some (.inr 1), some (.inr (-1)), some (.inr 1)], [.inr 1, .inr v], (zr τ 21 (zu (τ 21) 10 e5)))) rfl trivial ?_
            refine exq_b (P := 1 = 0) (ct := (cod m8_movesOf 43, [some (.inl 21), some (.inr f), some (.inr 0), some (.inr v), some (.inr 1), some (.inr (-1)), some (.inr 1)], [.inr v], (zr τ 21 (zu (τ 21) 10 e5)))) (cf := (cod m8_movesOf 30, [some (.inl 21), some (.inr f), some (.inr 0), some (.inr v), some (.inr 1), some (.inr (-1)), some (.inr 1)], [.inr v], (zr τ 21 (zu (τ 21) 10 e5)))) rfl ⟨by decide, by decide⟩ (fun hh => absurd hh (by decide)) (fun _ => ?_)
            refine exq_k 1 (P := none) (g := (cod m8_movesOf 31, [some (.inl 21), some (.inr f), some (.inr 0), some (.inr v), some (.inr 1), some (.inr (-1)), some (.inr 1)], [.inr 0, .inr v], (zr τ 21 (zu (τ 21) 10 e5)))) rfl trivial ?_
            refine exq_b (P := 0 = 0) (ct := (cod m8_movesOf 41, [some (.inl 21), some (.inr f), some (.inr 0), some (.inr v), some (.inr 1), some (.inr (-1)), some (.inr 1)], [.inr v], (zr τ 21 (zu (τ 21) 10 e5)))) (cf := (cod m8_movesOf 32, [some (.inl 21), some (.inr f), some (.inr 0), some (.inr v), some (.inr 1), some (.inr (-1)), some (.inr 1)], [.inr v], (zr τ 21 (zu (τ 21) 10 e5)))) rfl ⟨by decide, by decide⟩ (fun _ => ?_) (fun hh => absurd (by decide) hh)
            refine exq_k 6 (P := none) (g := (cod m8_movesOf 4, [some (.inl 21), some (.inr f), some (.inr 0), some (.inr (v + 1)), some (.inr 2), some (.inr (-1)), some (.inr 1)], [], (zr τ 21 (zu (τ 21) 10 e5)))) rfl trivial ?_
            exact q2 _ _ _ _ (by first | exact cnt_t hv (by omega) | exact cnt_f0 hv (by omega) | exact cnt_f hv (by omega)))
    have q0 : ∀ (v e : Int) (o0 : Option VZ) (o1 : Option VZ), v = 0 → Exq 4 m8_movesOf (cod m8_movesOf 4, [some (.inl 21), some (.inr f), some (.inr 0), some (.inr v), some (.inr 0), o0, o1], [], (zr τ 21 (zu (τ 21) 10 e))) 0 (fun q => ∃ e, q = .inl (some (.inr (mvo c f)), dt τ e)) := by
      intro v e o0 o1 hv
      refine exq_k 2 (P := none) (g := (cod m8_movesOf 6, [some (.inl 21), some (.inr f), some (.inr 0), some (.inr v), some (.inr 0), o0, o1], [.inr 4, .inr 0], (zr τ 21 (zu (τ 21) 10 e)))) rfl trivial ?_
      refine exq_b (P := 4 ≤ 0) (ct := (cod m8_movesOf 48, [some (.inl 21), some (.inr f), some (.inr 0), some (.inr v), some (.inr 0), o0, o1], [], (zr τ 21 (zu (τ 21) 10 e)))) (cf := (cod m8_movesOf 7, [some (.inl 21), some (.inr f), some (.inr 0), some (.inr v), some (.inr 0), o0, o1], [], (zr τ 21 (zu (τ 21) 10 e)))) rfl ⟨⟨by decide, by decide⟩, ⟨by decide, by decide⟩⟩ (fun hh => absurd hh (by decide)) (fun _ => ?_)
      refine exq_k 3 (P := some (0 ≤ 0 ∧ 0 < 2147483648 ∧ 0 < 2 ∧ 2 < 2147483648)) (g := (cod m8_movesOf 10, [some (.inl 21), some (.inr f), some (.inr 0), some (.inr v), some (.inr 0), o0, o1], [.inr 0], (zr τ 21 (zu (τ 21) 10 e)))) rfl (by show 0 ≤ 0 ∧ 0 < 2147483648 ∧ 0 < 2 ∧ 2 < 2147483648; omega) ?_
      refine exq_b (P := ¬ 0 = 0) (ct := (cod m8_movesOf 13, [some (.inl 21), some (.inr f), some (.inr 0), some (.inr v), some (.inr 0), o0, o1], [], (zr τ 21 (zu (τ 21) 10 e)))) (cf := (cod m8_movesOf 11, [some (.inl 21), some (.inr f), some (.inr 0), some (.inr v), some (.inr 0), o0, o1], [], (zr τ 21 (zu (τ 21) 10 e)))) rfl ⟨by decide, by decide⟩ (fun hh => absurd hh (by decide)) (fun _ => ?_)
      refine exq_k 8 (P := some (0 ≤ 0 ∧ 0 < 2147483648 ∧ 0 < 2 ∧ 2 < 2147483648)) (g := (cod m8_movesOf 20, [some (.inl 21), some (.inr f), some (.inr 0), some (.inr v), some (.inr 0), some (.inr 1), o1], [.inr 0, .inr f, .inl 21], (zr τ 21 (zu (τ 21) 10 e)))) rfl (by show 0 ≤ 0 ∧ 0 < 2147483648 ∧ 0 < 2 ∧ 2 < 2147483648; omega) ?_
      refine exq_k 1 (P := none) (g := (cod m8_movesOf 21, [some (.inl 21), some (.inr f), some (.inr 0), some (.inr v), some (.inr 0), some (.inr 1), o1], [.inr 1, .inr 0, .inr f, .inl 21], (zr τ 21 (zu (τ 21) 10 e)))) rfl trivial ?_
      obtain ⟨e6, he6, hc6⟩ := m_hinders (τ := (zr τ 21 (zu (τ 21) 10 e))) (f := f) (r := 0) (s := 1) hI hR (by omega) (by omega) (by omega)
      refine exq_c hc6 (is := cod m8_movesOf 22) (L := [some (.inl 21), some (.inr f), some (.inr 0), some (.inr v), some (.inr 0), some (.inr 1), o1]) (st := []) rfl rfl rfl ?_
      show Exq _ _ (cod m8_movesOf 22, [some (.inl 21), some (.inr f), some (.inr 0), some (.inr v), some (.inr 0), some (.inr 1), o1], [.inr (hnd c f 0 1)], (zr (zr τ 21 (zu (τ 21) 10 e)) 21 (zu (zu (τ 21) 10 e) 10 e6))) _ _
      rw [zr_zr, zu_zu]
      refine exq_b (P := ¬ (hnd c f 0 1) = 0) (ct := (cod m8_movesOf 25, [some (.inl 21), some (.inr f), some (.inr 0), some (.inr v), some (.inr 0), some (.inr 1), o1], [], (zr τ 21 (zu (τ 21) 10 e6)))) (cf := (cod m8_movesOf 23, [some (.inl 21), some (.inr f), some (.inr 0), some (.inr v), some (.inr 0), some (.inr 1), o1], [], (zr τ 21 (zu (τ 21) 10 e6)))) rfl ⟨by omega, by omega⟩ (fun h3 => ?_) (fun h3 => ?_)
      · first
        | (exfalso; omega)
        | (
            refine exq_k 4 (P := none) (g := (cod m8_movesOf 29, [some (.inl 21), some (.inr f), some (.inr 0), some (.inr v), some (.inr 0), some (.inr 1), some (.inr 0)], [.inr 0, .inr v], (zr τ 21 (zu (τ 21) 10 e6)))) rfl trivial ?_
            refine exq_b (P := 0 = 0) (ct := (cod m8_movesOf 43, [some (.inl 21), some (.inr f), some (.inr 0), some (.inr v), some (.inr 0), some (.inr 1), some (.inr 0)], [.inr v], (zr τ 21 (zu (τ 21) 10 e6)))) (cf := (cod m8_movesOf 30, [some (.inl 21), some (.inr f), some (.inr 0), some (.inr v), some (.inr 0), some (.inr 1), some (.inr 0)], [.inr v], (zr τ 21 (zu (τ 21) 10 e6)))) rfl ⟨by decide, by decide⟩ (fun _ => ?_) (fun hh => absurd (by decide) hh)
            refine exq_k 5 (P := none) (g := (cod m8_movesOf 4, [some (.inl 21), some (.inr f), some (.inr 0), some (.inr (v + 0)), some (.inr 1), some (.inr 1), some (.inr 0)], [], (zr τ 21 (zu (τ 21) 10 e6)))) rfl trivial ?_
            exact q1 _ _ _ _ (by first | exact cnt_t hv (by omega) | exact cnt_f0 hv (by omega) | exact cnt_f hv (by omega)))
      · first
        | (exfalso; omega)
        | (
            refine exq_k 5 (P := none) (g := (cod m8_movesOf 29, [some (.inl 21), some (.inr f), some (.inr 0), some (.inr v), some (.inr 0), some (.inr 1), some (.inr 1)], [.inr 1, .inr v], (zr τ 21 (zu (τ 21) 10 e6)))) rfl trivial ?_
            refine exq_b (P := 1 = 0) (ct := (cod m8_movesOf 43, [some (.inl 21), some (.inr f), some (.inr 0), some (.inr v), some (.inr 0), some (.inr 1), some (.inr 1)], [.inr v], (zr τ 21 (zu (τ 21) 10 e6)))) (cf := (cod m8_movesOf 30, [some (.inl 21), some (.inr f), some (.inr 0), some (.inr v), some (.inr 0), some (.inr 1), some (.inr 1)], [.inr v], (zr τ 21 (zu (τ 21) 10 e6)))) rfl ⟨by decide, by decide⟩ (fun hh => absurd hh (by decide)) (fun _ => ?_)
            refine exq_k 1 (P := none) (g := (cod m8_movesOf 31, [some (.inl 21), some (.inr f), some (.inr 0), some (.inr v), some (.inr 0), some (.inr 1), some (.inr 1)], [.inr 0, .inr v], (zr τ 21 (zu (τ 21) 10 e6)))) rfl trivial ?_
            refine exq_b (P := 0 = 0) (ct := (cod m8_movesOf 41, [some (.inl 21), some (.inr f), some (.inr 0), some (.inr v), some (.inr 0), some (.inr 1), some (.inr 1)], [.inr v], (zr τ 21 (zu (τ 21) 10 e6)))) (cf := (cod m8_movesOf 32, [some (.inl 21), some (.inr f), some (.inr 0), some (.inr v), some (.inr 0), some (.inr 1), some (.inr 1)], [.inr v], (zr τ 21 (zu (τ 21) 10 e6)))) rfl ⟨by decide, by decide⟩ (fun _ => ?_) (fun hh => absurd (by decide) hh)
            refine exq_k 6 (P := none) (g := (cod m8_movesOf 4, [some (.inl 21), some (.inr f), some (.inr 0), some (.inr (v + 1)), some (.inr 1), some (.inr 1), some (.inr 1)], [], (zr τ 21 (zu (τ 21) 10 e6)))) rfl trivial ?_
            exact q1 _ _ _ _ (by first | exact cnt_t hv (by omega) | exact cnt_f0 hv (by omega) | exact cnt_f hv (by omega)))
    refine Exq.call ?_ rfl rfl
    show Exq _ _ (cod m8_movesOf 0, [some (.inl 21), some (.inr f), some (.inr 0), none, none, none, none], [], τ) _ _
    refine exq_k 4 (P := none) (g := (cod m8_movesOf 4, [some (.inl 21), some (.inr f), some (.inr 0), some (.inr 0), some (.inr 0), none, none], [], τ)) rfl trivial ?_
    have q := q0 0 (τ 21 10) none none rfl
    rw [show zr τ 21 (zu (τ 21) 10 (τ 21 10)) = τ from dt_self] at q
    exact q
  obtain ⟨q, ⟨e, rfl⟩, h⟩ := q
  exact ⟨e, h⟩
theorem m_movesOf_1 {f : Int} {τ : SZ} {c : Nat → Int} {B : Int} (hI : Iv B c) (hR : Rs c (τ 22)) (hf : 0 ≤ f ∧ f < cel c 107) : ∃ e, RZ 5 m8_movesOf [.inl 21, .inr f, .inr 1] τ (.inl (some (.inr (jby c f)), dt τ e)) := by
  have hS := hI.1
  have hC := hI.2.1
  have hN := hS.n
  have hh0 := hnd_in c f 0 1
  have hh1 := hnd_in c f 0 (-1)
  have hh2 := hnd_in c f 1 1
  have hh3 := hnd_in c f 1 (-1)
  have q : RZq 5 m8_movesOf [.inl 21, .inr f, .inr 1] τ (fun q => ∃ e, q = .inl (some (.inr (jby c f)), dt τ e)) := by
    have q3 : ∀ (v e : Int) (o0 : Option VZ) (o1 : Option VZ), v = 0 + b2 (oco c f 0 1 = 3) + b2 (oco c f 0 (-1) = 3) + b2 (oco c f 1 1 = 3) → Exq 4 m8_movesOf (cod m8_movesOf 4, [some (.inl 21), some (.inr f), some (.inr 1), some (.inr v), some (.inr 3), o0, o1], [], (zr τ 21 (zu (τ 21) 10 e))) 0 (fun q => ∃ e, q = .inl (some (.inr (jby c f)), dt τ e)) := by
      intro v e o0 o1 hv
      refine exq_k 2 (P := none) (g := (cod m8_movesOf 6, [some (.inl 21), some (.inr f), some (.inr 1), some (.inr v), some (.inr 3), o0, o1], [.inr 4, .inr 3], (zr τ 21 (zu (τ 21) 10 e)))) rfl trivial ?_
      refine exq_b (P := 4 ≤ 3) (ct := (cod m8_movesOf 48, [some (.inl 21), some (.inr f), some (.inr 1), some (.inr v), some (.inr 3), o0, o1], [], (zr τ 21 (zu (τ 21) 10 e)))) (cf := (cod m8_movesOf 7, [some (.inl 21), some (.inr f), some (.inr 1), some (.inr v), some (.inr 3), o0, o1], [], (zr τ 21 (zu (τ 21) 10 e)))) rfl ⟨⟨by decide, by decide⟩, ⟨by decide, by decide⟩⟩ (fun hh => absurd hh (by decide)) (fun _ => ?_)
      refine exq_k 3 (P := some (0 ≤ 3 ∧ 3 < 2147483648 ∧ 0 < 2 ∧ 2 < 2147483648)) (g := (cod m8_movesOf 10, [some (.inl 21), some (.inr f), some (.inr 1), some (.inr v), some (.inr 3), o0, o1], [.inr 1], (zr τ 21 (zu (τ 21) 10 e)))) rfl (by show 0 ≤ 3 ∧ 3 < 2147483648 ∧ 0 < 2 ∧ 2 < 2147483648; omega) ?_
      refine exq_b (P := ¬ 1 = 0) (ct := (cod m8_movesOf 13, [some (.inl 21), some (.inr f), some (.inr 1), some (.inr v), some (.inr 3), o0, o1], [], (zr τ 21 (zu (τ 21) 10 e)))) (cf := (cod m8_movesOf 11, [some (.inl 21), some (.inr f), some (.inr 1), some (.inr v), some (.inr 3), o0, o1], [], (zr τ 21 (zu (τ 21) 10 e)))) rfl ⟨by decide, by decide⟩ (fun _ => ?_) (fun hh => absurd (by decide) hh)
      refine exq_k 7 (P := some (0 ≤ 3 ∧ 3 < 2147483648 ∧ 0 < 2 ∧ 2 < 2147483648)) (g := (cod m8_movesOf 20, [some (.inl 21), some (.inr f), some (.inr 1), some (.inr v), some (.inr 3), some (.inr (-1)), o1], [.inr 1, .inr f, .inl 21], (zr τ 21 (zu (τ 21) 10 e)))) rfl (by show 0 ≤ 3 ∧ 3 < 2147483648 ∧ 0 < 2 ∧ 2 < 2147483648; omega) ?_
      refine exq_k 1 (P := none) (g := (cod m8_movesOf 21, [some (.inl 21), some (.inr f), some (.inr 1), some (.inr v), some (.inr 3), some (.inr (-1)), o1], [.inr (-1), .inr 1, .inr f, .inl 21], (zr τ 21 (zu (τ 21) 10 e)))) rfl trivial ?_
      obtain ⟨e7, he7, hc7⟩ := m_hinders (τ := (zr τ 21 (zu (τ 21) 10 e))) (f := f) (r := 1) (s := (-1)) hI hR (by omega) (by omega) (by omega)
      refine exq_c hc7 (is := cod m8_movesOf 22) (L := [some (.inl 21), some (.inr f), some (.inr 1), some (.inr v), some (.inr 3), some (.inr (-1)), o1]) (st := []) rfl rfl rfl ?_
      show Exq _ _ (cod m8_movesOf 22, [some (.inl 21), some (.inr f), some (.inr 1), some (.inr v), some (.inr 3), some (.inr (-1)), o1], [.inr (hnd c f 1 (-1))], (zr (zr τ 21 (zu (τ 21) 10 e)) 21 (zu (zu (τ 21) 10 e) 10 e7))) _ _
      rw [zr_zr, zu_zu]
      refine exq_b (P := ¬ (hnd c f 1 (-1)) = 0) (ct := (cod m8_movesOf 25, [some (.inl 21), some (.inr f), some (.inr 1), some (.inr v), some (.inr 3), some (.inr (-1)), o1], [], (zr τ 21 (zu (τ 21) 10 e7)))) (cf := (cod m8_movesOf 23, [some (.inl 21), some (.inr f), some (.inr 1), some (.inr v), some (.inr 3), some (.inr (-1)), o1], [], (zr τ 21 (zu (τ 21) 10 e7)))) rfl ⟨by omega, by omega⟩ (fun h3 => ?_) (fun h3 => ?_)
      · first
        | (exfalso; omega)
        | (
            refine exq_k 4 (P := none) (g := (cod m8_movesOf 29, [some (.inl 21), some (.inr f), some (.inr 1), some (.inr v), some (.inr 3), some (.inr (-1)), some (.inr 0)], [.inr 0, .inr v], (zr τ 21 (zu (τ 21) 10 e7)))) rfl trivial ?_
            refine exq_b (P := 0 = 0) (ct := (cod m8_movesOf 43, [some (.inl 21), some (.inr f), some (.inr 1), some (.inr v), some (.inr 3), some (.inr (-1)), some (.inr 0)], [.inr v], (zr τ 21 (zu (τ 21) 10 e7)))) (cf := (cod m8_movesOf 30, [some (.inl 21), some (.inr f), some (.inr 1), some (.inr v), some (.inr 3), some (.inr (-1)), some (.inr 0)], [.inr v], (zr τ 21 (zu (τ 21) 10 e7)))) rfl ⟨by decide, by decide⟩ (fun _ => ?_) (fun hh => absurd (by decide) hh)
            refine exq_k 7 (P := none) (g := (cod m8_movesOf 6, [some (.inl 21), some (.inr f), some (.inr 1), some (.inr (v + 0)), some (.inr 4), some (.inr (-1)), some (.inr 0)], [.inr 4, .inr 4], (zr τ 21 (zu (τ 21) 10 e7)))) rfl trivial ?_
            refine exq_b (P := 4 ≤ 4) (ct := (cod m8_movesOf 48, [some (.inl 21), some (.inr f), some (.inr 1), some (.inr (v + 0)), some (.inr 4), some (.inr (-1)), some (.inr 0)], [], (zr τ 21 (zu (τ 21) 10 e7)))) (cf := (cod m8_movesOf 7, [some (.inl 21), some (.inr f), some (.inr 1), some (.inr (v + 0)), some (.inr 4), some (.inr (-1)), some (.inr 0)], [], (zr τ 21 (zu (τ 21) 10 e7)))) rfl ⟨⟨by decide, by decide⟩, ⟨by decide, by decide⟩⟩ (fun _ => ?_) (fun hh => absurd (by decide) hh)
            refine exq_k 1 (P := none) (g := (cod m8_movesOf 49, [some (.inl 21), some (.inr f), some (.inr 1), some (.inr (v + 0)), some (.inr 4), some (.inr (-1)), some (.inr 0)], [.inr (v + 0)], (zr τ 21 (zu (τ 21) 10 e7)))) rfl trivial ?_
            exact exq_r rfl trivial rfl (⟨_, rI2 ((show _ = 0 + b2 (oco c f 0 1 = 3) + b2 (oco c f 0 (-1) = 3) + b2 (oco c f 1 1 = 3) + b2 (oco c f 1 (-1) = 3) from by first | exact cnt_t hv (by omega) | exact cnt_f0 hv (by omega) | exact cnt_f hv (by omega)).trans (by unfold jby; omega)) rfl⟩))
      · first
        | (exfalso; omega)
        | (
            refine exq_k 5 (P := none) (g := (cod m8_movesOf 29, [some (.inl 21), some (.inr f), some (.inr 1), some (.inr v), some (.inr 3), some (.inr (-1)), some (.inr 1)], [.inr 1, .inr v], (zr τ 21 (zu (τ 21) 10 e7)))) rfl trivial ?_
            refine exq_b (P := 1 = 0) (ct := (cod m8_movesOf 43, [some (.inl 21), some (.inr f), some (.inr 1), some (.inr v), some (.inr 3), some (.inr (-1)), some (.inr 1)], [.inr v], (zr τ 21 (zu (τ 21) 10 e7)))) (cf := (cod m8_movesOf 30, [some (.inl 21), some (.inr f), some (.inr 1), some (.inr v), some (.inr 3), some (.inr (-1)), some (.inr 1)], [.inr v], (zr τ 21 (zu (τ 21) 10 e7)))) rfl ⟨by decide, by decide⟩ (fun hh => absurd hh (by decide)) (fun _ => ?_)
            refine exq_k 1 (P := none) (g := (cod m8_movesOf 31, [some (.inl 21), some (.inr f), some (.inr 1), some (.inr v), some (.inr 3), some (.inr (-1)), some (.inr 1)], [.inr 1, .inr v], (zr τ 21 (zu (τ 21) 10 e7)))) rfl trivial ?_
            refine exq_b (P := 1 = 0) (ct := (cod m8_movesOf 41, [some (.inl 21), some (.inr f), some (.inr 1), some (.inr v), some (.inr 3), some (.inr (-1)), some (.inr 1)], [.inr v], (zr τ 21 (zu (τ 21) 10 e7)))) (cf := (cod m8_movesOf 32, [some (.inl 21), some (.inr f), some (.inr 1), some (.inr v), some (.inr 3), some (.inr (-1)), some (.inr 1)], [.inr v], (zr τ 21 (zu (τ 21) 10 e7)))) rfl ⟨by decide, by decide⟩ (fun hh => absurd hh (by decide)) (fun _ => ?_)
            refine exq_k 5 (P := some (0 ≤ 3 ∧ 3 < 2147483648 ∧ 0 < 2 ∧ 2 < 2147483648)) (g := (cod m8_movesOf 37, [some (.inl 21), some (.inr f), some (.inr 1), some (.inr v), some (.inr 3), some (.inr (-1)), some (.inr 1)], [.inr 1, .inr f, .inl 21, .inr v], (zr τ 21 (zu (τ 21) 10 e7)))) rfl (by show 0 ≤ 3 ∧ 3 < 2147483648 ∧ 0 < 2 ∧ 2 < 2147483648; omega) ?_
            refine exq_k 1 (P := none) (g := (cod m8_movesOf 38, [some (.inl 21), some (.inr f), some (.inr 1), some (.inr v), some (.inr 3), some (.inr (-1)), some (.inr 1)], [.inr (-1), .inr 1, .inr f, .inl 21, .inr v], (zr τ 21 (zu (τ 21) 10 e7)))) rfl trivial ?_
            refine exq_c (m_kind (τ := (zr τ 21 (zu (τ 21) 10 e7))) (f := f) (r := 1) (s := (-1)) hI hR (by omega) (by omega) (show oco c f 1 (-1) = 1 ∨ oco c f 1 (-1) = 2 ∨ oco c f 1 (-1) = 3 by omega)) (is := cod m8_movesOf 39) (L := [some (.inl 21), some (.inr f), some (.inr 1), some (.inr v), some (.inr 3), some (.inr (-1)), some (.inr 1)]) (st := [.inr v]) rfl rfl rfl ?_
            show Exq _ _ (cod m8_movesOf 39, [some (.inl 21), some (.inr f), some (.inr 1), some (.inr v), some (.inr 3), some (.inr (-1)), some (.inr 1)], [.inr (oco c f 1 (-1)), .inr v], (zr τ 21 (zu (τ 21) 10 e7))) _ _
            refine exq_k 1 (P := none) (g := (cod m8_movesOf 40, [some (.inl 21), some (.inr f), some (.inr 1), some (.inr v), some (.inr 3), some (.inr (-1)), some (.inr 1)], [.inr 3, .inr (oco c f 1 (-1)), .inr v], (zr τ 21 (zu (τ 21) 10 e7)))) rfl trivial ?_
            refine exq_b (P := ¬ (oco c f 1 (-1)) = 3) (ct := (cod m8_movesOf 43, [some (.inl 21), some (.inr f), some (.inr 1), some (.inr v), some (.inr 3), some (.inr (-1)), some (.inr 1)], [.inr v], (zr τ 21 (zu (τ 21) 10 e7)))) (cf := (cod m8_movesOf 41, [some (.inl 21), some (.inr f), some (.inr 1), some (.inr v), some (.inr 3), some (.inr (-1)), some (.inr 1)], [.inr v], (zr τ 21 (zu (τ 21) 10 e7)))) rfl ⟨⟨by omega, by omega⟩, ⟨by decide, by decide⟩⟩ (fun h8 => ?_) (fun h8 => ?_)
            · first
              | (exfalso; omega)
              | (
                  refine exq_k 7 (P := none) (g := (cod m8_movesOf 6, [some (.inl 21), some (.inr f), some (.inr 1), some (.inr (v + 0)), some (.inr 4), some (.inr (-1)), some (.inr 1)], [.inr 4, .inr 4], (zr τ 21 (zu (τ 21) 10 e7)))) rfl trivial ?_
                  refine exq_b (P := 4 ≤ 4) (ct := (cod m8_movesOf 48, [some (.inl 21), some (.inr f), some (.inr 1), some (.inr (v + 0)), some (.inr 4), some (.inr (-1)), some (.inr 1)], [], (zr τ 21 (zu (τ 21) 10 e7)))) (cf := (cod m8_movesOf 7, [some (.inl 21), some (.inr f), some (.inr 1), some (.inr (v + 0)), some (.inr 4), some (.inr (-1)), some (.inr 1)], [], (zr τ 21 (zu (τ 21) 10 e7)))) rfl ⟨⟨by decide, by decide⟩, ⟨by decide, by decide⟩⟩ (fun _ => ?_) (fun hh => absurd (by decide) hh)
                  refine exq_k 1 (P := none) (g := (cod m8_movesOf 49, [some (.inl 21), some (.inr f), some (.inr 1), some (.inr (v + 0)), some (.inr 4), some (.inr (-1)), some (.inr 1)], [.inr (v + 0)], (zr τ 21 (zu (τ 21) 10 e7)))) rfl trivial ?_
                  exact exq_r rfl trivial rfl (⟨_, rI2 ((show _ = 0 + b2 (oco c f 0 1 = 3) + b2 (oco c f 0 (-1) = 3) + b2 (oco c f 1 1 = 3) + b2 (oco c f 1 (-1) = 3) from by first | exact cnt_t hv (by omega) | exact cnt_f0 hv (by omega) | exact cnt_f hv (by omega)).trans (by unfold jby; omega)) rfl⟩))
            · first
              | (exfalso; omega)
              | (
                  refine exq_k 8 (P := none) (g := (cod m8_movesOf 6, [some (.inl 21), some (.inr f), some (.inr 1), some (.inr (v + 1)), some (.inr 4), some (.inr (-1)), some (.inr 1)], [.inr 4, .inr 4], (zr τ 21 (zu (τ 21) 10 e7)))) rfl trivial ?_
                  refine exq_b (P := 4 ≤ 4) (ct := (cod m8_movesOf 48, [some (.inl 21), some (.inr f), some (.inr 1), some (.inr (v + 1)), some (.inr 4), some (.inr (-1)), some (.inr 1)], [], (zr τ 21 (zu (τ 21) 10 e7)))) (cf := (cod m8_movesOf 7, [some (.inl 21), some (.inr f), some (.inr 1), some (.inr (v + 1)), some (.inr 4), some (.inr (-1)), some (.inr 1)], [], (zr τ 21 (zu (τ 21) 10 e7)))) rfl ⟨⟨by decide, by decide⟩, ⟨by decide, by decide⟩⟩ (fun _ => ?_) (fun hh => absurd (by decide) hh)
                  refine exq_k 1 (P := none) (g := (cod m8_movesOf 49, [some (.inl 21), some (.inr f), some (.inr 1), some (.inr (v + 1)), some (.inr 4), some (.inr (-1)), some (.inr 1)], [.inr (v + 1)], (zr τ 21 (zu (τ 21) 10 e7)))) rfl trivial ?_
                  exact exq_r rfl trivial rfl (⟨_, rI2 ((show _ = 0 + b2 (oco c f 0 1 = 3) + b2 (oco c f 0 (-1) = 3) + b2 (oco c f 1 1 = 3) + b2 (oco c f 1 (-1) = 3) from by first | exact cnt_t hv (by omega) | exact cnt_f0 hv (by omega) | exact cnt_f hv (by omega)).trans (by unfold jby; omega)) rfl⟩)))
    have q2 : ∀ (v e : Int) (o0 : Option VZ) (o1 : Option VZ), v = 0 + b2 (oco c f 0 1 = 3) + b2 (oco c f 0 (-1) = 3) → Exq 4 m8_movesOf (cod m8_movesOf 4, [some (.inl 21), some (.inr f), some (.inr 1), some (.inr v), some (.inr 2), o0, o1], [], (zr τ 21 (zu (τ 21) 10 e))) 0 (fun q => ∃ e, q = .inl (some (.inr (jby c f)), dt τ e)) := by
      intro v e o0 o1 hv
      refine exq_k 2 (P := none) (g := (cod m8_movesOf 6, [some (.inl 21), some (.inr f), some (.inr 1), some (.inr v), some (.inr 2), o0, o1], [.inr 4, .inr 2], (zr τ 21 (zu (τ 21) 10 e)))) rfl trivial ?_
      refine exq_b (P := 4 ≤ 2) (ct := (cod m8_movesOf 48, [some (.inl 21), some (.inr f), some (.inr 1), some (.inr v), some (.inr 2), o0, o1], [], (zr τ 21 (zu (τ 21) 10 e)))) (cf := (cod m8_movesOf 7, [some (.inl 21), some (.inr f), some (.inr 1), some (.inr v), some (.inr 2), o0, o1], [], (zr τ 21 (zu (τ 21) 10 e)))) rfl ⟨⟨by decide, by decide⟩, ⟨by decide, by decide⟩⟩ (fun hh => absurd hh (by decide)) (fun _ => ?_)
      refine exq_k 3 (P := some (0 ≤ 2 ∧ 2 < 2147483648 ∧ 0 < 2 ∧ 2 < 2147483648)) (g := (cod m8_movesOf 10, [some (.inl 21), some (.inr f), some (.inr 1), some (.inr v), some (.inr 2), o0, o1], [.inr 0], (zr τ 21 (zu (τ 21) 10 e)))) rfl (by show 0 ≤ 2 ∧ 2 < 2147483648 ∧ 0 < 2 ∧ 2 < 2147483648; omega) ?_
      refine exq_b (P := ¬ 0 = 0) (ct := (cod m8_movesOf 13, [some (.inl 21), some (.inr f), some (.inr 1), some (.inr v), some (.inr 2), o0, o1], [], (zr τ 21 (zu (τ 21) 10 e)))) (cf := (cod m8_movesOf 11, [some (.inl 21), some (.inr f), some (.inr 1), some (.inr v), some (.inr 2), o0, o1], [], (zr τ 21 (zu (τ 21) 10 e)))) rfl ⟨by decide, by decide⟩ (fun hh => absurd hh (by decide)) (fun _ => ?_)
      refine exq_k 8 (P := some (0 ≤ 2 ∧ 2 < 2147483648 ∧ 0 < 2 ∧ 2 < 2147483648)) (g := (cod m8_movesOf 20, [some (.inl 21), some (.inr f), some (.inr 1), some (.inr v), some (.inr 2), some (.inr 1), o1], [.inr 1, .inr f, .inl 21], (zr τ 21 (zu (τ 21) 10 e)))) rfl (by show 0 ≤ 2 ∧ 2 < 2147483648 ∧ 0 < 2 ∧ 2 < 2147483648; omega) ?_
      refine exq_k 1 (P := none) (g := (cod m8_movesOf 21, [some (.inl 21), some (.inr f), some (.inr 1), some (.inr v), some (.inr 2), some (.inr 1), o1], [.inr 1, .inr 1, .inr f, .inl 21], (zr τ 21 (zu (τ 21) 10 e)))) rfl trivial ?_
      obtain ⟨e8, he8, hc8⟩ := m_hinders (τ := (zr τ 21 (zu (τ 21) 10 e))) (f := f) (r := 1) (s := 1) hI hR (by omega) (by omega) (by omega)
      refine exq_c hc8 (is := cod m8_movesOf 22) (L := [some (.inl 21), some (.inr f), some (.inr 1), some (.inr v), some (.inr 2), some (.inr 1), o1]) (st := []) rfl rfl rfl ?_
      show Exq _ _ (cod m8_movesOf 22, [some (.inl 21), some (.inr f), some (.inr 1), some (.inr v), some (.inr 2), some (.inr 1), o1], [.inr (hnd c f 1 1)], (zr (zr τ 21 (zu (τ 21) 10 e)) 21 (zu (zu (τ 21) 10 e) 10 e8))) _ _
      rw [zr_zr, zu_zu]
      refine exq_b (P := ¬ (hnd c f 1 1) = 0) (ct := (cod m8_movesOf 25, [some (.inl 21), some (.inr f), some (.inr 1), some (.inr v), some (.inr 2), some (.inr 1), o1], [], (zr τ 21 (zu (τ 21) 10 e8)))) (cf := (cod m8_movesOf 23, [some (.inl 21), some (.inr f), some (.inr 1), some (.inr v), some (.inr 2), some (.inr 1), o1], [], (zr τ 21 (zu (τ 21) 10 e8)))) rfl ⟨by omega, by omega⟩ (fun h3 => ?_) (fun h3 => ?_)
      · first
        | (exfalso; omega)
        | (
            refine exq_k 4 (P := none) (g := (cod m8_movesOf 29, [some (.inl 21), some (.inr f), some (.inr 1), some (.inr v), some (.inr 2), some (.inr 1), some (.inr 0)], [.inr 0, .inr v], (zr τ 21 (zu (τ 21) 10 e8)))) rfl trivial ?_
            refine exq_b (P := 0 = 0) (ct := (cod m8_movesOf 43, [some (.inl 21), some (.inr f), some (.inr 1), some (.inr v), some (.inr 2), some (.inr 1), some (.inr 0)], [.inr v], (zr τ 21 (zu (τ 21) 10 e8)))) (cf := (cod m8_movesOf 30, [some (.inl 21), some (.inr f), some (.inr 1), some (.inr v), some (.inr 2), some (.inr 1), some (.inr 0)], [.inr v], (zr τ 21 (zu (τ 21) 10 e8)))) rfl ⟨by decide, by decide⟩ (fun _ => ?_) (fun hh => absurd (by decide) hh)
            refine exq_k 5 (P := none) (g := (cod m8_movesOf 4, [some (.inl 21), some (.inr f), some (.inr 1), some (.inr (v + 0)), some (.inr 3), some (.inr 1), some (.inr 0)], [], (zr τ 21 (zu (τ 21) 10 e8)))) rfl trivial ?_
            exact q3 _ _ _ _ (by first | exact cnt_t hv (by omega) | exact cnt_f0 hv (by omega) | exact cnt_f hv (by omega)))
      · first
        | (exfalso; omega)
        | (
            refine exq_k 5 (P := none) (g := (cod m8_movesOf 29, [some (.inl 21), some (.inr f), some (.inr 1), some (.inr v), some (.inr 2), some (.inr 1), some (.inr 1)], [.inr 1, .inr v], (zr τ 21 (zu (τ 21) 10 e8)))) rfl trivial ?_
            refine exq_b (P := 1 = 0) (ct := (cod m8_movesOf 43, [some (.inl 21), some (.inr f), some (.inr 1), some (.inr v), some (.inr 2), some (.inr 1), some (.inr 1)], [.inr v], (zr τ 21 (zu (τ 21) 10 e8)))) (cf := (cod m8_movesOf 30, [some (.inl 21), some (.inr f), some (.inr 1), some (.inr v), some (.inr 2), some (.inr 1), some (.inr 1)], [.inr v], (zr τ 21 (zu (τ 21) 10 e8)))) rfl ⟨by decide, by decide⟩ (fun hh => absurd hh (by decide)) (fun _ => ?_)
            refine exq_k 1 (P := none) (g := (cod m8_movesOf 31, [some (.inl 21), some (.inr f), some (.inr 1), some (.inr v), some (.inr 2), some (.inr 1), some (.inr 1)], [.inr 1, .inr v], (zr τ 21 (zu (τ 21) 10 e8)))) rfl trivial ?_
            refine exq_b (P := 1 = 0) (ct := (cod m8_movesOf 41, [some (.inl 21), some (.inr f), some (.inr 1), some (.inr v), some (.inr 2), some (.inr 1), some (.inr 1)], [.inr v], (zr τ 21 (zu (τ 21) 10 e8)))) (cf := (cod m8_movesOf 32, [some (.inl 21), some (.inr f), some (.inr 1), some (.inr v), some (.inr 2), some (.inr 1), some (.inr 1)], [.inr v], (zr τ 21 (zu (τ 21) 10 e8)))) rfl ⟨by decide, by decide⟩ (fun hh => absurd hh (by decide)) (fun _ => ?_)
            refine exq_k 5 (P := some (0 ≤ 2 ∧ 2 < 2147483648 ∧ 0 < 2 ∧ 2 < 2147483648)) (g := (cod m8_movesOf 37, [some (.inl 21), some (.inr f), some (.inr 1), some (.inr v), some (.inr 2), some (.inr 1), some (.inr 1)], [.inr 1, .inr f, .inl 21, .inr v], (zr τ 21 (zu (τ 21) 10 e8)))) rfl (by show 0 ≤ 2 ∧ 2 < 2147483648 ∧ 0 < 2 ∧ 2 < 2147483648; omega) ?_
            refine exq_k 1 (P := none) (g := (cod m8_movesOf 38, [some (.inl 21), some (.inr f), some (.inr 1), some (.inr v), some (.inr 2), some (.inr 1), some (.inr 1)], [.inr 1, .inr 1, .inr f, .inl 21, .inr v], (zr τ 21 (zu (τ 21) 10 e8)))) rfl trivial ?_
            refine exq_c (m_kind (τ := (zr τ 21 (zu (τ 21) 10 e8))) (f := f) (r := 1) (s := 1) hI hR (by omega) (by omega) (show oco c f 1 1 = 1 ∨ oco c f 1 1 = 2 ∨ oco c f 1 1 = 3 by omega)) (is := cod m8_movesOf 39) (L := [some (.inl 21), some (.inr f), some (.inr 1), some (.inr v), some (.inr 2), some (.inr 1), some (.inr 1)]) (st := [.inr v]) rfl rfl rfl ?_
            show Exq _ _ (cod m8_movesOf 39, [some (.inl 21), some (.inr f), some (.inr 1), some (.inr v), some (.inr 2), some (.inr 1), some (.inr 1)], [.inr (oco c f 1 1), .inr v], (zr τ 21 (zu (τ 21) 10 e8))) _ _
            refine exq_k 1 (P := none) (g := (cod m8_movesOf 40, [some (.inl 21), some (.inr f), some (.inr 1), some (.inr v), some (.inr 2), some (.inr 1), some (.inr 1)], [.inr 3, .inr (oco c f 1 1), .inr v], (zr τ 21 (zu (τ 21) 10 e8)))) rfl trivial ?_
            refine exq_b (P := ¬ (oco c f 1 1) = 3) (ct := (cod m8_movesOf 43, [some (.inl 21), some (.inr f), some (.inr 1), some (.inr v), some (.inr 2), some (.inr 1), some (.inr 1)], [.inr v], (zr τ 21 (zu (τ 21) 10 e8)))) (cf := (cod m8_movesOf 41, [some (.inl 21), some (.inr f), some (.inr 1), some (.inr v), some (.inr 2), some (.inr 1), some (.inr 1)], [.inr v], (zr τ 21 (zu (τ 21) 10 e8)))) rfl ⟨⟨by omega, by omega⟩, ⟨by decide, by decide⟩⟩ (fun h7 => ?_) (fun h7 => ?_)
            · first
              | (exfalso; omega)
              | (
                  refine exq_k 5 (P := none) (g := (cod m8_movesOf 4, [some (.inl 21), some (.inr f), some (.inr 1), some (.inr (v + 0)), some (.inr 3), some (.inr 1), some (.inr 1)], [], (zr τ 21 (zu (τ 21) 10 e8)))) rfl trivial ?_
                  exact q3 _ _ _ _ (by first | exact cnt_t hv (by omega) | exact cnt_f0 hv (by omega) | exact cnt_f hv (by omega)))
            · first
              | (exfalso; omega)
              | (
                  refine exq_k 6 (P := none) (g := (cod m8_movesOf 4, [some (.inl 21), some (.inr f), some (.inr 1), some (.inr (v + 1)), some (.inr 3), some (.inr 1), some (.inr 1)], [], (zr τ 21 (zu (τ 21) 10 e8)))) rfl trivial ?_
                  exact q3 _ _ _ _ (by first | exact cnt_t hv (by omega) | exact cnt_f0 hv (by omega) | exact cnt_f hv (by omega))))
    have q1 : ∀ (v e : Int) (o0 : Option VZ) (o1 : Option VZ), v = 0 + b2 (oco c f 0 1 = 3) → Exq 4 m8_movesOf (cod m8_movesOf 4, [some (.inl 21), some (.inr f), some (.inr 1), some (.inr v), some (.inr 1), o0, o1], [], (zr τ 21 (zu (τ 21) 10 e))) 0 (fun q => ∃ e, q = .inl (some (.inr (jby c f)), dt τ e)) := by
      intro v e o0 o1 hv
      refine exq_k 2 (P := none) (g := (cod m8_movesOf 6, [some (.inl 21), some (.inr f), some (.inr 1), some (.inr v), some (.inr 1), o0, o1], [.inr 4, .inr 1], (zr τ 21 (zu (τ 21) 10 e)))) rfl trivial ?_
      refine exq_b (P := 4 ≤ 1) (ct := (cod m8_movesOf 48, [some (.inl 21), some (.inr f), some (.inr 1), some (.inr v), some (.inr 1), o0, o1], [], (zr τ 21 (zu (τ 21) 10 e)))) (cf := (cod m8_movesOf 7, [some (.inl 21), some (.inr f), some (.inr 1), some (.inr v), some (.inr 1), o0, o1], [], (zr τ 21 (zu (τ 21) 10 e)))) rfl ⟨⟨by decide, by decide⟩, ⟨by decide, by decide⟩⟩ (fun hh => absurd hh (by decide)) (fun _ => ?_)
      refine exq_k 3 (P := some (0 ≤ 1 ∧ 1 < 2147483648 ∧ 0 < 2 ∧ 2 < 2147483648)) (g := (cod m8_movesOf 10, [some (.inl 21), some (.inr f), some (.inr 1), some (.inr v), some (.inr 1), o0, o1], [.inr 1], (zr τ 21 (zu (τ 21) 10 e)))) rfl (by show 0 ≤ 1 ∧ 1 < 2147483648 ∧ 0 < 2 ∧ 2 < 2147483648; omega) ?_
      refine exq_b (P := ¬ 1 = 0) (ct := (cod m8_movesOf 13, [some (.inl 21), some (.inr f), some (.inr 1), some (.inr v), some (.inr 1), o0, o1], [], (zr τ 21 (zu (τ 21) 10 e)))) (cf := (cod m8_movesOf 11, [some (.inl 21), some (.inr f), some (.inr 1), some (.inr v), some (.inr 1), o0, o1], [], (zr τ 21 (zu (τ 21) 10 e)))) rfl ⟨by decide, by decide⟩ (fun _ => ?_) (fun hh => absurd (by decide) hh)
      refine exq_k 7 (P := some (0 ≤ 1 ∧ 1 < 2147483648 ∧ 0 < 2 ∧ 2 < 2147483648)) (g := (cod m8_movesOf 20, [some (.inl 21), some (.inr f), some (.inr 1), some (.inr v), some (.inr 1), some (.inr (-1)), o1], [.inr 0, .inr f, .inl 21], (zr τ 21 (zu (τ 21) 10 e)))) rfl (by show 0 ≤ 1 ∧ 1 < 2147483648 ∧ 0 < 2 ∧ 2 < 2147483648; omega) ?_
      refine exq_k 1 (P := none) (g := (cod m8_movesOf 21, [some (.inl 21), some (.inr f), some (.inr 1), some (.inr v), some (.inr 1), some (.inr (-1)), o1], [.inr (-1), .inr 0, .inr f, .inl 21], (zr τ 21 (zu (τ 21) 10 e)))) rfl trivial ?_
      obtain ⟨e9, he9, hc9⟩ := m_hinders (τ := (zr τ 21 (zu (τ 21) 10 e))) (f := f) (r := 0) (s := (-1)) hI hR (by omega) (by omega) (by omega)
      refine exq_c hc9 (is := cod m8_movesOf 22) (L := [some (.inl 21), some (.inr f), some (.inr 1), some (.inr v), some (.inr 1), some (.inr (-1)), o1]) (st := []) rfl rfl rfl ?_
      show Exq _ _ (cod m8_movesOf 22, [some (.inl 21), some (.inr f), some (.inr 1), some (.inr v), some (.inr 1), some (.inr (-1)), o1], [.inr (hnd c f 0 (-1))], (zr (zr τ 21 (zu (τ 21) 10 e)) 21 (zu (zu (τ 21) 10 e) 10 e9))) _ _
      rw [zr_zr, zu_zu]
      refine exq_b (P := ¬ (hnd c f 0 (-1)) = 0) (ct := (cod m8_movesOf 25, [some (.inl 21), some (.inr f), some (.inr 1), some (.inr v), some (.inr 1), some (.inr (-1)), o1], [], (zr τ 21 (zu (τ 21) 10 e9)))) (cf := (cod m8_movesOf 23, [some (.inl 21), some (.inr f), some (.inr 1), some (.inr v), some (.inr 1), some (.inr (-1)), o1], [], (zr τ 21 (zu (τ 21) 10 e9)))) rfl ⟨by omega, by omega⟩ (fun h3 => ?_) (fun h3 => ?_)
      · first
        | (exfalso; omega)
        | (
            refine exq_k 4 (P := none) (g := (cod m8_movesOf 29, [some (.inl 21), some (.inr f), some (.inr 1), some (.inr v), some (.inr 1), some (.inr (-1)), some (.inr 0)], [.inr 0, .inr v], (zr τ 21 (zu (τ 21) 10 e9)))) rfl trivial ?_
            refine exq_b (P := 0 = 0) (ct := (cod m8_movesOf 43, [some (.inl 21), some (.inr f), some (.inr 1), some (.inr v), some (.inr 1), some (.inr (-1)), some (.inr 0)], [.inr v], (zr τ 21 (zu (τ 21) 10 e9)))) (cf := (cod m8_movesOf 30, [some (.inl 21), some (.inr f), some (.inr 1), some (.inr v), some (.inr 1), some (.inr (-1)), some (.inr 0)], [.inr v], (zr τ 21 (zu (τ 21) 10 e9)))) rfl ⟨by decide, by decide⟩ (fun _ => ?_) (fun hh => absurd (by decide) hh)
            refine exq_k 5 (P := none) (g := (cod m8_movesOf 4, [some (.inl 21), some (.inr f), some (.inr 1), some (.inr (v + 0)), some (.inr 2), some (.inr (-1)), some (.inr 0)], [], (zr τ 21 (zu (τ 21) 10 e9)))) rfl trivial ?_
            exact q2 _ _ _ _ (by first | exact cnt_t hv (by omega) | exact cnt_f0 hv (by omega) | exact cnt_f hv (by omega)))
      · first
        | (exfalso; omega)
        | (
            refine exq_k 5 (P := none) (g := (cod m8_movesOf 29, [some (.inl 21), some (.inr f), some (.inr 1), some (.inr v), some (.inr 1), some (.inr (-1)), some (.inr 1)], [.inr 1, .inr v], (zr τ 21 (zu (τ 21) 10 e9)))) rfl trivial ?_
            refine exq_b (P := 1 = 0) (ct := (cod m8_movesOf 43, [some (.inl 21), some (.inr f), some (.inr 1), some (.inr v), some (.inr 1), some (.inr (-1)), some (.inr 1)], [.inr v], (zr τ 21 (zu (τ 21) 10 e9)))) (cf := (cod m8_movesOf 30, [some (.inl 21), some (.inr f), some (.inr 1), some (.inr v), some (.inr 1), some (.inr (-1)), some (.inr 1)], [.inr v], (zr τ 21 (zu (τ 21) 10 e9)))) rfl ⟨by decide, by decide⟩ (fun hh => absurd hh (by decide)) (fun _ => ?_)
            refine exq_k 1 (P := none) (g := (cod m8_movesOf 31, [some (.inl 21), some (.inr f), some (.inr 1), some (.inr v), some (.inr 1), some (.inr (-1)), some (.inr 1)], [.inr 1, .inr v], (zr τ 21 (zu (τ 21) 10 e9)))) rfl trivial ?_
            refine exq_b (P := 1 = 0) (ct := (cod m8_movesOf 41, [some (.inl 21), some (.inr f), some (.inr 1), some (.inr v), some (.inr 1), some (.inr (-1)), some (.inr 1)], [.inr v], (zr τ 21 (zu (τ 21) 10 e9)))) (cf := (cod m8_movesOf 32, [some (.inl 21), some (.inr f), some (.inr 1), some (.inr v), some (.inr 1), some (.inr (-1)), some (.inr 1)], [.inr v], (zr τ 21 (zu (τ 21) 10 e9)))) rfl ⟨by decide, by decide⟩ (fun hh => absurd hh (by decide)) (fun _ => ?_)
            refine exq_k 5 (P := some (0 ≤ 1 ∧ 1 < 2147483648 ∧ 0 < 2 ∧ 2 < 2147483648)) (g := (cod m8_movesOf 37, [some (.inl 21), some (.inr f), some (.inr 1), some (.inr v), some (.inr 1), some (.inr (-1)), some (.inr 1)], [.inr 0, .inr f, .inl 21, .inr v], (zr τ 21 (zu (τ 21) 10 e9)))) rfl (by show 0 ≤ 1 ∧ 1 < 2147483648 ∧ 0 < 2 ∧ 2 < 2147483648; omega) ?_
            refine exq_k 1 (P := none) (g := (cod m8_movesOf 38, [some (.inl 21), some (.inr f), some (.inr 1), some (.inr v), some (.inr 1), some (.inr (-1)), some (.inr 1)], [.inr (-1), .inr 0, .inr f, .inl 21, .inr v], (zr τ 21 (zu (τ 21) 10 e9)))) rfl trivial ?_
            refine exq_c (m_kind (τ := (zr τ 21 (zu (τ 21) 10 e9))) (f := f) (r := 0) (s := (-1)) hI hR (by omega) (by omega) (show oco c f 0 (-1) = 1 ∨ oco c f 0 (-1) = 2 ∨ oco c f 0 (-1) = 3 by omega)) (is := cod m8_movesOf 39) (L := [some (.inl 21), some (.inr f), some (.inr 1), some (.inr v), some (.inr 1), some (.inr (-1)), some (.inr 1)]) (st := [.inr v]) rfl rfl rfl ?_
            show Exq _ _ (cod m8_movesOf 39, [some (.inl 21), some (.inr f), some (.inr 1), some (.inr v), some (.inr 1), some (.inr (-1)), some (.inr 1)], [.inr (oco c f 0 (-1)), .inr v], (zr τ 21 (zu (τ 21) 10 e9))) _ _
            refine exq_k 1 (P := none) (g := (cod m8_movesOf 40, [some (.inl 21), some (.inr f), some (.inr 1), some (.inr v), some (.inr 1), some (.inr (-1)), some (.inr 1)], [.inr 3, .inr (oco c f 0 (-1)), .inr v], (zr τ 21 (zu (τ 21) 10 e9)))) rfl trivial ?_
            refine exq_b (P := ¬ (oco c f 0 (-1)) = 3) (ct := (cod m8_movesOf 43, [some (.inl 21), some (.inr f), some (.inr 1), some (.inr v), some (.inr 1), some (.inr (-1)), some (.inr 1)], [.inr v], (zr τ 21 (zu (τ 21) 10 e9)))) (cf := (cod m8_movesOf 41, [some (.inl 21), some (.inr f), some (.inr 1), some (.inr v), some (.inr 1), some (.inr (-1)), some (.inr 1)], [.inr v], (zr τ 21 (zu (τ 21) 10 e9)))) rfl ⟨⟨by omega, by omega⟩, ⟨by decide, by decide⟩⟩ (fun h7 => ?_) (fun h7 => ?_)
            · first
              | (exfalso; omega)
              | (
                  refine exq_k 5 (P := none) (g := (cod m8_movesOf 4, [some (.inl 21), some (.inr f), some (.inr 1), some (.inr (v + 0)), some (.inr 2), some (.inr (-1)), some (.inr 1)], [], (zr τ 21 (zu (τ 21) 10 e9)))) rfl trivial ?_
                  exact q2 _ _ _ _ (by first | exact cnt_t hv (by omega) | exact cnt_f0 hv (by omega) | exact cnt_f hv (by omega)))
            · first
              | (exfalso; omega)
              | (
                  refine exq_k 6 (P := none) (g := (cod m8_movesOf 4, [some (.inl 21), some (.inr f), some (.inr 1), some (.inr (v + 1)), some (.inr 2), some (.inr (-1)), some (.inr 1)], [], (zr τ 21 (zu (τ 21) 10 e9)))) rfl trivial ?_
                  exact q2 _ _ _ _ (by first | exact cnt_t hv (by omega) | exact cnt_f0 hv (by omega) | exact cnt_f hv (by omega))))
    have q0 : ∀ (v e : Int) (o0 : Option VZ) (o1 : Option VZ), v = 0 → Exq 4 m8_movesOf (cod m8_movesOf 4, [some (.inl 21), some (.inr f), some (.inr 1), some (.inr v), some (.inr 0), o0, o1], [], (zr τ 21 (zu (τ 21) 10 e))) 0 (fun q => ∃ e, q = .inl (some (.inr (jby c f)), dt τ e)) := by
      intro v e o0 o1 hv
      refine exq_k 2 (P := none) (g := (cod m8_movesOf 6, [some (.inl 21), some (.inr f), some (.inr 1), some (.inr v), some (.inr 0), o0, o1], [.inr 4, .inr 0], (zr τ 21 (zu (τ 21) 10 e)))) rfl trivial ?_
      refine exq_b (P := 4 ≤ 0) (ct := (cod m8_movesOf 48, [some (.inl 21), some (.inr f), some (.inr 1), some (.inr v), some (.inr 0), o0, o1], [], (zr τ 21 (zu (τ 21) 10 e)))) (cf := (cod m8_movesOf 7, [some (.inl 21), some (.inr f), some (.inr 1), some (.inr v), some (.inr 0), o0, o1], [], (zr τ 21 (zu (τ 21) 10 e)))) rfl ⟨⟨by decide, by decide⟩, ⟨by decide, by decide⟩⟩ (fun hh => absurd hh (by decide)) (fun _ => ?_)
      refine exq_k 3 (P := some (0 ≤ 0 ∧ 0 < 2147483648 ∧ 0 < 2 ∧ 2 < 2147483648)) (g := (cod m8_movesOf 10, [some (.inl 21), some (.inr f), some (.inr 1), some (.inr v), some (.inr 0), o0, o1], [.inr 0], (zr τ 21 (zu (τ 21) 10 e)))) rfl (by show 0 ≤ 0 ∧ 0 < 2147483648 ∧ 0 < 2 ∧ 2 < 2147483648; omega) ?_
      refine exq_b (P := ¬ 0 = 0) (ct := (cod m8_movesOf 13, [some (.inl 21), some (.inr f), some (.inr 1), some (.inr v), some (.inr 0), o0, o1], [], (zr τ 21 (zu (τ 21) 10 e)))) (cf := (cod m8_movesOf 11, [some (.inl 21), some (.inr f), some (.inr 1), some (.inr v), some (.inr 0), o0, o1], [], (zr τ 21 (zu (τ 21) 10 e)))) rfl ⟨by decide, by decide⟩ (fun hh => absurd hh (by decide)) (fun _ => ?_)
      refine exq_k 8 (P := some (0 ≤ 0 ∧ 0 < 2147483648 ∧ 0 < 2 ∧ 2 < 2147483648)) (g := (cod m8_movesOf 20, [some (.inl 21), some (.inr f), some (.inr 1), some (.inr v), some (.inr 0), some (.inr 1), o1], [.inr 0, .inr f, .inl 21], (zr τ 21 (zu (τ 21) 10 e)))) rfl (by show 0 ≤ 0 ∧ 0 < 2147483648 ∧ 0 < 2 ∧ 2 < 2147483648; omega) ?_
      refine exq_k 1 (P := none) (g := (cod m8_movesOf 21, [some (.inl 21), some (.inr f), some (.inr 1), some (.inr v), some (.inr 0), some (.inr 1), o1], [.inr 1, .inr 0, .inr f, .inl 21], (zr τ 21 (zu (τ 21) 10 e)))) rfl trivial ?_
      obtain ⟨e10, he10, hc10⟩ := m_hinders (τ := (zr τ 21 (zu (τ 21) 10 e))) (f := f) (r := 0) (s := 1) hI hR (by omega) (by omega) (by omega)
      refine exq_c hc10 (is := cod m8_movesOf 22) (L := [some (.inl 21), some (.inr f), some (.inr 1), some (.inr v), some (.inr 0), some (.inr 1), o1]) (st := []) rfl rfl rfl ?_
      show Exq _ _ (cod m8_movesOf 22, [some (.inl 21), some (.inr f), some (.inr 1), some (.inr v), some (.inr 0), some (.inr 1), o1], [.inr (hnd c f 0 1)], (zr (zr τ 21 (zu (τ 21) 10 e)) 21 (zu (zu (τ 21) 10 e) 10 e10))) _ _
      rw [zr_zr, zu_zu]
      refine exq_b (P := ¬ (hnd c f 0 1) = 0) (ct := (cod m8_movesOf 25, [some (.inl 21), some (.inr f), some (.inr 1), some (.inr v), some (.inr 0), some (.inr 1), o1], [], (zr τ 21 (zu (τ 21) 10 e10)))) (cf := (cod m8_movesOf 23, [some (.inl 21), some (.inr f), some (.inr 1), some (.inr v), some (.inr 0), some (.inr 1), o1], [], (zr τ 21 (zu (τ 21) 10 e10)))) rfl ⟨by omega, by omega⟩ (fun h3 => ?_) (fun h3 => ?_)
      · first
        | (exfalso; omega)
        | (
            refine exq_k 4 (P := none) (g := (cod m8_movesOf 29, [some (.inl 21), some (.inr f), some (.inr 1), some (.inr v), some (.inr 0), some (.inr 1), some (.inr 0)], [.inr 0, .inr v], (zr τ 21 (zu (τ 21) 10 e10)))) rfl trivial ?_
            refine exq_b (P := 0 = 0) (ct := (cod m8_movesOf 43, [some (.inl 21), some (.inr f), some (.inr 1), some (.inr v), some (.inr 0), some (.inr 1), some (.inr 0)], [.inr v], (zr τ 21 (zu (τ 21) 10 e10)))) (cf := (cod m8_movesOf 30, [some (.inl 21), some (.inr f), some (.inr 1), some (.inr v), some (.inr 0), some (.inr 1), some (.inr 0)], [.inr v], (zr τ 21 (zu (τ 21) 10 e10)))) rfl ⟨by decide, by decide⟩ (fun _ => ?_) (fun hh => absurd (by decide) hh)
            refine exq_k 5 (P := none) (g := (cod m8_movesOf 4, [some (.inl 21), some (.inr f), some (.inr 1), some (.inr (v + 0)), some (.inr 1), some (.inr 1), some (.inr 0)], [], (zr τ 21 (zu (τ 21) 10 e10)))) rfl trivial ?_
            exact q1 _ _ _ _ (by first | exact cnt_t hv (by omega) | exact cnt_f0 hv (by omega) | exact cnt_f hv (by omega)))
      · first
        | (exfalso; omega)
        | (
            refine exq_k 5 (P := none) (g := (cod m8_movesOf 29, [some (.inl 21), some (.inr f), some (.inr 1), some (.inr v), some (.inr 0), some (.inr 1), some (.inr 1)], [.inr 1, .inr v], (zr τ 21 (zu (τ 21) 10 e10)))) rfl trivial ?_
            refine exq_b (P := 1 = 0) (ct := (cod m8_movesOf 43, [some (.inl 21), some (.inr f), some (.inr 1), some (.inr v), some (.inr 0), some (.inr 1), some (.inr 1)], [.inr v], (zr τ 21 (zu (τ 21) 10 e10)))) (cf := (cod m8_movesOf 30, [some (.inl 21), some (.inr f), some (.inr 1), some (.inr v), some (.inr 0), some (.inr 1), some (.inr 1)], [.inr v], (zr τ 21 (zu (τ 21) 10 e10)))) rfl ⟨by decide, by decide⟩ (fun hh => absurd hh (by decide)) (fun _ => ?_)
            refine exq_k 1 (P := none) (g := (cod m8_movesOf 31, [some (.inl 21), some (.inr f), some (.inr 1), some (.inr v), some (.inr 0), some (.inr 1), some (.inr 1)], [.inr 1, .inr v], (zr τ 21 (zu (τ 21) 10 e10)))) rfl trivial ?_
            refine exq_b (P := 1 = 0) (ct := (cod m8_movesOf 41, [some (.inl 21), some (.inr f), some (.inr 1), some (.inr v), some (.inr 0), some (.inr 1), some (.inr 1)], [.inr v], (zr τ 21 (zu (τ 21) 10 e10)))) (cf := (cod m8_movesOf 32, [some (.inl 21), some (.inr f), some (.inr 1), some (.inr v), some (.inr 0), some (.inr 1), some (.inr 1)], [.inr v], (zr τ 21 (zu (τ 21) 10 e10)))) rfl ⟨by decide, by decide⟩ (fun hh => absurd hh (by decide)) (fun _ => ?_)
            refine exq_k 5 (P := some (0 ≤ 0 ∧ 0 < 2147483648 ∧ 0 < 2 ∧ 2 < 2147483648)) (g := (cod m8_movesOf 37, [some (.inl 21), some (.inr f), some (.inr 1), some (.inr v), some (.inr 0), some (.inr 1), some (.inr 1)], [.inr 0, .inr f, .inl 21, .inr v], (zr τ 21 (zu (τ 21) 10 e10)))) rfl (by show 0 ≤ 0 ∧ 0 < 2147483648 ∧ 0 < 2 ∧ 2 < 2147483648; omega) ?_
            refine exq_k 1 (P := none) (g := (cod m8_movesOf 38, [some (.inl 21), some (.inr f), some (.inr 1), some (.inr v), some (.inr 0), some (.inr 1), some (.inr 1)], [.inr 1, .inr 0, .inr f, .inl 21, .inr v], (zr τ 21 (zu (τ 21) 10 e10)))) rfl trivial ?_
            refine exq_c (m_kind (τ := (zr τ 21 (zu (τ 21) 10 e10))) (f := f) (r := 0) (s := 1) hI hR (by omega) (by omega) (show oco c f 0 1 = 1 ∨ oco c f 0 1 = 2 ∨ oco c f 0 1 = 3 by omega)) (is := cod m8_movesOf 39) (L := [some (.inl 21), some (.inr f), some (.inr 1), some (.inr v), some (.inr 0), some (.inr 1), some (.inr 1)]) (st := [.inr v]) rfl rfl rfl ?_
            show Exq _ _ (cod m8_movesOf 39, [some (.inl 21), some (.inr f), some (.inr 1), some (.inr v), some (.inr 0), some (.inr 1), some (.inr 1)], [.inr (oco c f 0 1), .inr v], (zr τ 21 (zu (τ 21) 10 e10))) _ _
            refine exq_k 1 (P := none) (g := (cod m8_movesOf 40, [some (.inl 21), some (.inr f), some (.inr 1), some (.inr v), some (.inr 0), some (.inr 1), some (.inr 1)], [.inr 3, .inr (oco c f 0 1), .inr v], (zr τ 21 (zu (τ 21) 10 e10)))) rfl trivial ?_
            refine exq_b (P := ¬ (oco c f 0 1) = 3) (ct := (cod m8_movesOf 43, [some (.inl 21), some (.inr f), some (.inr 1), some (.inr v), some (.inr 0), some (.inr 1), some (.inr 1)], [.inr v], (zr τ 21 (zu (τ 21) 10 e10)))) (cf := (cod m8_movesOf 41, [some (.inl 21), some (.inr f), some (.inr 1), some (.inr v), some (.inr 0), some (.inr 1), some (.inr 1)], [.inr v], (zr τ 21 (zu (τ 21) 10 e10)))) rfl ⟨⟨by omega, by omega⟩, ⟨by decide, by decide⟩⟩ (fun h7 => ?_) (fun h7 => ?_)
            · first
              | (exfalso; omega)
              | (
                  refine exq_k 5 (P := none) (g := (cod m8_movesOf 4, [some (.inl 21), some (.inr f), some (.inr 1), some (.inr (v + 0)), some (.inr 1), some (.inr 1), some (.inr 1)], [], (zr τ 21 (zu (τ 21) 10 e10)))) rfl trivial ?_
                  exact q1 _ _ _ _ (by first | exact cnt_t hv (by omega) | exact cnt_f0 hv (by omega) | exact cnt_f hv (by omega)))
            · first
              | (exfalso; omega)
              | (
                  refine exq_k 6 (P := none) (g := (cod m8_movesOf 4, [some (.inl 21), some (.inr f), some (.inr 1), some (.inr (v + 1)), some (.inr 1), some (.inr 1), some (.inr 1)], [], (zr τ 21 (zu (τ 21) 10 e10)))) rfl trivial ?_
                  exact q1 _ _ _ _ (by first | exact cnt_t hv (by omega) | exact cnt_f0 hv (by omega) | exact cnt_f hv (by omega))))
    refine Exq.call ?_ rfl rfl
    show Exq _ _ (cod m8_movesOf 0, [some (.inl 21), some (.inr f), some (.inr 1), none, none, none, none], [], τ) _ _
    refine exq_k 4 (P := none) (g := (cod m8_movesOf 4, [some (.inl 21), some (.inr f), some (.inr 1), some (.inr 0), some (.inr 0), none, none], [], τ)) rfl trivial ?_
    have q := q0 0 (τ 21 10) none none rfl
    rw [show zr τ 21 (zu (τ 21) 10 (τ 21 10)) = τ from dt_self] at q
    exact q
  obtain ⟨q, ⟨e, rfl⟩, h⟩ := q
  exact ⟨e, h⟩
theorem jby_pos {c : Nat → Int} {f : Int} : 0 < jby c f ↔ (oco c f 0 1 = 3 ∨ oco c f 0 (-1) = 3 ∨ oco c f 1 1 = 3 ∨ oco c f 1 (-1) = 3) := by
  have a1 := @b2_i1 (oco c f 0 1 = 3) _
  have a2 := @b2_i1 (oco c f 0 (-1) = 3) _
  have a3 := @b2_i1 (oco c f 1 1 = 3) _
  have a4 := @b2_i1 (oco c f 1 (-1) = 3) _
  have b1 := @b2_01 (oco c f 0 1 = 3) _
  have b2 := @b2_01 (oco c f 0 (-1) = 3) _
  have b3 := @b2_01 (oco c f 1 1 = 3) _
  have b4 := @b2_01 (oco c f 1 (-1) = 3) _
  unfold jby
  omega
theorem m_canCapture {f : Int} {τ : SZ} {c : Nat → Int} {B : Int} (hI : Iv B c) (hR : Rs c (τ 22)) (hf : 0 ≤ f ∧ f < cel c 107) : ∃ e, RZ 6 m8_canCapture [.inl 21, .inr f] τ (.inl (some (.inr (b2 (0 < jby c f))), dt τ e)) := by
  have hS := hI.1
  have hC := hI.2.1
  have hN := hS.n
  have hj := @jby_pos c f
  have q : RZq 6 m8_canCapture [.inl 21, .inr f] τ (fun q => ∃ e, q = .inl (some (.inr (b2 (0 < jby c f))), dt τ e)) := by
    have q3 : ∀ (v e : Int) , ((v = 1 ∧ (oco c f 0 1 = 3 ∨ oco c f 0 (-1) = 3 ∨ oco c f 1 1 = 3)) ∨ (v = 0 ∧ ¬ (oco c f 0 1 = 3 ∨ oco c f 0 (-1) = 3 ∨ oco c f 1 1 = 3))) → Exq 5 m8_canCapture (cod m8_canCapture 4, [some (.inl 21), some (.inr f), some (.inr v), some (.inr 3)], [], (zr τ 21 (zu (τ 21) 10 e))) 0 (fun q => ∃ e, q = .inl (some (.inr (b2 (0 < jby c f))), dt τ e)) := by
      intro v e  hv
      refine exq_k 2 (P := none) (g := (cod m8_canCapture 6, [some (.inl 21), some (.inr f), some (.inr v), some (.inr 3)], [.inr 4, .inr 3], (zr τ 21 (zu (τ 21) 10 e)))) rfl trivial ?_
      refine exq_b (P := 4 ≤ 3) (ct := (cod m8_canCapture 29, [some (.inl 21), some (.inr f), some (.inr v), some (.inr 3)], [], (zr τ 21 (zu (τ 21) 10 e)))) (cf := (cod m8_canCapture 7, [some (.inl 21), some (.inr f), some (.inr v), some (.inr 3)], [], (zr τ 21 (zu (τ 21) 10 e)))) rfl ⟨⟨by decide, by decide⟩, ⟨by decide, by decide⟩⟩ (fun hh => absurd hh (by decide)) (fun _ => ?_)
      refine exq_k 1 (P := none) (g := (cod m8_canCapture 8, [some (.inl 21), some (.inr f), some (.inr v), some (.inr 3)], [.inr v], (zr τ 21 (zu (τ 21) 10 e)))) rfl trivial ?_
      refine exq_b (P := ¬ v = 0) (ct := (cod m8_canCapture 23, [some (.inl 21), some (.inr f), some (.inr v), some (.inr 3)], [], (zr τ 21 (zu (τ 21) 10 e)))) (cf := (cod m8_canCapture 9, [some (.inl 21), some (.inr f), some (.inr v), some (.inr 3)], [], (zr τ 21 (zu (τ 21) 10 e)))) rfl ⟨by omega, by omega⟩ (fun h2 => ?_) (fun h2 => ?_)
      · first
        | (exfalso; omega)
        | (
            refine exq_k 7 (P := none) (g := (cod m8_canCapture 6, [some (.inl 21), some (.inr f), some (.inr 1), some (.inr 4)], [.inr 4, .inr 4], (zr τ 21 (zu (τ 21) 10 e)))) rfl trivial ?_
            refine exq_b (P := 4 ≤ 4) (ct := (cod m8_canCapture 29, [some (.inl 21), some (.inr f), some (.inr 1), some (.inr 4)], [], (zr τ 21 (zu (τ 21) 10 e)))) (cf := (cod m8_canCapture 7, [some (.inl 21), some (.inr f), some (.inr 1), some (.inr 4)], [], (zr τ 21 (zu (τ 21) 10 e)))) rfl ⟨⟨by decide, by decide⟩, ⟨by decide, by decide⟩⟩ (fun _ => ?_) (fun hh => absurd (by decide) hh)
            refine exq_k 1 (P := none) (g := (cod m8_canCapture 30, [some (.inl 21), some (.inr f), some (.inr 1), some (.inr 4)], [.inr 1], (zr τ 21 (zu (τ 21) 10 e)))) rfl trivial ?_
            exact exq_r rfl (by first | exact Or.inl rfl | exact Or.inr rfl | omega) rfl (⟨_, rI2 (by first | rw [b2_t (by omega)] | rw [b2_f (by omega)] | (by_cases hx : 0 < jby c f; (rw [b2_t hx]; omega); (rw [b2_f hx]; omega))) rfl⟩))
      · first
        | (exfalso; omega)
        | (
            refine exq_k 5 (P := some (0 ≤ 3 ∧ 3 < 2147483648 ∧ 0 < 2 ∧ 2 < 2147483648)) (g := (cod m8_canCapture 14, [some (.inl 21), some (.inr f), some (.inr v), some (.inr 3)], [.inr 1, .inr f, .inl 21], (zr τ 21 (zu (τ 21) 10 e)))) rfl (by show 0 ≤ 3 ∧ 3 < 2147483648 ∧ 0 < 2 ∧ 2 < 2147483648; omega) ?_
            refine exq_k 3 (P := some (0 ≤ 3 ∧ 3 < 2147483648 ∧ 0 < 2 ∧ 2 < 2147483648)) (g := (cod m8_canCapture 17, [some (.inl 21), some (.inr f), some (.inr v), some (.inr 3)], [.inr 1, .inr 1, .inr f, .inl 21], (zr τ 21 (zu (τ 21) 10 e)))) rfl (by show 0 ≤ 3 ∧ 3 < 2147483648 ∧ 0 < 2 ∧ 2 < 2147483648; omega) ?_
            refine exq_b (P := ¬ 1 = 0) (ct := (cod m8_canCapture 20, [some (.inl 21), some (.inr f), some (.inr v), some (.inr 3)], [.inr 1, .inr f, .inl 21], (zr τ 21 (zu (τ 21) 10 e)))) (cf := (cod m8_canCapture 18, [some (.inl 21), some (.inr f), some (.inr v), some (.inr 3)], [.inr 1, .inr f, .inl 21], (zr τ 21 (zu (τ 21) 10 e)))) rfl ⟨by decide, by decide⟩ (fun _ => ?_) (fun hh => absurd (by decide) hh)
            refine exq_k 1 (P := none) (g := (cod m8_canCapture 21, [some (.inl 21), some (.inr f), some (.inr v), some (.inr 3)], [.inr (-1), .inr 1, .inr f, .inl 21], (zr τ 21 (zu (τ 21) 10 e)))) rfl trivial ?_
            obtain ⟨e11, hc11⟩ := m_isCapture (τ := (zr τ 21 (zu (τ 21) 10 e))) (f := f) (r := 1) (s := (-1)) hI hR (by omega) (by omega) (by omega)
            refine exq_c hc11 (is := cod m8_canCapture 22) (L := [some (.inl 21), some (.inr f), some (.inr v), some (.inr 3)]) (st := []) rfl rfl rfl ?_
            show Exq _ _ (cod m8_canCapture 22, [some (.inl 21), some (.inr f), some (.inr v), some (.inr 3)], [.inr (b2 (oco c f 1 (-1) = 3))], (zr (zr τ 21 (zu (τ 21) 10 e)) 21 (zu (zu (τ 21) 10 e) 10 e11))) _ _
            rw [zr_zr, zu_zu]
            refine exq_b (P := (b2 (oco c f 1 (-1) = 3)) = 0) (ct := (cod m8_canCapture 25, [some (.inl 21), some (.inr f), some (.inr v), some (.inr 3)], [], (zr τ 21 (zu (τ 21) 10 e11)))) (cf := (cod m8_canCapture 23, [some (.inl 21), some (.inr f), some (.inr v), some (.inr 3)], [], (zr τ 21 (zu (τ 21) 10 e11)))) rfl b2_rng (fun h5 => ?_) (fun h5 => ?_)
            · first
              | (exfalso; have h5 := b2_e0 h5; omega)
              | (
                  have h5 := b2_e0 h5
                  refine exq_k 6 (P := none) (g := (cod m8_canCapture 6, [some (.inl 21), some (.inr f), some (.inr 0), some (.inr 4)], [.inr 4, .inr 4], (zr τ 21 (zu (τ 21) 10 e11)))) rfl trivial ?_
                  refine exq_b (P := 4 ≤ 4) (ct := (cod m8_canCapture 29, [some (.inl 21), some (.inr f), some (.inr 0), some (.inr 4)], [], (zr τ 21 (zu (τ 21) 10 e11)))) (cf := (cod m8_canCapture 7, [some (.inl 21), some (.inr f), some (.inr 0), some (.inr 4)], [], (zr τ 21 (zu (τ 21) 10 e11)))) rfl ⟨⟨by decide, by decide⟩, ⟨by decide, by decide⟩⟩ (fun _ => ?_) (fun hh => absurd (by decide) hh)
                  refine exq_k 1 (P := none) (g := (cod m8_canCapture 30, [some (.inl 21), some (.inr f), some (.inr 0), some (.inr 4)], [.inr 0], (zr τ 21 (zu (τ 21) 10 e11)))) rfl trivial ?_
                  exact exq_r rfl (by first | exact Or.inl rfl | exact Or.inr rfl | omega) rfl (⟨_, rI2 (by first | rw [b2_t (by omega)] | rw [b2_f (by omega)] | (by_cases hx : 0 < jby c f; (rw [b2_t hx]; omega); (rw [b2_f hx]; omega))) rfl⟩))
            · first
              | (exfalso; have h5 := b2_n0 h5; omega)
              | (
                  have h5 := b2_n0 h5
                  refine exq_k 7 (P := none) (g := (cod m8_canCapture 6, [some (.inl 21), some (.inr f), some (.inr 1), some (.inr 4)], [.inr 4, .inr 4], (zr τ 21 (zu (τ 21) 10 e11)))) rfl trivial ?_
                  refine exq_b (P := 4 ≤ 4) (ct := (cod m8_canCapture 29, [some (.inl 21), some (.inr f), some (.inr 1), some (.inr 4)], [], (zr τ 21 (zu (τ 21) 10 e11)))) (cf := (cod m8_canCapture 7, [some (.inl 21), some (.inr f), some (.inr 1), some (.inr 4)], [], (zr τ 21 (zu (τ 21) 10 e11)))) rfl ⟨⟨by decide, by decide⟩, ⟨by decide, by decide⟩⟩ (fun _ => ?_) (fun hh => absurd (by decide) hh)
                  refine exq_k 1 (P := none) (g := (cod m8_canCapture 30, [some (.inl 21), some (.inr f), some (.inr 1), some (.inr 4)], [.inr 1], (zr τ 21 (zu (τ 21) 10 e11)))) rfl trivial ?_
                  exact exq_r rfl (by first | exact Or.inl rfl | exact Or.inr rfl | omega) rfl (⟨_, rI2 (by first | rw [b2_t (by omega)] | rw [b2_f (by omega)] | (by_cases hx : 0 < jby c f; (rw [b2_t hx]; omega); (rw [b2_f hx]; omega))) rfl⟩)))
    have q2 : ∀ (v e : Int) , ((v = 1 ∧ (oco c f 0 1 = 3 ∨ oco c f 0 (-1) = 3)) ∨ (v = 0 ∧ ¬ (oco c f 0 1 = 3 ∨ oco c f 0 (-1) = 3))) → Exq 5 m8_canCapture (cod m8_canCapture 4, [some (.inl 21), some (.inr f), some (.inr v), some (.inr 2)], [], (zr τ 21 (zu (τ 21) 10 e))) 0 (fun q => ∃ e, q = .inl (some (.inr (b2 (0 < jby c f))), dt τ e)) := by
      intro v e  hv
      refine exq_k 2 (P := none) (g := (cod m8_canCapture 6, [some (.inl 21), some (.inr f), some (.inr v), some (.inr 2)], [.inr 4, .inr 2], (zr τ 21 (zu (τ 21) 10 e)))) rfl trivial ?_
      refine exq_b (P := 4 ≤ 2) (ct := (cod m8_canCapture 29, [some (.inl 21), some (.inr f), some (.inr v), some (.inr 2)], [], (zr τ 21 (zu (τ 21) 10 e)))) (cf := (cod m8_canCapture 7, [some (.inl 21), some (.inr f), some (.inr v), some (.inr 2)], [], (zr τ 21 (zu (τ 21) 10 e)))) rfl ⟨⟨by decide, by decide⟩, ⟨by decide, by decide⟩⟩ (fun hh => absurd hh (by decide)) (fun _ => ?_)
      refine exq_k 1 (P := none) (g := (cod m8_canCapture 8, [some (.inl 21), some (.inr f), some (.inr v), some (.inr 2)], [.inr v], (zr τ 21 (zu (τ 21) 10 e)))) rfl trivial ?_
      refine exq_b (P := ¬ v = 0) (ct := (cod m8_canCapture 23, [some (.inl 21), some (.inr f), some (.inr v), some (.inr 2)], [], (zr τ 21 (zu (τ 21) 10 e)))) (cf := (cod m8_canCapture 9, [some (.inl 21), some (.inr f), some (.inr v), some (.inr 2)], [], (zr τ 21 (zu (τ 21) 10 e)))) rfl ⟨by omega, by omega⟩ (fun h2 => ?_) (fun h2 => ?_)
      · first
        | (exfalso; omega)
        | (
            refine exq_k 5 (P := none) (g := (cod m8_canCapture 4, [some (.inl 21), some (.inr f), some (.inr 1), some (.inr 3)], [], (zr τ 21 (zu (τ 21) 10 e)))) rfl trivial ?_
            exact q3 _ _ (by omega))
      · first
        | (exfalso; omega)
        | (
            refine exq_k 5 (P := some (0 ≤ 2 ∧ 2 < 2147483648 ∧ 0 < 2 ∧ 2 < 2147483648)) (g := (cod m8_canCapture 14, [some (.inl 21), some (.inr f), some (.inr v), some (.inr 2)], [.inr 1, .inr f, .inl 21], (zr τ 21 (zu (τ 21) 10 e)))) rfl (by show 0 ≤ 2 ∧ 2 < 2147483648 ∧ 0 < 2 ∧ 2 < 2147483648; omega) ?_
            refine exq_k 3 (P := some (0 ≤ 2 ∧ 2 < 2147483648 ∧ 0 < 2 ∧ 2 < 2147483648)) (g := (cod m8_canCapture 17, [some (.inl 21), some (.inr f), some (.inr v), some (.inr 2)], [.inr 0, .inr 1, .inr f, .inl 21], (zr τ 21 (zu (τ 21) 10 e)))) rfl (by show 0 ≤ 2 ∧ 2 < 2147483648 ∧ 0 < 2 ∧ 2 < 2147483648; omega) ?_
            refine exq_b (P := ¬ 0 = 0) (ct := (cod m8_canCapture 20, [some (.inl 21), some (.inr f), some (.inr v), some (.inr 2)], [.inr 1, .inr f, .inl 21], (zr τ 21 (zu (τ 21) 10 e)))) (cf := (cod m8_canCapture 18, [some (.inl 21), some (.inr f), some (.inr v), some (.inr 2)], [.inr 1, .inr f, .inl 21], (zr τ 21 (zu (τ 21) 10 e)))) rfl ⟨by decide, by decide⟩ (fun hh => absurd hh (by decide)) (fun _ => ?_)
            refine exq_k 2 (P := none) (g := (cod m8_canCapture 21, [some (.inl 21), some (.inr f), some (.inr v), some (.inr 2)], [.inr 1, .inr 1, .inr f, .inl 21], (zr τ 21 (zu (τ 21) 10 e)))) rfl trivial ?_
            obtain ⟨e12, hc12⟩ := m_isCapture (τ := (zr τ 21 (zu (τ 21) 10 e))) (f := f) (r := 1) (s := 1) hI hR (by omega) (by omega) (by omega)
            refine exq_c hc12 (is := cod m8_canCapture 22) (L := [some (.inl 21), some (.inr f), some (.inr v), some (.inr 2)]) (st := []) rfl rfl rfl ?_
            show Exq _ _ (cod m8_canCapture 22, [some (.inl 21), some (.inr f), some (.inr v), some (.inr 2)], [.inr (b2 (oco c f 1 1 = 3))], (zr (zr τ 21 (zu (τ 21) 10 e)) 21 (zu (zu (τ 21) 10 e) 10 e12))) _ _
            rw [zr_zr, zu_zu]
            refine exq_b (P := (b2 (oco c f 1 1 = 3)) = 0) (ct := (cod m8_canCapture 25, [some (.inl 21), some (.inr f), some (.inr v), some (.inr 2)], [], (zr τ 21 (zu (τ 21) 10 e12)))) (cf := (cod m8_canCapture 23, [some (.inl 21), some (.inr f), some (.inr v), some (.inr 2)], [], (zr τ 21 (zu (τ 21) 10 e12)))) rfl b2_rng (fun h4 => ?_) (fun h4 => ?_)
            · first
              | (exfalso; have h4 := b2_e0 h4; omega)
              | (
                  have h4 := b2_e0 h4
                  refine exq_k 4 (P := none) (g := (cod m8_canCapture 4, [some (.inl 21), some (.inr f), some (.inr 0), some (.inr 3)], [], (zr τ 21 (zu (τ 21) 10 e12)))) rfl trivial ?_
                  exact q3 _ _ (by omega))
            · first
              | (exfalso; have h4 := b2_n0 h4; omega)
              | (
                  have h4 := b2_n0 h4
                  refine exq_k 5 (P := none) (g := (cod m8_canCapture 4, [some (.inl 21), some (.inr f), some (.inr 1), some (.inr 3)], [], (zr τ 21 (zu (τ 21) 10 e12)))) rfl trivial ?_
                  exact q3 _ _ (by omega)))
    have q1 : ∀ (v e : Int) , ((v = 1 ∧ (oco c f 0 1 = 3)) ∨ (v = 0 ∧ ¬ (oco c f 0 1 = 3))) → Exq 5 m8_canCapture (cod m8_canCapture 4, [some (.inl 21), some (.inr f), some (.inr v), some (.inr 1)], [], (zr τ 21 (zu (τ 21) 10 e))) 0 (fun q => ∃ e, q = .inl (some (.inr (b2 (0 < jby c f))), dt τ e)) := by
      intro v e  hv
      refine exq_k 2 (P := none) (g := (cod m8_canCapture 6, [some (.inl 21), some (.inr f), some (.inr v), some (.inr 1)], [.inr 4, .inr 1], (zr τ 21 (zu (τ 21) 10 e)))) rfl trivial ?_
      refine exq_b (P := 4 ≤ 1) (ct := (cod m8_canCapture 29, [some (.inl 21), some (.inr f), some (.inr v), some (.inr 1)], [], (zr τ 21 (zu (τ 21) 10 e)))) (cf := (cod m8_canCapture 7, [some (.inl 21), some (.inr f), some (.inr v), some (.inr 1)], [], (zr τ 21 (zu (τ 21) 10 e)))) rfl ⟨⟨by decide, by decide⟩, ⟨by decide, by decide⟩⟩ (fun hh => absurd hh (by decide)) (fun _ => ?_)
      refine exq_k 1 (P := none) (g := (cod m8_canCapture 8, [some (.inl 21), some (.inr f), some (.inr v), some (.inr 1)], [.inr v], (zr τ 21 (zu (τ 21) 10 e)))) rfl trivial ?_
      refine exq_b (P := ¬ v = 0) (ct := (cod m8_canCapture 23, [some (.inl 21), some (.inr f), some (.inr v), some (.inr 1)], [], (zr τ 21 (zu (τ 21) 10 e)))) (cf := (cod m8_canCapture 9, [some (.inl 21), some (.inr f), some (.inr v), some (.inr 1)], [], (zr τ 21 (zu (τ 21) 10 e)))) rfl ⟨by omega, by omega⟩ (fun h2 => ?_) (fun h2 => ?_)
      · first
        | (exfalso; omega)
        | (
            refine exq_k 5 (P := none) (g := (cod m8_canCapture 4, [some (.inl 21), some (.inr f), some (.inr 1), some (.inr 2)], [], (zr τ 21 (zu (τ 21) 10 e)))) rfl trivial ?_
            exact q2 _ _ (by omega))
      · first
        | (exfalso; omega)
        | (
            refine exq_k 5 (P := some (0 ≤ 1 ∧ 1 < 2147483648 ∧ 0 < 2 ∧ 2 < 2147483648)) (g := (cod m8_canCapture 14, [some (.inl 21), some (.inr f), some (.inr v), some (.inr 1)], [.inr 0, .inr f, .inl 21], (zr τ 21 (zu (τ 21) 10 e)))) rfl (by show 0 ≤ 1 ∧ 1 < 2147483648 ∧ 0 < 2 ∧ 2 < 2147483648; omega) ?_
            refine exq_k 3 (P := some (0 ≤ 1 ∧ 1 < 2147483648 ∧ 0 < 2 ∧ 2 < 2147483648)) (g := (cod m8_canCapture 17, [some (.inl 21), some (.inr f), some (.inr v), some (.inr 1)], [.inr 1, .inr 0, .inr f, .inl 21], (zr τ 21 (zu (τ 21) 10 e)))) rfl (by show 0 ≤ 1 ∧ 1 < 2147483648 ∧ 0 < 2 ∧ 2 < 2147483648; omega) ?_
            refine exq_b (P := ¬ 1 = 0) (ct := (cod m8_canCapture 20, [some (.inl 21), some (.inr f), some (.inr v), some (.inr 1)], [.inr 0, .inr f, .inl 21], (zr τ 21 (zu (τ 21) 10 e)))) (cf := (cod m8_canCapture 18, [some (.inl 21), some (.inr f), some (.inr v), some (.inr 1)], [.inr 0, .inr f, .inl 21], (zr τ 21 (zu (τ 21) 10 e)))) rfl ⟨by decide, by decide⟩ (fun _ => ?_) (fun hh => absurd (by decide) hh)
            refine exq_k 1 (P := none) (g := (cod m8_canCapture 21, [some (.inl 21), some (.inr f), some (.inr v), some (.inr 1)], [.inr (-1), .inr 0, .inr f, .inl 21], (zr τ 21 (zu (τ 21) 10 e)))) rfl trivial ?_
            obtain ⟨e13, hc13⟩ := m_isCapture (τ := (zr τ 21 (zu (τ 21) 10 e))) (f := f) (r := 0) (s := (-1)) hI hR (by omega) (by omega) (by omega)
            refine exq_c hc13 (is := cod m8_canCapture 22) (L := [some (.inl 21), some (.inr f), some (.inr v), some (.inr 1)]) (st := []) rfl rfl rfl ?_
            show Exq _ _ (cod m8_canCapture 22, [some (.inl 21), some (.inr f), some (.inr v), some (.inr 1)], [.inr (b2 (oco c f 0 (-1) = 3))], (zr (zr τ 21 (zu (τ 21) 10 e)) 21 (zu (zu (τ 21) 10 e) 10 e13))) _ _
            rw [zr_zr, zu_zu]
            refine exq_b (P := (b2 (oco c f 0 (-1) = 3)) = 0) (ct := (cod m8_canCapture 25, [some (.inl 21), some (.inr f), some (.inr v), some (.inr 1)], [], (zr τ 21 (zu (τ 21) 10 e13)))) (cf := (cod m8_canCapture 23, [some (.inl 21), some (.inr f), some (.inr v), some (.inr 1)], [], (zr τ 21 (zu (τ 21) 10 e13)))) rfl b2_rng (fun h4 => ?_) (fun h4 => ?_)
            · first
              | (exfalso; have h4 := b2_e0 h4; omega)
              | (
                  have h4 := b2_e0 h4
                  refine exq_k 4 (P := none) (g := (cod m8_canCapture 4, [some (.inl 21), some (.inr f), some (.inr 0), some (.inr 2)], [], (zr τ 21 (zu (τ 21) 10 e13)))) rfl trivial ?_
                  exact q2 _ _ (by omega))
            · first
              | (exfalso; have h4 := b2_n0 h4; omega)
              | (
                  have h4 := b2_n0 h4
                  refine exq_k 5 (P := none) (g := (cod m8_canCapture 4, [some (.inl 21), some (.inr f), some (.inr 1), some (.inr 2)], [], (zr τ 21 (zu (τ 21) 10 e13)))) rfl trivial ?_
                  exact q2 _ _ (by omega)))
    have q0 : ∀ (v e : Int) , v = 0 → Exq 5 m8_canCapture (cod m8_canCapture 4, [some (.inl 21), some (.inr f), some (.inr v), some (.inr 0)], [], (zr τ 21 (zu (τ 21) 10 e))) 0 (fun q => ∃ e, q = .inl (some (.inr (b2 (0 < jby c f))), dt τ e)) := by
      intro v e  hv
      refine exq_k 2 (P := none) (g := (cod m8_canCapture 6, [some (.inl 21), some (.inr f), some (.inr v), some (.inr 0)], [.inr 4, .inr 0], (zr τ 21 (zu (τ 21) 10 e)))) rfl trivial ?_
      refine exq_b (P := 4 ≤ 0) (ct := (cod m8_canCapture 29, [some (.inl 21), some (.inr f), some (.inr v), some (.inr 0)], [], (zr τ 21 (zu (τ 21) 10 e)))) (cf := (cod m8_canCapture 7, [some (.inl 21), some (.inr f), some (.inr v), some (.inr 0)], [], (zr τ 21 (zu (τ 21) 10 e)))) rfl ⟨⟨by decide, by decide⟩, ⟨by decide, by decide⟩⟩ (fun hh => absurd hh (by decide)) (fun _ => ?_)
      refine exq_k 1 (P := none) (g := (cod m8_canCapture 8, [some (.inl 21), some (.inr f), some (.inr v), some (.inr 0)], [.inr v], (zr τ 21 (zu (τ 21) 10 e)))) rfl trivial ?_
      refine exq_b (P := ¬ v = 0) (ct := (cod m8_canCapture 23, [some (.inl 21), some (.inr f), some (.inr v), some (.inr 0)], [], (zr τ 21 (zu (τ 21) 10 e)))) (cf := (cod m8_canCapture 9, [some (.inl 21), some (.inr f), some (.inr v), some (.inr 0)], [], (zr τ 21 (zu (τ 21) 10 e)))) rfl ⟨by omega, by omega⟩ (fun h2 => ?_) (fun h2 => ?_)
      · first
        | (exfalso; omega)
        | (
            refine exq_k 5 (P := none) (g := (cod m8_canCapture 4, [some (.inl 21), some (.inr f), some (.inr 1), some (.inr 1)], [], (zr τ 21 (zu (τ 21) 10 e)))) rfl trivial ?_
            exact q1 _ _ (by omega))
      · first
        | (exfalso; omega)
        | (
            refine exq_k 5 (P := some (0 ≤ 0 ∧ 0 < 2147483648 ∧ 0 < 2 ∧ 2 < 2147483648)) (g := (cod m8_canCapture 14, [some (.inl 21), some (.inr f), some (.inr v), some (.inr 0)], [.inr 0, .inr f, .inl 21], (zr τ 21 (zu (τ 21) 10 e)))) rfl (by show 0 ≤ 0 ∧ 0 < 2147483648 ∧ 0 < 2 ∧ 2 < 2147483648; omega) ?_
            refine exq_k 3 (P := some (0 ≤ 0 ∧ 0 < 2147483648 ∧ 0 < 2 ∧ 2 < 2147483648)) (g := (cod m8_canCapture 17, [some (.inl 21), some (.inr f), some (.inr v), some (.inr 0)], [.inr 0, .inr 0, .inr f, .inl 21], (zr τ 21 (zu (τ 21) 10 e)))) rfl (by show 0 ≤ 0 ∧ 0 < 2147483648 ∧ 0 < 2 ∧ 2 < 2147483648; omega) ?_
            refine exq_b (P := ¬ 0 = 0) (ct := (cod m8_canCapture 20, [some (.inl 21), some (.inr f), some (.inr v), some (.inr 0)], [.inr 0, .inr f, .inl 21], (zr τ 21 (zu (τ 21) 10 e)))) (cf := (cod m8_canCapture 18, [some (.inl 21), some (.inr f), some (.inr v), some (.inr 0)], [.inr 0, .inr f, .inl 21], (zr τ 21 (zu (τ 21) 10 e)))) rfl ⟨by decide, by decide⟩ (fun hh => absurd hh (by decide)) (fun _ => ?_)
            refine exq_k 2 (P := none) (g := (cod m8_canCapture 21, [some (.inl 21), some (.inr f), some (.inr v), some (.inr 0)], [.inr 1, .inr 0, .inr f, .inl 21], (zr τ 21 (zu (τ 21) 10 e)))) rfl trivial ?_
            obtain ⟨e14, hc14⟩ := m_isCapture (τ := (zr τ 21 (zu (τ 21) 10 e))) (f := f) (r := 0) (s := 1) hI hR (by omega) (by omega) (by omega)
            refine exq_c hc14 (is := cod m8_canCapture 22) (L := [some (.inl 21), some (.inr f), some (.inr v), some (.inr 0)]) (st := []) rfl rfl rfl ?_
            show Exq _ _ (cod m8_canCapture 22, [some (.inl 21), some (.inr f), some (.inr v), some (.inr 0)], [.inr (b2 (oco c f 0 1 = 3))], (zr (zr τ 21 (zu (τ 21) 10 e)) 21 (zu (zu (τ 21) 10 e) 10 e14))) _ _
            rw [zr_zr, zu_zu]
            refine exq_b (P := (b2 (oco c f 0 1 = 3)) = 0) (ct := (cod m8_canCapture 25, [some (.inl 21), some (.inr f), some (.inr v), some (.inr 0)], [], (zr τ 21 (zu (τ 21) 10 e14)))) (cf := (cod m8_canCapture 23, [some (.inl 21), some (.inr f), some (.inr v), some (.inr 0)], [], (zr τ 21 (zu (τ 21) 10 e14)))) rfl b2_rng (fun h4 => ?_) (fun h4 => ?_)
            · first
              | (exfalso; have h4 := b2_e0 h4; omega)
              | (
                  have h4 := b2_e0 h4
                  refine exq_k 4 (P := none) (g := (cod m8_canCapture 4, [some (.inl 21), some (.inr f), some (.inr 0), some (.inr 1)], [], (zr τ 21 (zu (τ 21) 10 e14)))) rfl trivial ?_
                  exact q1 _ _ (by omega))
            · first
              | (exfalso; have h4 := b2_n0 h4; omega)
              | (
                  have h4 := b2_n0 h4
                  refine exq_k 5 (P := none) (g := (cod m8_canCapture 4, [some (.inl 21), some (.inr f), some (.inr 1), some (.inr 1)], [], (zr τ 21 (zu (τ 21) 10 e14)))) rfl trivial ?_
                  exact q1 _ _ (by omega)))
    refine Exq.call ?_ rfl rfl
    show Exq _ _ (cod m8_canCapture 0, [some (.inl 21), some (.inr f), none, none], [], τ) _ _
    refine exq_k 4 (P := none) (g := (cod m8_canCapture 4, [some (.inl 21), some (.inr f), some (.inr 0), some (.inr 0)], [], τ)) rfl trivial ?_
    have q := q0 0 (τ 21 10) rfl
    rw [show zr τ 21 (zu (τ 21) 10 (τ 21 10)) = τ from dt_self] at q
    exact q
  obtain ⟨q, ⟨e, rfl⟩, h⟩ := q
  exact ⟨e, h⟩
theorem lp_allMoves_0 {τ : SZ} {x : Int} {c : Nat → Int} {B : Int} (hI : Iv B c) (hR : Rs c (τ 22)) (hx : 0 ≤ x ∧ x < 2) : ∀ (j k : Nat), ((k + j : Nat) : Int) = cel c 107 → ∀ (v e : Int) , v = sm (fun k => if cel c (0 + (k : Int) * 6 + 0) = x then mvo c (k : Int) else 0) k → Exq 5 m8_allMoves (cod m8_allMoves 4, [some (.inl 21), some (.inr x), some (.inr 0), some (.inr v), some (.inr (k : Int))], [], (zr τ 21 (zu (τ 21) 10 e))) 0 (fun q => ∃ e, q = .inl (some (.inr (mbf c x (cel c 107).toNat)), dt τ e)) := by
  have hS := hI.1
  have hC := hI.2.1
  have hN := hS.n
  have h0 := hR.n hN.1
  intro j
  induction j with
  | zero =>
    intro k hk v e  hv
    refine exq_k 5 (P := some (0 ≤ 0 ∧ 0 < ((109 : Nat) : Int))) (g := (cod m8_allMoves 9, [some (.inl 21), some (.inr x), some (.inr 0), some (.inr v), some (.inr (k : Int))], [.inr ((τ 22) 0), .inr (k : Int)], (zr τ 21 (zu (τ 21) 10 e)))) rfl (by show 0 ≤ 0 ∧ 0 < ((109 : Nat) : Int); omega) ?_
    refine exq_b (P := ((τ 22) 0) ≤ (k : Int)) (ct := (cod m8_allMoves 27, [some (.inl 21), some (.inr x), some (.inr 0), some (.inr v), some (.inr (k : Int))], [], (zr τ 21 (zu (τ 21) 10 e)))) (cf := (cod m8_allMoves 10, [some (.inl 21), some (.inr x), some (.inr 0), some (.inr v), some (.inr (k : Int))], [], (zr τ 21 (zu (τ 21) 10 e)))) rfl ⟨⟨by omega, by omega⟩, ⟨by omega, by omega⟩⟩ (fun _ => ?_) (fun hh => absurd (by omega) hh)
    refine exq_k 1 (P := none) (g := (cod m8_allMoves 28, [some (.inl 21), some (.inr x), some (.inr 0), some (.inr v), some (.inr (k : Int))], [.inr v], (zr τ 21 (zu (τ 21) 10 e)))) rfl trivial ?_
    exact exq_r rfl trivial rfl (⟨_, rI2 (by rw [hv]; show _ = sm _ _; congr 1; omega) rfl⟩)
  | succ j ih =>
    intro k hk v e  hv
    have hsd := hS.sd (f := (k : Int)) (by omega)
    refine exq_k 5 (P := some (0 ≤ 0 ∧ 0 < ((109 : Nat) : Int))) (g := (cod m8_allMoves 9, [some (.inl 21), some (.inr x), some (.inr 0), some (.inr v), some (.inr (k : Int))], [.inr ((τ 22) 0), .inr (k : Int)], (zr τ 21 (zu (τ 21) 10 e)))) rfl (by show 0 ≤ 0 ∧ 0 < ((109 : Nat) : Int); omega) ?_
    refine exq_b (P := ((τ 22) 0) ≤ (k : Int)) (ct := (cod m8_allMoves 27, [some (.inl 21), some (.inr x), some (.inr 0), some (.inr v), some (.inr (k : Int))], [], (zr τ 21 (zu (τ 21) 10 e)))) (cf := (cod m8_allMoves 10, [some (.inl 21), some (.inr x), some (.inr 0), some (.inr v), some (.inr (k : Int))], [], (zr τ 21 (zu (τ 21) 10 e)))) rfl ⟨⟨by omega, by omega⟩, ⟨by omega, by omega⟩⟩ (fun hh => absurd hh (by omega)) (fun _ => ?_)
    refine exq_k 4 (P := none) (g := (cod m8_allMoves 14, [some (.inl 21), some (.inr x), some (.inr 0), some (.inr v), some (.inr (k : Int))], [.inr 0, .inr (k : Int), .inl 21, .inr v], (zr τ 21 (zu (τ 21) 10 e)))) rfl trivial ?_
    refine exq_c (m_of (τ := (zr τ 21 (zu (τ 21) 10 e))) (f := (k : Int)) (w := 0) hI hR (by omega) (by omega)) (is := cod m8_allMoves 15) (L := [some (.inl 21), some (.inr x), some (.inr 0), some (.inr v), some (.inr (k : Int))]) (st := [.inr v]) rfl rfl rfl ?_
    show Exq _ _ (cod m8_allMoves 15, [some (.inl 21), some (.inr x), some (.inr 0), some (.inr v), some (.inr (k : Int))], [.inr (cel c (0 + (k : Int) * 6 + 0)), .inr v], (zr τ 21 (zu (τ 21) 10 e))) _ _
    refine exq_k 1 (P := none) (g := (cod m8_allMoves 16, [some (.inl 21), some (.inr x), some (.inr 0), some (.inr v), some (.inr (k : Int))], [.inr x, .inr (cel c (0 + (k : Int) * 6 + 0)), .inr v], (zr τ 21 (zu (τ 21) 10 e)))) rfl trivial ?_
    refine exq_b (P := ¬ (cel c (0 + (k : Int) * 6 + 0)) = x) (ct := (cod m8_allMoves 22, [some (.inl 21), some (.inr x), some (.inr 0), some (.inr v), some (.inr (k : Int))], [.inr v], (zr τ 21 (zu (τ 21) 10 e)))) (cf := (cod m8_allMoves 17, [some (.inl 21), some (.inr x), some (.inr 0), some (.inr v), some (.inr (k : Int))], [.inr v], (zr τ 21 (zu (τ 21) 10 e)))) rfl ⟨⟨by omega, by omega⟩, ⟨by omega, by omega⟩⟩ (fun h2 => ?_) (fun h2 => ?_)
    · first
      | (exfalso; omega)
      | (
          refine exq_k 5 (P := none) (g := (cod m8_allMoves 4, [some (.inl 21), some (.inr x), some (.inr 0), some (.inr (v + 0)), some (.inr ((k : Int) + 1))], [], (zr τ 21 (zu (τ 21) 10 e)))) rfl trivial ?_
          exact ih (k + 1) (by omega) _ _ (by rw [hv]; show _ = sm _ k + ite _ _ _; first | (rw [if_pos (by omega)]; done) | (rw [if_neg (by omega)]; done)))
    · first
      | (exfalso; omega)
      | (
          refine exq_k 3 (P := none) (g := (cod m8_allMoves 20, [some (.inl 21), some (.inr x), some (.inr 0), some (.inr v), some (.inr (k : Int))], [.inr 0, .inr (k : Int), .inl 21, .inr v], (zr τ 21 (zu (τ 21) 10 e)))) rfl trivial ?_
          obtain ⟨e15, hc15⟩ := m_movesOf_0 (τ := (zr τ 21 (zu (τ 21) 10 e))) (f := (k : Int)) hI hR (by omega)
          refine exq_c hc15 (is := cod m8_allMoves 21) (L := [some (.inl 21), some (.inr x), some (.inr 0), some (.inr v), some (.inr (k : Int))]) (st := [.inr v]) rfl rfl rfl ?_
          show Exq _ _ (cod m8_allMoves 21, [some (.inl 21), some (.inr x), some (.inr 0), some (.inr v), some (.inr (k : Int))], [.inr (mvo c (k : Int)), .inr v], (zr (zr τ 21 (zu (τ 21) 10 e)) 21 (zu (zu (τ 21) 10 e) 10 e15))) _ _
          rw [zr_zr, zu_zu]
          refine exq_k 5 (P := none) (g := (cod m8_allMoves 4, [some (.inl 21), some (.inr x), some (.inr 0), some (.inr (v + (mvo c (k : Int)))), some (.inr ((k : Int) + 1))], [], (zr τ 21 (zu (τ 21) 10 e15)))) rfl trivial ?_
          exact ih (k + 1) (by omega) _ _ (by rw [hv]; show _ = sm _ k + ite _ _ _; first | (rw [if_pos (by omega)]; done) | (rw [if_neg (by omega)]; done)))
theorem m_allMoves_0 {x : Int} {τ : SZ} {c : Nat → Int} {B : Int} (hI : Iv B c) (hR : Rs c (τ 22)) (hx : 0 ≤ x ∧ x < 2) : ∃ e, RZ 6 m8_allMoves [.inl 21, .inr x, .inr 0] τ (.inl (some (.inr (mbf c x (cel c 107).toNat)), dt τ e)) := by
  have hS := hI.1
  have hC := hI.2.1
  have hN := hS.n
  have h0 := hR.n hN.1
  have q : RZq 6 m8_allMoves [.inl 21, .inr x, .inr 0] τ (fun q => ∃ e, q = .inl (some (.inr (mbf c x (cel c 107).toNat)), dt τ e)) := by
    refine Exq.call ?_ rfl rfl
    show Exq _ _ (cod m8_allMoves 0, [some (.inl 21), some (.inr x), some (.inr 0), none, none], [], τ) _ _
    refine exq_k 4 (P := none) (g := (cod m8_allMoves 4, [some (.inl 21), some (.inr x), some (.inr 0), some (.inr 0), some (.inr 0)], [], τ)) rfl trivial ?_
    have q := lp_allMoves_0 (τ := τ) hI hR hx (cel c 107).toNat 0 (by omega) 0 (τ 21 10) rfl
    rw [show zr τ 21 (zu (τ 21) 10 (τ 21 10)) = τ from dt_self] at q
    exact q
  obtain ⟨q, ⟨e, rfl⟩, h⟩ := q
  exact ⟨e, h⟩
theorem lp_allMoves_1 {τ : SZ} {x : Int} {c : Nat → Int} {B : Int} (hI : Iv B c) (hR : Rs c (τ 22)) (hx : 0 ≤ x ∧ x < 2) : ∀ (j k : Nat), ((k + j : Nat) : Int) = cel c 107 → ∀ (v e : Int) , v = sm (fun k => if cel c (0 + (k : Int) * 6 + 0) = x then jby c (k : Int) else 0) k → Exq 5 m8_allMoves (cod m8_allMoves 4, [some (.inl 21), some (.inr x), some (.inr 1), some (.inr v), some (.inr (k : Int))], [], (zr τ 21 (zu (τ 21) 10 e))) 0 (fun q => ∃ e, q = .inl (some (.inr (cbj c x (cel c 107).toNat)), dt τ e)) := by
  have hS := hI.1
  have hC := hI.2.1
  have hN := hS.n
  have h0 := hR.n hN.1
  intro j
  induction j with
  | zero =>
    intro k hk v e  hv
    refine exq_k 5 (P := some (0 ≤ 0 ∧ 0 < ((109 : Nat) : Int))) (g := (cod m8_allMoves 9, [some (.inl 21), some (.inr x), some (.inr 1), some (.inr v), some (.inr (k : Int))], [.inr ((τ 22) 0), .inr (k : Int)], (zr τ 21 (zu (τ 21) 10 e)))) rfl (by show 0 ≤ 0 ∧ 0 < ((109 : Nat) : Int); omega) ?_
    refine exq_b (P := ((τ 22) 0) ≤ (k : Int)) (ct := (cod m8_allMoves 27, [some (.inl 21), some (.inr x), some (.inr 1), some (.inr v), some (.inr (k : Int))], [], (zr τ 21 (zu (τ 21) 10 e)))) (cf := (cod m8_allMoves 10, [some (.inl 21), some (.inr x), some (.inr 1), some (.inr v), some (.inr (k : Int))], [], (zr τ 21 (zu (τ 21) 10 e)))) rfl ⟨⟨by omega, by omega⟩, ⟨by omega, by omega⟩⟩ (fun _ => ?_) (fun hh => absurd (by omega) hh)
    refine exq_k 1 (P := none) (g := (cod m8_allMoves 28, [some (.inl 21), some (.inr x), some (.inr 1), some (.inr v), some (.inr (k : Int))], [.inr v], (zr τ 21 (zu (τ 21) 10 e)))) rfl trivial ?_
    exact exq_r rfl trivial rfl (⟨_, rI2 (by rw [hv]; show _ = sm _ _; congr 1; omega) rfl⟩)
  | succ j ih =>
    intro k hk v e  hv
    have hsd := hS.sd (f := (k : Int)) (by omega)
    refine exq_k 5 (P := some (0 ≤ 0 ∧ 0 < ((109 : Nat) : Int))) (g := (cod m8_allMoves 9, [some (.inl 21), some (.inr x), some (.inr 1), some (.inr v), some (.inr (k : Int))], [.inr ((τ 22) 0), .inr (k : Int)], (zr τ 21 (zu (τ 21) 10 e)))) rfl (by show 0 ≤ 0 ∧ 0 < ((109 : Nat) : Int); omega) ?_
    refine exq_b (P := ((τ 22) 0) ≤ (k : Int)) (ct := (cod m8_allMoves 27, [some (.inl 21), some (.inr x), some (.inr 1), some (.inr v), some (.inr (k : Int))], [], (zr τ 21 (zu (τ 21) 10 e)))) (cf := (cod m8_allMoves 10, [some (.inl 21), some (.inr x), some (.inr 1), some (.inr v), some (.inr (k : Int))], [], (zr τ 21 (zu (τ 21) 10 e)))) rfl ⟨⟨by omega, by omega⟩, ⟨by omega, by omega⟩⟩ (fun hh => absurd hh (by omega)) (fun _ => ?_)
    refine exq_k 4 (P := none) (g := (cod m8_allMoves 14, [some (.inl 21), some (.inr x), some (.inr 1), some (.inr v), some (.inr (k : Int))], [.inr 0, .inr (k : Int), .inl 21, .inr v], (zr τ 21 (zu (τ 21) 10 e)))) rfl trivial ?_
    refine exq_c (m_of (τ := (zr τ 21 (zu (τ 21) 10 e))) (f := (k : Int)) (w := 0) hI hR (by omega) (by omega)) (is := cod m8_allMoves 15) (L := [some (.inl 21), some (.inr x), some (.inr 1), some (.inr v), some (.inr (k : Int))]) (st := [.inr v]) rfl rfl rfl ?_
    show Exq _ _ (cod m8_allMoves 15, [some (.inl 21), some (.inr x), some (.inr 1), some (.inr v), some (.inr (k : Int))], [.inr (cel c (0 + (k : Int) * 6 + 0)), .inr v], (zr τ 21 (zu (τ 21) 10 e))) _ _
    refine exq_k 1 (P := none) (g := (cod m8_allMoves 16, [some (.inl 21), some (.inr x), some (.inr 1), some (.inr v), some (.inr (k : Int))], [.inr x, .inr (cel c (0 + (k : Int) * 6 + 0)), .inr v], (zr τ 21 (zu (τ 21) 10 e)))) rfl trivial ?_
    refine exq_b (P := ¬ (cel c (0 + (k : Int) * 6 + 0)) = x) (ct := (cod m8_allMoves 22, [some (.inl 21), some (.inr x), some (.inr 1), some (.inr v), some (.inr (k : Int))], [.inr v], (zr τ 21 (zu (τ 21) 10 e)))) (cf := (cod m8_allMoves 17, [some (.inl 21), some (.inr x), some (.inr 1), some (.inr v), some (.inr (k : Int))], [.inr v], (zr τ 21 (zu (τ 21) 10 e)))) rfl ⟨⟨by omega, by omega⟩, ⟨by omega, by omega⟩⟩ (fun h2 => ?_) (fun h2 => ?_)
    · first
      | (exfalso; omega)
      | (
          refine exq_k 5 (P := none) (g := (cod m8_allMoves 4, [some (.inl 21), some (.inr x), some (.inr 1), some (.inr (v + 0)), some (.inr ((k : Int) + 1))], [], (zr τ 21 (zu (τ 21) 10 e)))) rfl trivial ?_
          exact ih (k + 1) (by omega) _ _ (by rw [hv]; show _ = sm _ k + ite _ _ _; first | (rw [if_pos (by omega)]; done) | (rw [if_neg (by omega)]; done)))
    · first
      | (exfalso; omega)
      | (
          refine exq_k 3 (P := none) (g := (cod m8_allMoves 20, [some (.inl 21), some (.inr x), some (.inr 1), some (.inr v), some (.inr (k : Int))], [.inr 1, .inr (k : Int), .inl 21, .inr v], (zr τ 21 (zu (τ 21) 10 e)))) rfl trivial ?_
          obtain ⟨e16, hc16⟩ := m_movesOf_1 (τ := (zr τ 21 (zu (τ 21) 10 e))) (f := (k : Int)) hI hR (by omega)
          refine exq_c hc16 (is := cod m8_allMoves 21) (L := [some (.inl 21), some (.inr x), some (.inr 1), some (.inr v), some (.inr (k : Int))]) (st := [.inr v]) rfl rfl rfl ?_
          show Exq _ _ (cod m8_allMoves 21, [some (.inl 21), some (.inr x), some (.inr 1), some (.inr v), some (.inr (k : Int))], [.inr (jby c (k : Int)), .inr v], (zr (zr τ 21 (zu (τ 21) 10 e)) 21 (zu (zu (τ 21) 10 e) 10 e16))) _ _
          rw [zr_zr, zu_zu]
          refine exq_k 5 (P := none) (g := (cod m8_allMoves 4, [some (.inl 21), some (.inr x), some (.inr 1), some (.inr (v + (jby c (k : Int)))), some (.inr ((k : Int) + 1))], [], (zr τ 21 (zu (τ 21) 10 e16)))) rfl trivial ?_
          exact ih (k + 1) (by omega) _ _ (by rw [hv]; show _ = sm _ k + ite _ _ _; first | (rw [if_pos (by omega)]; done) | (rw [if_neg (by omega)]; done)))
theorem m_allMoves_1 {x : Int} {τ : SZ} {c : Nat → Int} {B : Int} (hI : Iv B c) (hR : Rs c (τ 22)) (hx : 0 ≤ x ∧ x < 2) : ∃ e, RZ 6 m8_allMoves [.inl 21, .inr x, .inr 1] τ (.inl (some (.inr (cbj c x (cel c 107).toNat)), dt τ e)) := by
  have hS := hI.1
  have hC := hI.2.1
  have hN := hS.n
  have h0 := hR.n hN.1
  have q : RZq 6 m8_allMoves [.inl 21, .inr x, .inr 1] τ (fun q => ∃ e, q = .inl (some (.inr (cbj c x (cel c 107).toNat)), dt τ e)) := by
    refine Exq.call ?_ rfl rfl
    show Exq _ _ (cod m8_allMoves 0, [some (.inl 21), some (.inr x), some (.inr 1), none, none], [], τ) _ _
    refine exq_k 4 (P := none) (g := (cod m8_allMoves 4, [some (.inl 21), some (.inr x), some (.inr 1), some (.inr 0), some (.inr 0)], [], τ)) rfl trivial ?_
    have q := lp_allMoves_1 (τ := τ) hI hR hx (cel c 107).toNat 0 (by omega) 0 (τ 21 10) rfl
    rw [show zr τ 21 (zu (τ 21) 10 (τ 21 10)) = τ from dt_self] at q
    exact q
  obtain ⟨q, ⟨e, rfl⟩, h⟩ := q
  exact ⟨e, h⟩
theorem lp_count_00 {τ : SZ} {c : Nat → Int} {B : Int} (hI : Iv B c) (hR : Rs c (τ 22)) : ∀ (j k : Nat), ((k + j : Nat) : Int) = cel c 107 → ∀ (v : Int) , v = sm (fun k => b2 (cel c (0 + (k : Int) * 6 + 0) = 0)) k → Ex 2 m8_count (cod m8_count 4, [some (.inl 21), some (.inr 0), some (.inr 0), some (.inr v), some (.inr (k : Int))], [], τ) 0 (.inl (some (.inr (sm (fun k => b2 (cel c (0 + (k : Int) * 6 + 0) = 0)) (cel c 107).toNat)), τ)) := by
  have hS := hI.1
  have hC := hI.2.1
  have hN := hS.n
  have h0 := hR.n hN.1
  intro j
  induction j with
  | zero =>
    intro k hk v  hv
    refine ex_k 5 (P := some (0 ≤ 0 ∧ 0 < ((109 : Nat) : Int))) (g := (cod m8_count 9, [some (.inl 21), some (.inr 0), some (.inr 0), some (.inr v), some (.inr (k : Int))], [.inr ((τ 22) 0), .inr (k : Int)], τ)) rfl (by show 0 ≤ 0 ∧ 0 < ((109 : Nat) : Int); omega) ?_
    refine ex_b (P := ((τ 22) 0) ≤ (k : Int)) (ct := (cod m8_count 24, [some (.inl 21), some (.inr 0), some (.inr 0), some (.inr v), some (.inr (k : Int))], [], τ)) (cf := (cod m8_count 10, [some (.inl 21), some (.inr 0), some (.inr 0), some (.inr v), some (.inr (k : Int))], [], τ)) rfl ⟨⟨by omega, by omega⟩, ⟨by omega, by omega⟩⟩ (fun _ => ?_) (fun hh => absurd (by omega) hh)
    refine ex_k 1 (P := none) (g := (cod m8_count 25, [some (.inl 21), some (.inr 0), some (.inr 0), some (.inr v), some (.inr (k : Int))], [.inr v], τ)) rfl trivial ?_
    exact ex_r rfl trivial rfl (rI2 (by rw [hv]; congr 1; omega) rfl)
  | succ j ih =>
    intro k hk v  hv
    have hsd := hS.sd (f := (k : Int)) (by omega)
    have hkg := hS.kg (f := (k : Int)) (by omega)
    refine ex_k 5 (P := some (0 ≤ 0 ∧ 0 < ((109 : Nat) : Int))) (g := (cod m8_count 9, [some (.inl 21), some (.inr 0), some (.inr 0), some (.inr v), some (.inr (k : Int))], [.inr ((τ 22) 0), .inr (k : Int)], τ)) rfl (by show 0 ≤ 0 ∧ 0 < ((109 : Nat) : Int); omega) ?_
    refine ex_b (P := ((τ 22) 0) ≤ (k : Int)) (ct := (cod m8_count 24, [some (.inl 21), some (.inr 0), some (.inr 0), some (.inr v), some (.inr (k : Int))], [], τ)) (cf := (cod m8_count 10, [some (.inl 21), some (.inr 0), some (.inr 0), some (.inr v), some (.inr (k : Int))], [], τ)) rfl ⟨⟨by omega, by omega⟩, ⟨by omega, by omega⟩⟩ (fun hh => absurd hh (by omega)) (fun _ => ?_)
    refine ex_k 4 (P := none) (g := (cod m8_count 14, [some (.inl 21), some (.inr 0), some (.inr 0), some (.inr v), some (.inr (k : Int))], [.inr 0, .inr (k : Int), .inl 21, .inr v], τ)) rfl trivial ?_
    refine ex_c (m_of (τ := τ) (f := (k : Int)) (w := 0) hI hR (by omega) (by omega)) (is := cod m8_count 15) (L := [some (.inl 21), some (.inr 0), some (.inr 0), some (.inr v), some (.inr (k : Int))]) (st := [.inr v]) rfl rfl rfl ?_
    show Ex _ _ (cod m8_count 15, [some (.inl 21), some (.inr 0), some (.inr 0), some (.inr v), some (.inr (k : Int))], [.inr (cel c (0 + (k : Int) * 6 + 0)), .inr v], τ) _ _
    refine ex_k 1 (P := none) (g := (cod m8_count 16, [some (.inl 21), some (.inr 0), some (.inr 0), some (.inr v), some (.inr (k : Int))], [.inr 0, .inr (cel c (0 + (k : Int) * 6 + 0)), .inr v], τ)) rfl trivial ?_
    refine ex_b (P := ¬ (cel c (0 + (k : Int) * 6 + 0)) = 0) (ct := (cod m8_count 19, [some (.inl 21), some (.inr 0), some (.inr 0), some (.inr v), some (.inr (k : Int))], [.inr v], τ)) (cf := (cod m8_count 17, [some (.inl 21), some (.inr 0), some (.inr 0), some (.inr v), some (.inr (k : Int))], [.inr v], τ)) rfl ⟨⟨by omega, by omega⟩, ⟨by decide, by decide⟩⟩ (fun h2 => ?_) (fun h2 => ?_)
    · first
      | (exfalso; omega)
      | (
          refine ex_k 5 (P := none) (g := (cod m8_count 4, [some (.inl 21), some (.inr 0), some (.inr 0), some (.inr (v + 0)), some (.inr ((k : Int) + 1))], [], τ)) rfl trivial ?_
          exact ih (k + 1) (by omega) _ (by first | exact cnt_t hv (by omega) | exact cnt_f0 hv (by omega) | exact cnt_f hv (by omega)))
    · first
      | (exfalso; omega)
      | (
          refine ex_k 6 (P := none) (g := (cod m8_count 4, [some (.inl 21), some (.inr 0), some (.inr 0), some (.inr (v + 1)), some (.inr ((k : Int) + 1))], [], τ)) rfl trivial ?_
          exact ih (k + 1) (by omega) _ (by first | exact cnt_t hv (by omega) | exact cnt_f0 hv (by omega) | exact cnt_f hv (by omega)))
theorem m_count_00 {τ : SZ} {c : Nat → Int} {B : Int} (hI : Iv B c) (hR : Rs c (τ 22)) : RZ 3 m8_count [.inl 21, .inr 0, .inr 0] τ (.inl (some (.inr (sm (fun k => b2 (cel c (0 + (k : Int) * 6 + 0) = 0)) (cel c 107).toNat)), τ)) := by
  have hS := hI.1
  have hC := hI.2.1
  have hN := hS.n
  have h0 := hR.n hN.1
  refine Ex.call ?_ rfl rfl
  show Ex _ _ (cod m8_count 0, [some (.inl 21), some (.inr 0), some (.inr 0), none, none], [], τ) _ _
  refine ex_k 4 (P := none) (g := (cod m8_count 4, [some (.inl 21), some (.inr 0), some (.inr 0), some (.inr 0), some (.inr 0)], [], τ)) rfl trivial ?_
  exact lp_count_00 hI hR (cel c 107).toNat 0 (by omega) 0 rfl
theorem lp_count_31 {τ : SZ} {c : Nat → Int} {B : Int} (hI : Iv B c) (hR : Rs c (τ 22)) : ∀ (j k : Nat), ((k + j : Nat) : Int) = cel c 107 → ∀ (v : Int) , v = sm (fun k => b2 (cel c (0 + (k : Int) * 6 + 3) = 1)) k → Ex 2 m8_count (cod m8_count 4, [some (.inl 21), some (.inr 3), some (.inr 1), some (.inr v), some (.inr (k : Int))], [], τ) 0 (.inl (some (.inr (sm (fun k => b2 (cel c (0 + (k : Int) * 6 + 3) = 1)) (cel c 107).toNat)), τ)) := by
  have hS := hI.1
  have hC := hI.2.1
  have hN := hS.n
  have h0 := hR.n hN.1
  intro j
  induction j with
  | zero =>
    intro k hk v  hv
    refine ex_k 5 (P := some (0 ≤ 0 ∧ 0 < ((109 : Nat) : Int))) (g := (cod m8_count 9, [some (.inl 21), some (.inr 3), some (.inr 1), some (.inr v), some (.inr (k : Int))], [.inr ((τ 22) 0), .inr (k : Int)], τ)) rfl (by show 0 ≤ 0 ∧ 0 < ((109 : Nat) : Int); omega) ?_
    refine ex_b (P := ((τ 22) 0) ≤ (k : Int)) (ct := (cod m8_count 24, [some (.inl 21), some (.inr 3), some (.inr 1), some (.inr v), some (.inr (k : Int))], [], τ)) (cf := (cod m8_count 10, [some (.inl 21), some (.inr 3), some (.inr 1), some (.inr v), some (.inr (k : Int))], [], τ)) rfl ⟨⟨by omega, by omega⟩, ⟨by omega, by omega⟩⟩ (fun _ => ?_) (fun hh => absurd (by omega) hh)
    refine ex_k 1 (P := none) (g := (cod m8_count 25, [some (.inl 21), some (.inr 3), some (.inr 1), some (.inr v), some (.inr (k : Int))], [.inr v], τ)) rfl trivial ?_
    exact ex_r rfl trivial rfl (rI2 (by rw [hv]; congr 1; omega) rfl)
  | succ j ih =>
    intro k hk v  hv
    have hsd := hS.sd (f := (k : Int)) (by omega)
    have hkg := hS.kg (f := (k : Int)) (by omega)
    refine ex_k 5 (P := some (0 ≤ 0 ∧ 0 < ((109 : Nat) : Int))) (g := (cod m8_count 9, [some (.inl 21), some (.inr 3), some (.inr 1), some (.inr v), some (.inr (k : Int))], [.inr ((τ 22) 0), .inr (k : Int)], τ)) rfl (by show 0 ≤ 0 ∧ 0 < ((109 : Nat) : Int); omega) ?_
    refine ex_b (P := ((τ 22) 0) ≤ (k : Int)) (ct := (cod m8_count 24, [some (.inl 21), some (.inr 3), some (.inr 1), some (.inr v), some (.inr (k : Int))], [], τ)) (cf := (cod m8_count 10, [some (.inl 21), some (.inr 3), some (.inr 1), some (.inr v), some (.inr (k : Int))], [], τ)) rfl ⟨⟨by omega, by omega⟩, ⟨by omega, by omega⟩⟩ (fun hh => absurd hh (by omega)) (fun _ => ?_)
    refine ex_k 4 (P := none) (g := (cod m8_count 14, [some (.inl 21), some (.inr 3), some (.inr 1), some (.inr v), some (.inr (k : Int))], [.inr 3, .inr (k : Int), .inl 21, .inr v], τ)) rfl trivial ?_
    refine ex_c (m_of (τ := τ) (f := (k : Int)) (w := 3) hI hR (by omega) (by omega)) (is := cod m8_count 15) (L := [some (.inl 21), some (.inr 3), some (.inr 1), some (.inr v), some (.inr (k : Int))]) (st := [.inr v]) rfl rfl rfl ?_
    show Ex _ _ (cod m8_count 15, [some (.inl 21), some (.inr 3), some (.inr 1), some (.inr v), some (.inr (k : Int))], [.inr (cel c (0 + (k : Int) * 6 + 3)), .inr v], τ) _ _
    refine ex_k 1 (P := none) (g := (cod m8_count 16, [some (.inl 21), some (.inr 3), some (.inr 1), some (.inr v), some (.inr (k : Int))], [.inr 1, .inr (cel c (0 + (k : Int) * 6 + 3)), .inr v], τ)) rfl trivial ?_
    refine ex_b (P := ¬ (cel c (0 + (k : Int) * 6 + 3)) = 1) (ct := (cod m8_count 19, [some (.inl 21), some (.inr 3), some (.inr 1), some (.inr v), some (.inr (k : Int))], [.inr v], τ)) (cf := (cod m8_count 17, [some (.inl 21), some (.inr 3), some (.inr 1), some (.inr v), some (.inr (k : Int))], [.inr v], τ)) rfl ⟨⟨by omega, by omega⟩, ⟨by decide, by decide⟩⟩ (fun h2 => ?_) (fun h2 => ?_)
    · first
      | (exfalso; omega)
      | (
          refine ex_k 5 (P := none) (g := (cod m8_count 4, [some (.inl 21), some (.inr 3), some (.inr 1), some (.inr (v + 0)), some (.inr ((k : Int) + 1))], [], τ)) rfl trivial ?_
          exact ih (k + 1) (by omega) _ (by first | exact cnt_t hv (by omega) | exact cnt_f0 hv (by omega) | exact cnt_f hv (by omega)))
    · first
      | (exfalso; omega)
      | (
          refine ex_k 6 (P := none) (g := (cod m8_count 4, [some (.inl 21), some (.inr 3), some (.inr 1), some (.inr (v + 1)), some (.inr ((k : Int) + 1))], [], τ)) rfl trivial ?_
          exact ih (k + 1) (by omega) _ (by first | exact cnt_t hv (by omega) | exact cnt_f0 hv (by omega) | exact cnt_f hv (by omega)))
theorem m_count_31 {τ : SZ} {c : Nat → Int} {B : Int} (hI : Iv B c) (hR : Rs c (τ 22)) : RZ 3 m8_count [.inl 21, .inr 3, .inr 1] τ (.inl (some (.inr (sm (fun k => b2 (cel c (0 + (k : Int) * 6 + 3) = 1)) (cel c 107).toNat)), τ)) := by
  have hS := hI.1
  have hC := hI.2.1
  have hN := hS.n
  have h0 := hR.n hN.1
  refine Ex.call ?_ rfl rfl
  show Ex _ _ (cod m8_count 0, [some (.inl 21), some (.inr 3), some (.inr 1), none, none], [], τ) _ _
  refine ex_k 4 (P := none) (g := (cod m8_count 4, [some (.inl 21), some (.inr 3), some (.inr 1), some (.inr 0), some (.inr 0)], [], τ)) rfl trivial ?_
  exact lp_count_31 hI hR (cel c 107).toNat 0 (by omega) 0 rfl
theorem lp_lockMany {τ : SZ} {c : Nat → Int} {B : Int} (hI : Iv B c) (hR : Rs c (τ 22)) : ∀ (j k : Nat), k + j = 24 → ∀ (v : Int) , v = sm (fun k => b2 (0 < usz c ((k : Int) / 12) ((k : Int) % 12))) k → Ex 1 m8_lockMany (cod m8_lockMany 4, [some (.inl 21), some (.inr v), some (.inr (k : Int))], [], τ) 0 (.inl (some (.inr (sm (fun k => b2 (0 < usz c ((k : Int) / 12) ((k : Int) % 12))) 24)), τ)) := by
  have hS := hI.1
  have hC := hI.2.1
  have hN := hS.n
  intro j
  induction j with
  | zero =>
    intro k hk v  hv
    refine ex_k 2 (P := none) (g := (cod m8_lockMany 6, [some (.inl 21), some (.inr v), some (.inr (k : Int))], [.inr 24, .inr (k : Int)], τ)) rfl trivial ?_
    refine ex_b (P := 24 ≤ (k : Int)) (ct := (cod m8_lockMany 26, [some (.inl 21), some (.inr v), some (.inr (k : Int))], [], τ)) (cf := (cod m8_lockMany 7, [some (.inl 21), some (.inr v), some (.inr (k : Int))], [], τ)) rfl ⟨⟨by omega, by omega⟩, ⟨by decide, by decide⟩⟩ (fun _ => ?_) (fun hh => absurd (by omega) hh)
    refine ex_k 1 (P := none) (g := (cod m8_lockMany 27, [some (.inl 21), some (.inr v), some (.inr (k : Int))], [.inr v], τ)) rfl trivial ?_
    exact ex_r rfl trivial rfl (rI2 (by rw [hv, show k = 24 from by omega]) rfl)
  | succ j ih =>
    intro k hk v  hv
    have hu := hS.us (r := (k : Int) / 12) (p := (k : Int) % 12) (by omega)
    refine ex_k 2 (P := none) (g := (cod m8_lockMany 6, [some (.inl 21), some (.inr v), some (.inr (k : Int))], [.inr 24, .inr (k : Int)], τ)) rfl trivial ?_
    refine ex_b (P := 24 ≤ (k : Int)) (ct := (cod m8_lockMany 26, [some (.inl 21), some (.inr v), some (.inr (k : Int))], [], τ)) (cf := (cod m8_lockMany 7, [some (.inl 21), some (.inr v), some (.inr (k : Int))], [], τ)) rfl ⟨⟨by omega, by omega⟩, ⟨by decide, by decide⟩⟩ (fun hh => absurd hh (by omega)) (fun _ => ?_)
    refine ex_k 5 (P := some (0 ≤ (k : Int) ∧ (k : Int) < 2147483648 ∧ 0 < 12 ∧ 12 < 2147483648)) (g := (cod m8_lockMany 12, [some (.inl 21), some (.inr v), some (.inr (k : Int))], [.inr ((k : Int) / 12), .inl 21, .inr v], τ)) rfl (by show 0 ≤ (k : Int) ∧ (k : Int) < 2147483648 ∧ 0 < 12 ∧ 12 < 2147483648; omega) ?_
    refine ex_k 4 (P := some (0 ≤ (k : Int) ∧ (k : Int) < 2147483648 ∧ 0 < 12 ∧ 12 < 2147483648)) (g := (cod m8_lockMany 16, [some (.inl 21), some (.inr v), some (.inr (k : Int))], [.inr ((k : Int) % 12), .inr 2, .inr ((k : Int) / 12), .inl 21, .inr v], τ)) rfl (by show 0 ≤ (k : Int) ∧ (k : Int) < 2147483648 ∧ 0 < 12 ∧ 12 < 2147483648; omega) ?_
    refine ex_k 1 (P := none) (g := (cod m8_lockMany 17, [some (.inl 21), some (.inr v), some (.inr (k : Int))], [.inr (2 + ((k : Int) % 12)), .inr ((k : Int) / 12), .inl 21, .inr v], τ)) rfl trivial ?_
    refine ex_c (m_ol (τ := τ) (r := (k : Int) / 12) (p := ((k : Int) % 12)) hI hR (by omega) (by omega)) (is := cod m8_lockMany 18) (L := [some (.inl 21), some (.inr v), some (.inr (k : Int))]) (st := [.inr v]) rfl rfl rfl ?_
    show Ex _ _ (cod m8_lockMany 18, [some (.inl 21), some (.inr v), some (.inr (k : Int))], [.inr (usz c ((k : Int) / 12) ((k : Int) % 12)), .inr v], τ) _ _
    refine ex_b (P := (usz c ((k : Int) / 12) ((k : Int) % 12)) ≤ 0) (ct := (cod m8_lockMany 21, [some (.inl 21), some (.inr v), some (.inr (k : Int))], [.inr v], τ)) (cf := (cod m8_lockMany 19, [some (.inl 21), some (.inr v), some (.inr (k : Int))], [.inr v], τ)) rfl ⟨by omega, by omega⟩ (fun h2 => ?_) (fun h2 => ?_)
    · first
      | (exfalso; omega)
      | (
          refine ex_k 5 (P := none) (g := (cod m8_lockMany 4, [some (.inl 21), some (.inr (v + 0)), some (.inr ((k : Int) + 1))], [], τ)) rfl trivial ?_
          exact ih (k + 1) (by omega) _ (by first | exact cnt_t hv (by omega) | exact cnt_f0 hv (by omega) | exact cnt_f hv (by omega)))
    · first
      | (exfalso; omega)
      | (
          refine ex_k 6 (P := none) (g := (cod m8_lockMany 4, [some (.inl 21), some (.inr (v + 1)), some (.inr ((k : Int) + 1))], [], τ)) rfl trivial ?_
          exact ih (k + 1) (by omega) _ (by first | exact cnt_t hv (by omega) | exact cnt_f0 hv (by omega) | exact cnt_f hv (by omega)))
theorem m_lockMany {τ : SZ} {c : Nat → Int} {B : Int} (hI : Iv B c) (hR : Rs c (τ 22)) : RZ 2 m8_lockMany [.inl 21] τ (.inl (some (.inr (sm (fun k => b2 (0 < usz c ((k : Int) / 12) ((k : Int) % 12))) 24)), τ)) := by
  have hS := hI.1
  have hC := hI.2.1
  have hN := hS.n
  refine Ex.call ?_ rfl rfl
  show Ex _ _ (cod m8_lockMany 0, [some (.inl 21), none, none], [], τ) _ _
  refine ex_k 4 (P := none) (g := (cod m8_lockMany 4, [some (.inl 21), some (.inr 0), some (.inr 0)], [], τ)) rfl trivial ?_
  exact lp_lockMany hI hR 24 0 (by omega) 0 rfl
theorem m_far {f : Int} {τ : SZ} {c : Nat → Int} {B : Int} (hI : Iv B c) (hR : Rs c (τ 22)) (hf : 0 ≤ f ∧ f < cel c 107) : RZ 2 m8_far [.inl 21, .inr f] τ (.inl (some (.inr (wcm c f)), τ)) := by
  have hS := hI.1
  have hC := hI.2.1
  have hN := hS.n
  have hsd := hS.sd (f := f) (by omega)
  refine Ex.call ?_ rfl rfl
  show Ex _ _ (cod m8_far 0, [some (.inl 21), some (.inr f), none], [], τ) _ _
  refine ex_k 3 (P := none) (g := (cod m8_far 3, [some (.inl 21), some (.inr f), none], [.inr 1, .inr f, .inl 21], τ)) rfl trivial ?_
  refine ex_c (m_of (τ := τ) (f := f) (w := 1) hI hR (by omega) (by omega)) (is := cod m8_far 4) (L := [some (.inl 21), some (.inr f), none]) (st := []) rfl rfl rfl ?_
  show Ex _ _ (cod m8_far 4, [some (.inl 21), some (.inr f), none], [.inr (cel c (0 + f * 6 + 1))], τ) _ _
  refine ex_k 3 (P := none) (g := (cod m8_far 7, [some (.inl 21), some (.inr f), none], [.inr 2, .inr f, .inl 21, .inr (cel c (0 + f * 6 + 1))], τ)) rfl trivial ?_
  refine ex_c (m_of (τ := τ) (f := f) (w := 2) hI hR (by omega) (by omega)) (is := cod m8_far 8) (L := [some (.inl 21), some (.inr f), none]) (st := [.inr (cel c (0 + f * 6 + 1))]) rfl rfl rfl ?_
  show Ex _ _ (cod m8_far 8, [some (.inl 21), some (.inr f), none], [.inr (cel c (0 + f * 6 + 2)), .inr (cel c (0 + f * 6 + 1))], τ) _ _
  refine ex_k 5 (P := none) (g := (cod m8_far 13, [some (.inl 21), some (.inr f), some (.inr ((cel c (0 + f * 6 + 1)) + (cel c (0 + f * 6 + 2))))], [.inr 0, .inr f, .inl 21], τ)) rfl trivial ?_
  refine ex_c (m_of (τ := τ) (f := f) (w := 0) hI hR (by omega) (by omega)) (is := cod m8_far 14) (L := [some (.inl 21), some (.inr f), some (.inr ((cel c (0 + f * 6 + 1)) + (cel c (0 + f * 6 + 2))))]) (st := []) rfl rfl rfl ?_
  show Ex _ _ (cod m8_far 14, [some (.inl 21), some (.inr f), some (.inr ((cel c (0 + f * 6 + 1)) + (cel c (0 + f * 6 + 2))))], [.inr (cel c (0 + f * 6 + 0))], τ) _ _
  refine ex_b (P := ¬ (cel c (0 + f * 6 + 0)) = 0) (ct := (cod m8_far 17, [some (.inl 21), some (.inr f), some (.inr ((cel c (0 + f * 6 + 1)) + (cel c (0 + f * 6 + 2))))], [], τ)) (cf := (cod m8_far 15, [some (.inl 21), some (.inr f), some (.inr ((cel c (0 + f * 6 + 1)) + (cel c (0 + f * 6 + 2))))], [], τ)) rfl ⟨by omega, by omega⟩ (fun h1 => ?_) (fun h1 => ?_)
  · first
    | (exfalso; omega)
    | (
        refine ex_k 3 (P := none) (g := (cod m8_far 20, [some (.inl 21), some (.inr f), some (.inr ((cel c (0 + f * 6 + 1)) + (cel c (0 + f * 6 + 2))))], [.inr (22 - ((cel c (0 + f * 6 + 1)) + (cel c (0 + f * 6 + 2))))], τ)) rfl trivial ?_
        exact ex_r rfl trivial rfl (rI (by unfold wcm; first | rw [if_pos (by omega)] | rw [if_neg (by omega)])))
  · first
    | (exfalso; omega)
    | (
        refine ex_k 2 (P := none) (g := (cod m8_far 20, [some (.inl 21), some (.inr f), some (.inr ((cel c (0 + f * 6 + 1)) + (cel c (0 + f * 6 + 2))))], [.inr ((cel c (0 + f * 6 + 1)) + (cel c (0 + f * 6 + 2)))], τ)) rfl trivial ?_
        exact ex_r rfl trivial rfl (rI (by unfold wcm; first | rw [if_pos (by omega)] | rw [if_neg (by omega)])))
end MR2
