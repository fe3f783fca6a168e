/-! gains, orders, accounts, undo, lines: printed by wip/whole/db12.py -/
section MA3
theorem s_take21 {τ : SZ} (h4 : Tz (τ 4)) (h5 : Tz (τ 5)) : RZ 2 m5_take [.inl 2, .inl 1] τ (.inl (none, zr τ 5 (τ 4))) := by
  have q := s_take_2_1 (τ := τ)
  rw [zc_full h4 h5] at q
  exact q
theorem s_take12 {τ : SZ} (h4 : Tz (τ 4)) (h5 : Tz (τ 5)) : RZ 2 m5_take [.inl 1, .inl 2] τ (.inl (none, zr τ 4 (τ 5))) := by
  have q := s_take_1_2 (τ := τ)
  rw [zc_full h5 h4] at q
  exact q
theorem s_take31 {τ : SZ} (h4 : Tz (τ 4)) (h6 : Tz (τ 6)) : RZ 2 m5_take [.inl 3, .inl 1] τ (.inl (none, zr τ 6 (τ 4))) := by
  have q := s_take_3_1 (τ := τ)
  rw [zc_full h4 h6] at q
  exact q
theorem s_take13 {τ : SZ} (h4 : Tz (τ 4)) (h6 : Tz (τ 6)) : RZ 2 m5_take [.inl 1, .inl 3] τ (.inl (none, zr τ 4 (τ 6))) := by
  have q := s_take_1_3 (τ := τ)
  rw [zc_full h6 h4] at q
  exact q
def gnb (c : Nat → Int) (f r s : Int) : Int := mkp c f r s - mxp (mkm c f r s) (1 - cel c (0 + f * 6 + 0)) (cel (mkm c f r s) 107).toNat
theorem ocn_mv {c : Nat → Int} {f r s : Int} (h : ocn c f r s = 1 ∨ ocn c f r s = 2 ∨ ocn c f r s = 3) : oco c f r s = 1 ∨ oco c f r s = 2 ∨ oco c f r s = 3 := by
  unfold ocn at h
  split at h
  · exact h
  · omega
theorem mxp_in {B : Int} {c : Nat → Int} (hS : Sh B c) {x : Int} : ∀ (k : Nat), k ≤ 8 → 0 ≤ mxp c x k ∧ mxp c x k ≤ 2 := by
  intro k
  induction k with
  | zero => intro _; show (0 : Int) ≤ 0 ∧ (0 : Int) ≤ 2; omega
  | succ k ih =>
    intro h
    have q := ih (by omega)
    have g := hS.kg (f := (k : Int)) (by omega)
    unfold mxp
    repeat (first | omega | split)
theorem mkp_in {B : Int} {c : Nat → Int} (hI : Iv B c) {f r s : Int} (hf : 0 ≤ f ∧ f < cel c 107) (hr : 0 ≤ r ∧ r < 2) (ho : oco c f r s = 1 ∨ oco c f r s = 2 ∨ oco c f r s = 3) (hB : B + 7 ≤ 100000000) : 0 ≤ mkp c f r s ∧ mkp c f r s ≤ 2 := by
  have hn := hI.1.n
  have h5 := (hI.1.kmk5 (f := f) (s := s) (by omega) hr (gol_ok ho).1 (by omega)).2
  have hv : ovr c f r s = -1 ∨ ovr c f r s = 8 ∨ (0 ≤ ovr c f r s ∧ ovr c f r s < cel c 107) := hI.2.1.ov hr
  unfold mkp
  split
  · omega
  · split
    · omega
    · have g := h5.kg (f := ovr c f r s) (by omega)
      omega
theorem gnb_in {B : Int} {c : Nat → Int} (hI : Iv B c) {f r s : Int} (hf : 0 ≤ f ∧ f < cel c 107) (hr : 0 ≤ r ∧ r < 2) (hs : s = 1 ∨ s = -1) (ho : oco c f r s = 1 ∨ oco c f r s = 2 ∨ oco c f r s = 3) (hB : B + 7 ≤ 100000000) : -2 ≤ gnb c f r s ∧ gnb c f r s ≤ 2 := by
  have h1 := mkp_in hI hf hr ho hB
  have hm := hI.mkm hf hr hs ho hB
  have hn := hm.1.n
  have h2 := mxp_in hm.1 (x := 1 - cel c (0 + f * 6 + 0)) (cel (mkm c f r s) 107).toNat (by omega)
  unfold gnb
  omega
theorem s_gainBy {f r s : Int} {τ : SZ} {B : Int} (hI : Iv B (τ 4)) (hB : B + 7 ≤ 100000000) (hT5 : Tz (τ 5)) (hf : 0 ≤ f ∧ f < cel (τ 4) 107) (hr : 0 ≤ r ∧ r < 2) (hs : s = 1 ∨ s = -1) (ho : oco (τ 4) f r s = 1 ∨ oco (τ 4) f r s = 2 ∨ oco (τ 4) f r s = 3) : RZ 7 m7_gainBy [.inl 0, .inr f, .inr r, .inr s] τ (.inl (some (.inr (gnb (τ 4) f r s)), zr τ 5 (mkm (τ 4) f r s))) := by
  have hS := hI.1
  have hN := hS.n
  have hT4 := hS.tz
  have hf8 : 0 ≤ f ∧ f < 8 := by omega
  have hsd := hS.sd hf8
  have hgo := (gol_ok ho).1
  have hov : ovr (τ 4) f r s = -1 ∨ ovr (τ 4) f r s = 8 ∨ (0 ≤ ovr (τ 4) f r s ∧ ovr (τ 4) f r s < cel (τ 4) 107) := hI.2.1.ov hr
  have hM := hI.mkm hf hr hs ho hB
  have hNM := hM.1.n
  have hnM : cel (mkm (τ 4) f r s) 107 = ((cel (mkm (τ 4) f r s) 107).toNat : Int) := by omega
  refine Ex.call ?_ rfl rfl
  show Ex _ _ (cod m7_gainBy 0, [some (.inl 0), some (.inr f), some (.inr r), some (.inr s), none, none], [], τ) _ _
  refine ex_k 5 (P := none) (g := (cod m7_gainBy 5, [some (.inl 0), some (.inr f), some (.inr r), some (.inr s), none, none], [.inr 0, .inr f, .inl 1, .inr 1], τ)) rfl trivial ?_
  refine ex_c (s_number (τ := τ) (f := f) (w := 0) (Or.inl ⟨rfl, rfl⟩) (by omega) (by omega)) (is := cod m7_gainBy 6) (L := [some (.inl 0), some (.inr f), some (.inr r), some (.inr s), none, none]) (st := [.inr 1]) rfl rfl rfl ?_
  show Ex _ _ (cod m7_gainBy 6, [some (.inl 0), some (.inr f), some (.inr r), some (.inr s), none, none], [.inr (cel (τ 4) (0 + f * 6 + 0)), .inr 1], τ) _ _
  refine ex_k 6 (P := none) (g := (cod m7_gainBy 12, [some (.inl 0), some (.inr f), some (.inr r), some (.inr s), some (.inr (1 - (cel (τ 4) (0 + f * 6 + 0)))), none], [.inl 1, .inl 2], τ)) rfl trivial ?_
  refine ex_c (s_take21 (τ := τ) hT4 hT5) (is := cod m7_gainBy 13) (L := [some (.inl 0), some (.inr f), some (.inr r), some (.inr s), some (.inr (1 - (cel (τ 4) (0 + f * 6 + 0)))), none]) (st := []) rfl rfl rfl ?_
  show Ex _ _ (cod m7_gainBy 13, [some (.inl 0), some (.inr f), some (.inr r), some (.inr s), some (.inr (1 - (cel (τ 4) (0 + f * 6 + 0)))), none], [], (zr τ 5 (τ 4))) _ _
  refine ex_k 5 (P := none) (g := (cod m7_gainBy 18, [some (.inl 0), some (.inr f), some (.inr r), some (.inr s), some (.inr (1 - (cel (τ 4) (0 + f * 6 + 0)))), none], [.inr s, .inr r, .inr f, .inl 8], (zr τ 5 (τ 4)))) rfl trivial ?_
  refine ex_c (s_makeMove (τ := (zr τ 5 (τ 4))) (f := f) (r := r) (s := s) (Or.inr ⟨rfl, rfl, rfl⟩) hS hf8 hr hs hgo hov hB) (is := cod m7_gainBy 19) (L := [some (.inl 0), some (.inr f), some (.inr r), some (.inr s), some (.inr (1 - (cel (τ 4) (0 + f * 6 + 0)))), none]) (st := []) rfl rfl rfl ?_
  show Ex _ _ (cod m7_gainBy 19, [some (.inl 0), some (.inr f), some (.inr r), some (.inr s), some (.inr (1 - (cel (τ 4) (0 + f * 6 + 0)))), none], [.inr (mkp (τ 4) f r s)], (zr (zr τ 5 (τ 4)) 5 (mkm (τ 4) f r s))) _ _
  rw [zr_zr]
  refine ex_k 5 (P := none) (g := (cod m7_gainBy 24, [some (.inl 0), some (.inr f), some (.inr r), some (.inr s), some (.inr (1 - (cel (τ 4) (0 + f * 6 + 0)))), some (.inr (mkp (τ 4) f r s))], [.inr (1 - (cel (τ 4) (0 + f * 6 + 0))), .inl 8, .inr (mkp (τ 4) f r s)], (zr τ 5 (mkm (τ 4) f r s)))) rfl trivial ?_
  refine ex_c (s_mostPoints (τ := (zr τ 5 (mkm (τ 4) f r s))) (x := 1 - (cel (τ 4) (0 + f * 6 + 0))) (Or.inr ⟨rfl, rfl, rfl⟩) (by omega) hM.1 hnM) (is := cod m7_gainBy 25) (L := [some (.inl 0), some (.inr f), some (.inr r), some (.inr s), some (.inr (1 - (cel (τ 4) (0 + f * 6 + 0)))), some (.inr (mkp (τ 4) f r s))]) (st := [.inr (mkp (τ 4) f r s)]) rfl rfl rfl ?_
  show Ex _ _ (cod m7_gainBy 25, [some (.inl 0), some (.inr f), some (.inr r), some (.inr s), some (.inr (1 - (cel (τ 4) (0 + f * 6 + 0)))), some (.inr (mkp (τ 4) f r s))], [.inr (mxp (mkm (τ 4) f r s) (1 - (cel (τ 4) (0 + f * 6 + 0))) (cel (mkm (τ 4) f r s) 107).toNat), .inr (mkp (τ 4) f r s)], (zr τ 5 (mkm (τ 4) f r s))) _ _
  refine ex_k 1 (P := none) (g := (cod m7_gainBy 26, [some (.inl 0), some (.inr f), some (.inr r), some (.inr s), some (.inr (1 - (cel (τ 4) (0 + f * 6 + 0)))), some (.inr (mkp (τ 4) f r s))], [.inr ((mkp (τ 4) f r s) - (mxp (mkm (τ 4) f r s) (1 - (cel (τ 4) (0 + f * 6 + 0))) (cel (mkm (τ 4) f r s) 107).toNat))], (zr τ 5 (mkm (τ 4) f r s)))) rfl trivial ?_
  exact ex_r rfl trivial rfl (rfl)
theorem c_gain_0 {f r : Int} {τ : SZ} (hf : Rng f) (hr : Rng r) {B : Int} (hI : Iv B (τ 4)) (hB : B + 7 ≤ 100000000) (hT5 : Tz (τ 5)) : RZ 8 m7_gain [.inl 0, .inr f, .inr r, .inr 0] τ (if (0 ≤ f ∧ f < cel (τ 4) 107) ∧ (0 ≤ r ∧ r < 2) then (if (ocn (τ 4) f r (-1) = 1 ∨ ocn (τ 4) f r (-1) = 2 ∨ ocn (τ 4) f r (-1) = 3) then .inl (some (.inr (gnb (τ 4) f r (-1))), zr τ 5 (mkm (τ 4) f r (-1))) else .inr ("java/util/NoSuchElementException", τ)) else .inr ("java/lang/IndexOutOfBoundsException", τ)) := by
  have hS := hI.1
  have hN := hS.n
  have ho := @ocn_in (τ 4) f r (-1)
  obtain ⟨hf1, hf2⟩ := hf
  obtain ⟨hr1, hr2⟩ := hr
  refine Ex.call ?_ rfl rfl
  show Ex _ _ (cod m7_gain 0, [some (.inl 0), some (.inr f), some (.inr r), some (.inr 0), none], [], τ) _ _
  refine ex_k 3 (P := none) (g := (cod m7_gain 3, [some (.inl 0), some (.inr f), some (.inr r), some (.inr 0), none], [.inr r, .inr f, .inl 0], τ)) rfl trivial ?_
  by_cases hc1 : (0 ≤ f ∧ f < cel (τ 4) 107) ∧ (0 ≤ r ∧ r < 2)
  ·
    refine ex_c (s_needFerryAndRiver_ok (τ := τ) (f := f) (r := r) hS ⟨by omega, by omega⟩ ⟨by omega, by omega⟩ hc1) (is := cod m7_gain 4) (L := [some (.inl 0), some (.inr f), some (.inr r), some (.inr 0), none]) (st := []) rfl rfl rfl ?_
    show Ex _ _ (cod m7_gain 4, [some (.inl 0), some (.inr f), some (.inr r), some (.inr 0), none], [], τ) _ _
    refine ex_k 1 (P := none) (g := (cod m7_gain 5, [some (.inl 0), some (.inr f), some (.inr r), some (.inr 0), none], [.inr 0], τ)) rfl trivial ?_
    refine ex_c (s_stepTo (τ := τ) (z := 0) ⟨by omega, by omega⟩) (is := cod m7_gain 6) (L := [some (.inl 0), some (.inr f), some (.inr r), some (.inr 0), none]) (st := []) rfl rfl rfl ?_
    show Ex _ _ (cod m7_gain 6, [some (.inl 0), some (.inr f), some (.inr r), some (.inr 0), none], [.inr (-1)], τ) _ _
    refine ex_k 6 (P := none) (g := (cod m7_gain 12, [some (.inl 0), some (.inr f), some (.inr r), some (.inr 0), some (.inr (-1))], [.inr (-1), .inr r, .inr f, .inl 7], τ)) rfl trivial ?_
    refine ex_c (s_outcomeNow (τ := τ) (f := f) (r := r) (s := (-1)) (Or.inl ⟨rfl, rfl, rfl⟩) (by omega) (by omega) (by omega) hS.cw) (is := cod m7_gain 13) (L := [some (.inl 0), some (.inr f), some (.inr r), some (.inr 0), some (.inr (-1))]) (st := []) rfl rfl rfl ?_
    show Ex _ _ (cod m7_gain 13, [some (.inl 0), some (.inr f), some (.inr r), some (.inr 0), some (.inr (-1))], [.inr (ocn (τ 4) f r (-1))], τ) _ _
    refine ex_c (s_isMove (τ := τ) (z := ocn (τ 4) f r (-1)) ⟨by omega, by omega⟩) (is := cod m7_gain 14) (L := [some (.inl 0), some (.inr f), some (.inr r), some (.inr 0), some (.inr (-1))]) (st := []) rfl rfl rfl ?_
    show Ex _ _ (cod m7_gain 14, [some (.inl 0), some (.inr f), some (.inr r), some (.inr 0), some (.inr (-1))], [.inr (b2 ((ocn (τ 4) f r (-1)) = 1 ∨ (ocn (τ 4) f r (-1)) = 2 ∨ (ocn (τ 4) f r (-1)) = 3))], τ) _ _
    refine ex_b (P := ¬ (b2 ((ocn (τ 4) f r (-1)) = 1 ∨ (ocn (τ 4) f r (-1)) = 2 ∨ (ocn (τ 4) f r (-1)) = 3)) = 0) (ct := (cod m7_gain 19, [some (.inl 0), some (.inr f), some (.inr r), some (.inr 0), some (.inr (-1))], [], τ)) (cf := (cod m7_gain 15, [some (.inl 0), some (.inr f), some (.inr r), some (.inr 0), some (.inr (-1))], [], τ)) rfl b2_rng (fun h1 => ?_) (fun h1 => ?_)
    · first
      | (exfalso; have h1 := b2_n0 h1; omega)
      | (
          have h1 := b2_n0 h1
          refine ex_k 4 (P := none) (g := (cod m7_gain 23, [some (.inl 0), some (.inr f), some (.inr r), some (.inr 0), some (.inr (-1))], [.inr (-1), .inr r, .inr f, .inl 0], τ)) rfl trivial ?_
          refine ex_c (s_gainBy (τ := τ) (f := f) (r := r) (s := (-1)) hI hB hT5 (show 0 ≤ f ∧ f < cel (τ 4) 107 by omega) (by omega) (by omega) (ocn_mv (show ocn (τ 4) f r (-1) = 1 ∨ ocn (τ 4) f r (-1) = 2 ∨ ocn (τ 4) f r (-1) = 3 by omega))) (is := cod m7_gain 24) (L := [some (.inl 0), some (.inr f), some (.inr r), some (.inr 0), some (.inr (-1))]) (st := []) rfl rfl rfl ?_
          show Ex _ _ (cod m7_gain 24, [some (.inl 0), some (.inr f), some (.inr r), some (.inr 0), some (.inr (-1))], [.inr (gnb (τ 4) f r (-1))], (zr τ 5 (mkm (τ 4) f r (-1)))) _ _
          exact ex_r rfl trivial rfl ((by (repeat (first | rw [if_pos (by omega)] | rw [if_neg (by omega)])); first | done | rfl)))
    · first
      | (exfalso; have h1 := b2_nn0 h1; omega)
      | (
          have h1 := b2_nn0 h1
          exact ex_t rfl rfl ((by (repeat (first | rw [if_pos (by omega)] | rw [if_neg (by omega)])); first | done | rfl)))
  ·
    exact ex_x (s_needFerryAndRiver_x (τ := τ) (f := f) (r := r) hS ⟨by omega, by omega⟩ ⟨by omega, by omega⟩ hc1) rfl rfl rfl ((by (repeat (first | rw [if_pos (by omega)] | rw [if_neg (by omega)])); first | done | rfl))
theorem c_gain_1 {f r : Int} {τ : SZ} (hf : Rng f) (hr : Rng r) {B : Int} (hI : Iv B (τ 4)) (hB : B + 7 ≤ 100000000) (hT5 : Tz (τ 5)) : RZ 8 m7_gain [.inl 0, .inr f, .inr r, .inr 1] τ (if (0 ≤ f ∧ f < cel (τ 4) 107) ∧ (0 ≤ r ∧ r < 2) then (if (ocn (τ 4) f r 1 = 1 ∨ ocn (τ 4) f r 1 = 2 ∨ ocn (τ 4) f r 1 = 3) then .inl (some (.inr (gnb (τ 4) f r 1)), zr τ 5 (mkm (τ 4) f r 1)) else .inr ("java/util/NoSuchElementException", τ)) else .inr ("java/lang/IndexOutOfBoundsException", τ)) := by
  have hS := hI.1
  have hN := hS.n
  have ho := @ocn_in (τ 4) f r 1
  obtain ⟨hf1, hf2⟩ := hf
  obtain ⟨hr1, hr2⟩ := hr
  refine Ex.call ?_ rfl rfl
  show Ex _ _ (cod m7_gain 0, [some (.inl 0), some (.inr f), some (.inr r), some (.inr 1), none], [], τ) _ _
  refine ex_k 3 (P := none) (g := (cod m7_gain 3, [some (.inl 0), some (.inr f), some (.inr r), some (.inr 1), none], [.inr r, .inr f, .inl 0], τ)) rfl trivial ?_
  by_cases hc1 : (0 ≤ f ∧ f < cel (τ 4) 107) ∧ (0 ≤ r ∧ r < 2)
  ·
    refine ex_c (s_needFerryAndRiver_ok (τ := τ) (f := f) (r := r) hS ⟨by omega, by omega⟩ ⟨by omega, by omega⟩ hc1) (is := cod m7_gain 4) (L := [some (.inl 0), some (.inr f), some (.inr r), some (.inr 1), none]) (st := []) rfl rfl rfl ?_
    show Ex _ _ (cod m7_gain 4, [some (.inl 0), some (.inr f), some (.inr r), some (.inr 1), none], [], τ) _ _
    refine ex_k 1 (P := none) (g := (cod m7_gain 5, [some (.inl 0), some (.inr f), some (.inr r), some (.inr 1), none], [.inr 1], τ)) rfl trivial ?_
    refine ex_c (s_stepTo (τ := τ) (z := 1) ⟨by omega, by omega⟩) (is := cod m7_gain 6) (L := [some (.inl 0), some (.inr f), some (.inr r), some (.inr 1), none]) (st := []) rfl rfl rfl ?_
    show Ex _ _ (cod m7_gain 6, [some (.inl 0), some (.inr f), some (.inr r), some (.inr 1), none], [.inr 1], τ) _ _
    refine ex_k 6 (P := none) (g := (cod m7_gain 12, [some (.inl 0), some (.inr f), some (.inr r), some (.inr 1), some (.inr 1)], [.inr 1, .inr r, .inr f, .inl 7], τ)) rfl trivial ?_
    refine ex_c (s_outcomeNow (τ := τ) (f := f) (r := r) (s := 1) (Or.inl ⟨rfl, rfl, rfl⟩) (by omega) (by omega) (by omega) hS.cw) (is := cod m7_gain 13) (L := [some (.inl 0), some (.inr f), some (.inr r), some (.inr 1), some (.inr 1)]) (st := []) rfl rfl rfl ?_
    show Ex _ _ (cod m7_gain 13, [some (.inl 0), some (.inr f), some (.inr r), some (.inr 1), some (.inr 1)], [.inr (ocn (τ 4) f r 1)], τ) _ _
    refine ex_c (s_isMove (τ := τ) (z := ocn (τ 4) f r 1) ⟨by omega, by omega⟩) (is := cod m7_gain 14) (L := [some (.inl 0), some (.inr f), some (.inr r), some (.inr 1), some (.inr 1)]) (st := []) rfl rfl rfl ?_
    show Ex _ _ (cod m7_gain 14, [some (.inl 0), some (.inr f), some (.inr r), some (.inr 1), some (.inr 1)], [.inr (b2 ((ocn (τ 4) f r 1) = 1 ∨ (ocn (τ 4) f r 1) = 2 ∨ (ocn (τ 4) f r 1) = 3))], τ) _ _
    refine ex_b (P := ¬ (b2 ((ocn (τ 4) f r 1) = 1 ∨ (ocn (τ 4) f r 1) = 2 ∨ (ocn (τ 4) f r 1) = 3)) = 0) (ct := (cod m7_gain 19, [some (.inl 0), some (.inr f), some (.inr r), some (.inr 1), some (.inr 1)], [], τ)) (cf := (cod m7_gain 15, [some (.inl 0), some (.inr f), some (.inr r), some (.inr 1), some (.inr 1)], [], τ)) rfl b2_rng (fun h1 => ?_) (fun h1 => ?_)
    · first
      | (exfalso; have h1 := b2_n0 h1; omega)
      | (
          have h1 := b2_n0 h1
          refine ex_k 4 (P := none) (g := (cod m7_gain 23, [some (.inl 0), some (.inr f), some (.inr r), some (.inr 1), some (.inr 1)], [.inr 1, .inr r, .inr f, .inl 0], τ)) rfl trivial ?_
          refine ex_c (s_gainBy (τ := τ) (f := f) (r := r) (s := 1) hI hB hT5 (show 0 ≤ f ∧ f < cel (τ 4) 107 by omega) (by omega) (by omega) (ocn_mv (show ocn (τ 4) f r 1 = 1 ∨ ocn (τ 4) f r 1 = 2 ∨ ocn (τ 4) f r 1 = 3 by omega))) (is := cod m7_gain 24) (L := [some (.inl 0), some (.inr f), some (.inr r), some (.inr 1), some (.inr 1)]) (st := []) rfl rfl rfl ?_
          show Ex _ _ (cod m7_gain 24, [some (.inl 0), some (.inr f), some (.inr r), some (.inr 1), some (.inr 1)], [.inr (gnb (τ 4) f r 1)], (zr τ 5 (mkm (τ 4) f r 1))) _ _
          exact ex_r rfl trivial rfl ((by (repeat (first | rw [if_pos (by omega)] | rw [if_neg (by omega)])); first | done | rfl)))
    · first
      | (exfalso; have h1 := b2_nn0 h1; omega)
      | (
          have h1 := b2_nn0 h1
          exact ex_t rfl rfl ((by (repeat (first | rw [if_pos (by omega)] | rw [if_neg (by omega)])); first | done | rfl)))
  ·
    exact ex_x (s_needFerryAndRiver_x (τ := τ) (f := f) (r := r) hS ⟨by omega, by omega⟩ ⟨by omega, by omega⟩ hc1) rfl rfl rfl ((by (repeat (first | rw [if_pos (by omega)] | rw [if_neg (by omega)])); first | done | rfl))
theorem s_nom_0 {z : Int} {τ : SZ} (hz : 0 ≤ z ∧ z < 1000) : RZ 1 m7_numberOfMove [.inr z, .inr 0] τ (.inl (some (.inr (z / 4)), τ)) := by
  refine Ex.call ?_ rfl rfl
  show Ex _ _ (cod m7_numberOfMove 0, [some (.inr z), some (.inr 0)], [], τ) _ _
  refine ex_k 2 (P := some (Rng 0)) (g := (cod m7_numberOfMove 2, [some (.inr z), some (.inr 0)], [], τ)) rfl ⟨by decide, by decide⟩ ?_
  refine ex_k 3 (P := some (0 ≤ z ∧ z < 2147483648 ∧ 0 < 4 ∧ 4 < 2147483648)) (g := (cod m7_numberOfMove 5, [some (.inr z), some (.inr 0)], [.inr (z / 4)], τ)) rfl (by show 0 ≤ z ∧ z < 2147483648 ∧ 0 < 4 ∧ 4 < 2147483648; omega) ?_
  exact ex_r rfl trivial rfl (rfl)
theorem s_nom_1 {z : Int} {τ : SZ} (hz : 0 ≤ z ∧ z < 1000) : RZ 1 m7_numberOfMove [.inr z, .inr 1] τ (.inl (some (.inr (z / 2 % 2)), τ)) := by
  refine Ex.call ?_ rfl rfl
  show Ex _ _ (cod m7_numberOfMove 0, [some (.inr z), some (.inr 1)], [], τ) _ _
  refine ex_k 2 (P := some (Rng 1)) (g := (cod m7_numberOfMove 6, [some (.inr z), some (.inr 1)], [], τ)) rfl ⟨by decide, by decide⟩ ?_
  refine ex_k 3 (P := some (0 ≤ z ∧ z < 2147483648 ∧ 0 < 2 ∧ 2 < 2147483648)) (g := (cod m7_numberOfMove 9, [some (.inr z), some (.inr 1)], [.inr (z / 2)], τ)) rfl (by show 0 ≤ z ∧ z < 2147483648 ∧ 0 < 2 ∧ 2 < 2147483648; omega) ?_
  refine ex_k 2 (P := some (0 ≤ (z / 2) ∧ (z / 2) < 2147483648 ∧ 0 < 2 ∧ 2 < 2147483648)) (g := (cod m7_numberOfMove 11, [some (.inr z), some (.inr 1)], [.inr ((z / 2) % 2)], τ)) rfl (by show 0 ≤ (z / 2) ∧ (z / 2) < 2147483648 ∧ 0 < 2 ∧ 2 < 2147483648; omega) ?_
  exact ex_r rfl trivial rfl (rfl)
theorem s_nom_2 {z : Int} {τ : SZ} (hz : 0 ≤ z ∧ z < 1000) : RZ 1 m7_numberOfMove [.inr z, .inr 2] τ (.inl (some (.inr (1 - z % 2)), τ)) := by
  refine Ex.call ?_ rfl rfl
  show Ex _ _ (cod m7_numberOfMove 0, [some (.inr z), some (.inr 2)], [], τ) _ _
  refine ex_k 2 (P := some (Rng 2)) (g := (cod m7_numberOfMove 12, [some (.inr z), some (.inr 2)], [], τ)) rfl ⟨by decide, by decide⟩ ?_
  refine ex_k 4 (P := some (0 ≤ z ∧ z < 2147483648 ∧ 0 < 2 ∧ 2 < 2147483648)) (g := (cod m7_numberOfMove 16, [some (.inr z), some (.inr 2)], [.inr (z % 2), .inr 1], τ)) rfl (by show 0 ≤ z ∧ z < 2147483648 ∧ 0 < 2 ∧ 2 < 2147483648; omega) ?_
  refine ex_k 1 (P := none) (g := (cod m7_numberOfMove 17, [some (.inr z), some (.inr 2)], [.inr (1 - (z % 2))], τ)) rfl trivial ?_
  exact ex_r rfl trivial rfl (rfl)
def stp (k : Int) : Int := if 1 - k % 2 = 1 then 1 else -1
abbrev omv (c : Nat → Int) (k : Int) : Prop := ocn c (k / 4) (k / 2 % 2) (stp k) = 1 ∨ ocn c (k / 4) (k / 2 % 2) (stp k) = 2 ∨ ocn c (k / 4) (k / 2 % 2) (stp k) = 3
def bsb (c : Nat → Int) : Nat → Int × Int
  | 0 => (-1, 0)
  | k + 1 => if omv c (k : Int) then (if (bsb c k).1 < 0 ∨ (bsb c k).2 < gnb c ((k : Int) / 4) ((k : Int) / 2 % 2) (stp (k : Int)) then ((k : Int), gnb c ((k : Int) / 4) ((k : Int) / 2 % 2) (stp (k : Int))) else bsb c k) else bsb c k
def bsd (c d : Nat → Int) : Nat → (Nat → Int)
  | 0 => d
  | k + 1 => if omv c (k : Int) then mkm c ((k : Int) / 4) ((k : Int) / 2 % 2) (stp (k : Int)) else bsd c d k
theorem bsb_t {c : Nat → Int} {k : Nat} {s : Int} (hs : stp (k : Int) = s) (h1 : ocn c ((k : Int) / 4) ((k : Int) / 2 % 2) s = 1 ∨ ocn c ((k : Int) / 4) ((k : Int) / 2 % 2) s = 2 ∨ ocn c ((k : Int) / 4) ((k : Int) / 2 % 2) s = 3) (h2 : (bsb c k).1 < 0 ∨ (bsb c k).2 < gnb c ((k : Int) / 4) ((k : Int) / 2 % 2) s) : bsb c (k + 1) = ((k : Int), gnb c ((k : Int) / 4) ((k : Int) / 2 % 2) s) := by
  subst hs
  show ite _ _ _ = _
  rw [if_pos h1, if_pos h2]
theorem bsb_f {c : Nat → Int} {k : Nat} {s : Int} (hs : stp (k : Int) = s) (h1 : ocn c ((k : Int) / 4) ((k : Int) / 2 % 2) s = 1 ∨ ocn c ((k : Int) / 4) ((k : Int) / 2 % 2) s = 2 ∨ ocn c ((k : Int) / 4) ((k : Int) / 2 % 2) s = 3) (h2 : ¬ ((bsb c k).1 < 0 ∨ (bsb c k).2 < gnb c ((k : Int) / 4) ((k : Int) / 2 % 2) s)) : bsb c (k + 1) = bsb c k := by
  subst hs
  show ite _ _ _ = _
  rw [if_pos h1, if_neg h2]
theorem bsb_n {c : Nat → Int} {k : Nat} {s : Int} (hs : stp (k : Int) = s) (h1 : ¬ (ocn c ((k : Int) / 4) ((k : Int) / 2 % 2) s = 1 ∨ ocn c ((k : Int) / 4) ((k : Int) / 2 % 2) s = 2 ∨ ocn c ((k : Int) / 4) ((k : Int) / 2 % 2) s = 3)) : bsb c (k + 1) = bsb c k := by
  subst hs
  show ite _ _ _ = _
  rw [if_neg h1]
theorem bsd_t {c d : Nat → Int} {k : Nat} {s : Int} (hs : stp (k : Int) = s) (h1 : ocn c ((k : Int) / 4) ((k : Int) / 2 % 2) s = 1 ∨ ocn c ((k : Int) / 4) ((k : Int) / 2 % 2) s = 2 ∨ ocn c ((k : Int) / 4) ((k : Int) / 2 % 2) s = 3) : bsd c d (k + 1) = mkm c ((k : Int) / 4) ((k : Int) / 2 % 2) s := by
  subst hs
  show ite _ _ _ = _
  rw [if_pos h1]
theorem bsd_n {c d : Nat → Int} {k : Nat} {s : Int} (hs : stp (k : Int) = s) (h1 : ¬ (ocn c ((k : Int) / 4) ((k : Int) / 2 % 2) s = 1 ∨ ocn c ((k : Int) / 4) ((k : Int) / 2 % 2) s = 2 ∨ ocn c ((k : Int) / 4) ((k : Int) / 2 % 2) s = 3)) : bsd c d (k + 1) = bsd c d k := by
  subst hs
  show ite _ _ _ = _
  rw [if_neg h1]
theorem stp_in (k : Int) : stp k = 1 ∨ stp k = -1 := by unfold stp; split; exact Or.inl rfl; exact Or.inr rfl
theorem bsb_in {B : Int} {c : Nat → Int} (hI : Iv B c) (hB : B + 7 ≤ 100000000) : ∀ (k : Nat), (k : Int) ≤ 4 * cel c 107 → (-1 ≤ (bsb c k).1 ∧ ((bsb c k).1 < (k : Int) ∨ (bsb c k).1 = -1)) ∧ (-2 ≤ (bsb c k).2 ∧ (bsb c k).2 ≤ 2) := by
  intro k
  induction k with
  | zero => intro _; show (-1 ≤ (-1 : Int) ∧ ((-1 : Int) < _ ∨ (-1 : Int) = -1)) ∧ (-2 ≤ (0 : Int) ∧ (0 : Int) ≤ 2); omega
  | succ k ih =>
    intro h
    have q := ih (by omega)
    unfold bsb
    split
    next h1 =>
      have g := gnb_in hI (f := (k : Int) / 4) (r := (k : Int) / 2 % 2) (by omega) (by omega) (stp_in _) (ocn_mv h1) hB
      split
      · show (-1 ≤ (k : Int) ∧ ((k : Int) < ((k + 1 : Nat) : Int) ∨ (k : Int) = -1)) ∧ (-2 ≤ gnb c ((k : Int) / 4) ((k : Int) / 2 % 2) (stp (k : Int)) ∧ gnb c ((k : Int) / 4) ((k : Int) / 2 % 2) (stp (k : Int)) ≤ 2)
        omega
      · omega
    next => omega
theorem bsd_tz {B : Int} {c d : Nat → Int} (hI : Iv B c) (hB : B + 7 ≤ 100000000) (hd : Tz d) : ∀ (k : Nat), (k : Int) ≤ 4 * cel c 107 → Tz (bsd c d k) := by
  intro k
  induction k with
  | zero => intro _; exact hd
  | succ k ih =>
    intro h
    unfold bsd
    split
    next h1 => exact (hI.mkm (by omega) (by omega) (stp_in _) (ocn_mv h1) hB).1.tz
    next => exact ih (by omega)
theorem lp_best_0 {τ : SZ} {d0 : Nat → Int} {M : Nat} {B : Int} (hI : Iv B (τ 4)) (hB : B + 7 ≤ 100000000) (hd0 : Tz d0) (hM : (M : Int) = 4 * cel (τ 4) 107) : ∀ (j k : Nat), k + j = M → ∀ (z b mm : Int) (d : Nat → Int) (o5 o6 o7 o8 : Option VZ), z = (k : Int) → b = (bsb (τ 4) k).1 → mm = (bsb (τ 4) k).2 → d = bsd (τ 4) d0 k → Ex 7 m7_best (cod m7_best 15, [some (.inl 0), some (.inr 0), some (.inr b), some (.inr mm), some (.inr z), o5, o6, o7, o8], [], (zr τ 5 d)) 0 (if (bsb (τ 4) M).1 < 0 then .inr ("java/util/NoSuchElementException", zr τ 5 (bsd (τ 4) d0 M)) else .inl (some (.inr (if (0 : Int) = 0 then (bsb (τ 4) M).1 / 4 else if (0 : Int) = 1 then (bsb (τ 4) M).1 / 2 % 2 else 1 - (bsb (τ 4) M).1 % 2)), zr τ 5 (bsd (τ 4) d0 M))) := by
  intro j
  induction j with
  | zero =>
    intro k hk z b mm d o5 o6 o7 o8 hz hb hm hd
    have hS := hI.1
    have hN := hS.n
    have hin := bsb_in hI hB k (by omega)
    have hT5 : Tz d := by rw [hd]; exact bsd_tz hI hB hd0 k (by omega)
    refine ex_k 5 (P := none) (g := (cod m7_best 20, [some (.inl 0), some (.inr 0), some (.inr b), some (.inr mm), some (.inr z), o5, o6, o7, o8], [.inr 7, .inl 1, .inr 4, .inr z], (zr τ 5 d))) rfl trivial ?_
    refine ex_c (s_total (τ := (zr τ 5 d)) (w := 7) (Or.inl ⟨rfl, rfl⟩) (by omega)) (is := cod m7_best 21) (L := [some (.inl 0), some (.inr 0), some (.inr b), some (.inr mm), some (.inr z), o5, o6, o7, o8]) (st := [.inr 4, .inr z]) rfl rfl rfl ?_
    show Ex _ _ (cod m7_best 21, [some (.inl 0), some (.inr 0), some (.inr b), some (.inr mm), some (.inr z), o5, o6, o7, o8], [.inr (cel (τ 4) 107), .inr 4, .inr z], (zr τ 5 d)) _ _
    refine ex_k 1 (P := none) (g := (cod m7_best 22, [some (.inl 0), some (.inr 0), some (.inr b), some (.inr mm), some (.inr z), o5, o6, o7, o8], [.inr (4 * (cel (τ 4) 107)), .inr z], (zr τ 5 d))) rfl trivial ?_
    refine ex_b (P := (4 * (cel (τ 4) 107)) ≤ z) (ct := (cod m7_best 66, [some (.inl 0), some (.inr 0), some (.inr b), some (.inr mm), some (.inr z), o5, o6, o7, o8], [], (zr τ 5 d))) (cf := (cod m7_best 23, [some (.inl 0), some (.inr 0), some (.inr b), some (.inr mm), some (.inr z), o5, o6, o7, o8], [], (zr τ 5 d))) rfl ⟨⟨by omega, by omega⟩, ⟨by omega, by omega⟩⟩ (fun _ => ?_) (fun hh => absurd (by omega) hh)
    refine ex_k 1 (P := none) (g := (cod m7_best 67, [some (.inl 0), some (.inr 0), some (.inr b), some (.inr mm), some (.inr z), o5, o6, o7, o8], [.inr b], (zr τ 5 d))) rfl trivial ?_
    refine ex_b (P := 0 ≤ b) (ct := (cod m7_best 72, [some (.inl 0), some (.inr 0), some (.inr b), some (.inr mm), some (.inr z), o5, o6, o7, o8], [], (zr τ 5 d))) (cf := (cod m7_best 68, [some (.inl 0), some (.inr 0), some (.inr b), some (.inr mm), some (.inr z), o5, o6, o7, o8], [], (zr τ 5 d))) rfl ⟨by omega, by omega⟩ (fun h2 => ?_) (fun h2 => ?_)
    · first
      | (exfalso; omega)
      | (
          refine ex_k 2 (P := none) (g := (cod m7_best 74, [some (.inl 0), some (.inr 0), some (.inr b), some (.inr mm), some (.inr z), o5, o6, o7, o8], [.inr 0, .inr b], (zr τ 5 d))) rfl trivial ?_
          refine ex_c (s_nom_0 (τ := (zr τ 5 d)) (z := b) (by omega)) (is := cod m7_best 75) (L := [some (.inl 0), some (.inr 0), some (.inr b), some (.inr mm), some (.inr z), o5, o6, o7, o8]) (st := []) rfl rfl rfl ?_
          show Ex _ _ (cod m7_best 75, [some (.inl 0), some (.inr 0), some (.inr b), some (.inr mm), some (.inr z), o5, o6, o7, o8], [.inr (b / 4)], (zr τ 5 d)) _ _
          exact ex_r rfl trivial rfl ((by rw [show M = k from by omega, ← hb, ← hd]; first | (rw [if_pos (by omega)]; done) | (rw [if_neg (by omega)]; rfl))))
    · first
      | (exfalso; omega)
      | (
          exact ex_t rfl rfl ((by rw [show M = k from by omega, ← hb, ← hd]; first | (rw [if_pos (by omega)]; done) | (rw [if_neg (by omega)]; rfl))))
  | succ j ih =>
    intro k hk z b mm d o5 o6 o7 o8 hz hb hm hd
    have hS := hI.1
    have hN := hS.n
    have hin := bsb_in hI hB k (by omega)
    have hT5 : Tz d := by rw [hd]; exact bsd_tz hI hB hd0 k (by omega)
    subst hz
    have ho1 := @ocn_in (τ 4) ((k : Int) / 4) ((k : Int) / 2 % 2) 1
    have ho2 := @ocn_in (τ 4) ((k : Int) / 4) ((k : Int) / 2 % 2) (-1)
    have hg1 : (ocn (τ 4) ((k : Int) / 4) ((k : Int) / 2 % 2) 1 = 1 ∨ ocn (τ 4) ((k : Int) / 4) ((k : Int) / 2 % 2) 1 = 2 ∨ ocn (τ 4) ((k : Int) / 4) ((k : Int) / 2 % 2) 1 = 3) → -2 ≤ gnb (τ 4) ((k : Int) / 4) ((k : Int) / 2 % 2) 1 ∧ gnb (τ 4) ((k : Int) / 4) ((k : Int) / 2 % 2) 1 ≤ 2 := fun q => gnb_in hI (by omega) (by omega) (Or.inl rfl) (ocn_mv q) hB
    have hg2 : (ocn (τ 4) ((k : Int) / 4) ((k : Int) / 2 % 2) (-1) = 1 ∨ ocn (τ 4) ((k : Int) / 4) ((k : Int) / 2 % 2) (-1) = 2 ∨ ocn (τ 4) ((k : Int) / 4) ((k : Int) / 2 % 2) (-1) = 3) → -2 ≤ gnb (τ 4) ((k : Int) / 4) ((k : Int) / 2 % 2) (-1) ∧ gnb (τ 4) ((k : Int) / 4) ((k : Int) / 2 % 2) (-1) ≤ 2 := fun q => gnb_in hI (by omega) (by omega) (Or.inr rfl) (ocn_mv q) hB
    have hs1 : 1 - (k : Int) % 2 = 1 → stp (k : Int) = 1 := fun q => if_pos q
    have hs2 : ¬ 1 - (k : Int) % 2 = 1 → stp (k : Int) = -1 := fun q => if_neg q
    refine ex_k 5 (P := none) (g := (cod m7_best 20, [some (.inl 0), some (.inr 0), some (.inr b), some (.inr mm), some (.inr (k : Int)), o5, o6, o7, o8], [.inr 7, .inl 1, .inr 4, .inr (k : Int)], (zr τ 5 d))) rfl trivial ?_
    refine ex_c (s_total (τ := (zr τ 5 d)) (w := 7) (Or.inl ⟨rfl, rfl⟩) (by omega)) (is := cod m7_best 21) (L := [some (.inl 0), some (.inr 0), some (.inr b), some (.inr mm), some (.inr (k : Int)), o5, o6, o7, o8]) (st := [.inr 4, .inr (k : Int)]) rfl rfl rfl ?_
    show Ex _ _ (cod m7_best 21, [some (.inl 0), some (.inr 0), some (.inr b), some (.inr mm), some (.inr (k : Int)), o5, o6, o7, o8], [.inr (cel (τ 4) 107), .inr 4, .inr (k : Int)], (zr τ 5 d)) _ _
    refine ex_k 1 (P := none) (g := (cod m7_best 22, [some (.inl 0), some (.inr 0), some (.inr b), some (.inr mm), some (.inr (k : Int)), o5, o6, o7, o8], [.inr (4 * (cel (τ 4) 107)), .inr (k : Int)], (zr τ 5 d))) rfl trivial ?_
    refine ex_b (P := (4 * (cel (τ 4) 107)) ≤ (k : Int)) (ct := (cod m7_best 66, [some (.inl 0), some (.inr 0), some (.inr b), some (.inr mm), some (.inr (k : Int)), o5, o6, o7, o8], [], (zr τ 5 d))) (cf := (cod m7_best 23, [some (.inl 0), some (.inr 0), some (.inr b), some (.inr mm), some (.inr (k : Int)), o5, o6, o7, o8], [], (zr τ 5 d))) rfl ⟨⟨by omega, by omega⟩, ⟨by omega, by omega⟩⟩ (fun hh => absurd hh (by omega)) (fun _ => ?_)
    refine ex_k 2 (P := none) (g := (cod m7_best 25, [some (.inl 0), some (.inr 0), some (.inr b), some (.inr mm), some (.inr (k : Int)), o5, o6, o7, o8], [.inr 0, .inr (k : Int)], (zr τ 5 d))) rfl trivial ?_
    refine ex_c (s_nom_0 (τ := (zr τ 5 d)) (z := (k : Int)) (by omega)) (is := cod m7_best 26) (L := [some (.inl 0), some (.inr 0), some (.inr b), some (.inr mm), some (.inr (k : Int)), o5, o6, o7, o8]) (st := []) rfl rfl rfl ?_
    show Ex _ _ (cod m7_best 26, [some (.inl 0), some (.inr 0), some (.inr b), some (.inr mm), some (.inr (k : Int)), o5, o6, o7, o8], [.inr ((k : Int) / 4)], (zr τ 5 d)) _ _
    refine ex_k 3 (P := none) (g := (cod m7_best 29, [some (.inl 0), some (.inr 0), some (.inr b), some (.inr mm), some (.inr (k : Int)), some (.inr ((k : Int) / 4)), o6, o7, o8], [.inr 1, .inr (k : Int)], (zr τ 5 d))) rfl trivial ?_
    refine ex_c (s_nom_1 (τ := (zr τ 5 d)) (z := (k : Int)) (by omega)) (is := cod m7_best 30) (L := [some (.inl 0), some (.inr 0), some (.inr b), some (.inr mm), some (.inr (k : Int)), some (.inr ((k : Int) / 4)), o6, o7, o8]) (st := []) rfl rfl rfl ?_
    show Ex _ _ (cod m7_best 30, [some (.inl 0), some (.inr 0), some (.inr b), some (.inr mm), some (.inr (k : Int)), some (.inr ((k : Int) / 4)), o6, o7, o8], [.inr ((k : Int) / 2 % 2)], (zr τ 5 d)) _ _
    refine ex_k 3 (P := none) (g := (cod m7_best 33, [some (.inl 0), some (.inr 0), some (.inr b), some (.inr mm), some (.inr (k : Int)), some (.inr ((k : Int) / 4)), some (.inr ((k : Int) / 2 % 2)), o7, o8], [.inr 2, .inr (k : Int)], (zr τ 5 d))) rfl trivial ?_
    refine ex_c (s_nom_2 (τ := (zr τ 5 d)) (z := (k : Int)) (by omega)) (is := cod m7_best 34) (L := [some (.inl 0), some (.inr 0), some (.inr b), some (.inr mm), some (.inr (k : Int)), some (.inr ((k : Int) / 4)), some (.inr ((k : Int) / 2 % 2)), o7, o8]) (st := []) rfl rfl rfl ?_
    show Ex _ _ (cod m7_best 34, [some (.inl 0), some (.inr 0), some (.inr b), some (.inr mm), some (.inr (k : Int)), some (.inr ((k : Int) / 4)), some (.inr ((k : Int) / 2 % 2)), o7, o8], [.inr (1 - (k : Int) % 2)], (zr τ 5 d)) _ _
    refine ex_k 1 (P := none) (g := (cod m7_best 35, [some (.inl 0), some (.inr 0), some (.inr b), some (.inr mm), some (.inr (k : Int)), some (.inr ((k : Int) / 4)), some (.inr ((k : Int) / 2 % 2)), o7, o8], [.inr 1, .inr (1 - (k : Int) % 2)], (zr τ 5 d))) rfl trivial ?_
    refine ex_b (P := ¬ (1 - (k : Int) % 2) = 1) (ct := (cod m7_best 38, [some (.inl 0), some (.inr 0), some (.inr b), some (.inr mm), some (.inr (k : Int)), some (.inr ((k : Int) / 4)), some (.inr ((k : Int) / 2 % 2)), o7, o8], [], (zr τ 5 d))) (cf := (cod m7_best 36, [some (.inl 0), some (.inr 0), some (.inr b), some (.inr mm), some (.inr (k : Int)), some (.inr ((k : Int) / 4)), some (.inr ((k : Int) / 2 % 2)), o7, o8], [], (zr τ 5 d))) rfl ⟨⟨by omega, by omega⟩, ⟨by decide, by decide⟩⟩ (fun h2 => ?_) (fun h2 => ?_)
    · first
      | (exfalso; omega)
      | (
          refine ex_k 1 (P := none) (g := (cod m7_best 39, [some (.inl 0), some (.inr 0), some (.inr b), some (.inr mm), some (.inr (k : Int)), some (.inr ((k : Int) / 4)), some (.inr ((k : Int) / 2 % 2)), o7, o8], [.inr 0], (zr τ 5 d))) rfl trivial ?_
          refine ex_c (s_stepTo (τ := (zr τ 5 d)) (z := 0) ⟨by omega, by omega⟩) (is := cod m7_best 40) (L := [some (.inl 0), some (.inr 0), some (.inr b), some (.inr mm), some (.inr (k : Int)), some (.inr ((k : Int) / 4)), some (.inr ((k : Int) / 2 % 2)), o7, o8]) (st := []) rfl rfl rfl ?_
          show Ex _ _ (cod m7_best 40, [some (.inl 0), some (.inr 0), some (.inr b), some (.inr mm), some (.inr (k : Int)), some (.inr ((k : Int) / 4)), some (.inr ((k : Int) / 2 % 2)), o7, o8], [.inr (-1)], (zr τ 5 d)) _ _
          refine ex_k 6 (P := none) (g := (cod m7_best 46, [some (.inl 0), some (.inr 0), some (.inr b), some (.inr mm), some (.inr (k : Int)), some (.inr ((k : Int) / 4)), some (.inr ((k : Int) / 2 % 2)), some (.inr (-1)), o8], [.inr (-1), .inr ((k : Int) / 2 % 2), .inr ((k : Int) / 4), .inl 7], (zr τ 5 d))) rfl trivial ?_
          refine ex_c (s_outcomeNow (τ := (zr τ 5 d)) (f := (k : Int) / 4) (r := (k : Int) / 2 % 2) (s := (-1)) (Or.inl ⟨rfl, rfl, rfl⟩) (by omega) (by omega) (by omega) hS.cw) (is := cod m7_best 47) (L := [some (.inl 0), some (.inr 0), some (.inr b), some (.inr mm), some (.inr (k : Int)), some (.inr ((k : Int) / 4)), some (.inr ((k : Int) / 2 % 2)), some (.inr (-1)), o8]) (st := []) rfl rfl rfl ?_
          show Ex _ _ (cod m7_best 47, [some (.inl 0), some (.inr 0), some (.inr b), some (.inr mm), some (.inr (k : Int)), some (.inr ((k : Int) / 4)), some (.inr ((k : Int) / 2 % 2)), some (.inr (-1)), o8], [.inr (ocn (τ 4) ((k : Int) / 4) ((k : Int) / 2 % 2) (-1))], (zr τ 5 d)) _ _
          refine ex_c (s_isMove (τ := (zr τ 5 d)) (z := ocn (τ 4) ((k : Int) / 4) ((k : Int) / 2 % 2) (-1)) ⟨by omega, by omega⟩) (is := cod m7_best 48) (L := [some (.inl 0), some (.inr 0), some (.inr b), some (.inr mm), some (.inr (k : Int)), some (.inr ((k : Int) / 4)), some (.inr ((k : Int) / 2 % 2)), some (.inr (-1)), o8]) (st := []) rfl rfl rfl ?_
          show Ex _ _ (cod m7_best 48, [some (.inl 0), some (.inr 0), some (.inr b), some (.inr mm), some (.inr (k : Int)), some (.inr ((k : Int) / 4)), some (.inr ((k : Int) / 2 % 2)), some (.inr (-1)), o8], [.inr (b2 ((ocn (τ 4) ((k : Int) / 4) ((k : Int) / 2 % 2) (-1)) = 1 ∨ (ocn (τ 4) ((k : Int) / 4) ((k : Int) / 2 % 2) (-1)) = 2 ∨ (ocn (τ 4) ((k : Int) / 4) ((k : Int) / 2 % 2) (-1)) = 3))], (zr τ 5 d)) _ _
          refine ex_b (P := (b2 ((ocn (τ 4) ((k : Int) / 4) ((k : Int) / 2 % 2) (-1)) = 1 ∨ (ocn (τ 4) ((k : Int) / 4) ((k : Int) / 2 % 2) (-1)) = 2 ∨ (ocn (τ 4) ((k : Int) / 4) ((k : Int) / 2 % 2) (-1)) = 3)) = 0) (ct := (cod m7_best 64, [some (.inl 0), some (.inr 0), some (.inr b), some (.inr mm), some (.inr (k : Int)), some (.inr ((k : Int) / 4)), some (.inr ((k : Int) / 2 % 2)), some (.inr (-1)), o8], [], (zr τ 5 d))) (cf := (cod m7_best 49, [some (.inl 0), some (.inr 0), some (.inr b), some (.inr mm), some (.inr (k : Int)), some (.inr ((k : Int) / 4)), some (.inr ((k : Int) / 2 % 2)), some (.inr (-1)), o8], [], (zr τ 5 d))) rfl b2_rng (fun h3 => ?_) (fun h3 => ?_)
          · first
            | (exfalso; have h3 := b2_e0 h3; omega)
            | (
                have h3 := b2_e0 h3
                refine ex_k 2 (P := none) (g := (cod m7_best 15, [some (.inl 0), some (.inr 0), some (.inr b), some (.inr mm), some (.inr ((k : Int) + 1)), some (.inr ((k : Int) / 4)), some (.inr ((k : Int) / 2 % 2)), some (.inr (-1)), o8], [], (zr τ 5 d))) rfl trivial ?_
                exact ih (k + 1) (by omega) _ _ _ _ _ _ _ _ rfl (by (first | rw [bsb_t (hs1 (by omega)) (by omega) (by omega)] | rw [bsb_t (hs2 (by omega)) (by omega) (by omega)] | rw [bsb_f (hs1 (by omega)) (by omega) (by omega)] | rw [bsb_f (hs2 (by omega)) (by omega) (by omega)] | rw [bsb_n (hs1 (by omega)) (by omega)] | rw [bsb_n (hs2 (by omega)) (by omega)]) <;> (first | rfl | exact hb)) (by (first | rw [bsb_t (hs1 (by omega)) (by omega) (by omega)] | rw [bsb_t (hs2 (by omega)) (by omega) (by omega)] | rw [bsb_f (hs1 (by omega)) (by omega) (by omega)] | rw [bsb_f (hs2 (by omega)) (by omega) (by omega)] | rw [bsb_n (hs1 (by omega)) (by omega)] | rw [bsb_n (hs2 (by omega)) (by omega)]) <;> (first | rfl | exact hm)) (by (first | rw [bsd_t (hs1 (by omega)) (by omega)] | rw [bsd_t (hs2 (by omega)) (by omega)] | rw [bsd_n (hs1 (by omega)) (by omega)] | rw [bsd_n (hs2 (by omega)) (by omega)]) <;> (first | rfl | exact hd)))
          · first
            | (exfalso; have h3 := b2_n0 h3; omega)
            | (
                have h3 := b2_n0 h3
                refine ex_k 4 (P := none) (g := (cod m7_best 53, [some (.inl 0), some (.inr 0), some (.inr b), some (.inr mm), some (.inr (k : Int)), some (.inr ((k : Int) / 4)), some (.inr ((k : Int) / 2 % 2)), some (.inr (-1)), o8], [.inr (-1), .inr ((k : Int) / 2 % 2), .inr ((k : Int) / 4), .inl 0], (zr τ 5 d))) rfl trivial ?_
                refine ex_c (s_gainBy (τ := (zr τ 5 d)) (f := (k : Int) / 4) (r := (k : Int) / 2 % 2) (s := (-1)) hI hB hT5 (show 0 ≤ ((k : Int) / 4) ∧ ((k : Int) / 4) < cel (τ 4) 107 by omega) (by omega) (by omega) (ocn_mv (show ocn (τ 4) ((k : Int) / 4) ((k : Int) / 2 % 2) (-1) = 1 ∨ ocn (τ 4) ((k : Int) / 4) ((k : Int) / 2 % 2) (-1) = 2 ∨ ocn (τ 4) ((k : Int) / 4) ((k : Int) / 2 % 2) (-1) = 3 by omega))) (is := cod m7_best 54) (L := [some (.inl 0), some (.inr 0), some (.inr b), some (.inr mm), some (.inr (k : Int)), some (.inr ((k : Int) / 4)), some (.inr ((k : Int) / 2 % 2)), some (.inr (-1)), o8]) (st := []) rfl rfl rfl ?_
                show Ex _ _ (cod m7_best 54, [some (.inl 0), some (.inr 0), some (.inr b), some (.inr mm), some (.inr (k : Int)), some (.inr ((k : Int) / 4)), some (.inr ((k : Int) / 2 % 2)), some (.inr (-1)), o8], [.inr (gnb (τ 4) ((k : Int) / 4) ((k : Int) / 2 % 2) (-1))], (zr (zr τ 5 d) 5 (mkm (τ 4) ((k : Int) / 4) ((k : Int) / 2 % 2) (-1)))) _ _
                rw [zr_zr]
                refine ex_k 2 (P := none) (g := (cod m7_best 56, [some (.inl 0), some (.inr 0), some (.inr b), some (.inr mm), some (.inr (k : Int)), some (.inr ((k : Int) / 4)), some (.inr ((k : Int) / 2 % 2)), some (.inr (-1)), some (.inr (gnb (τ 4) ((k : Int) / 4) ((k : Int) / 2 % 2) (-1)))], [.inr b], (zr τ 5 (mkm (τ 4) ((k : Int) / 4) ((k : Int) / 2 % 2) (-1))))) rfl trivial ?_
                refine ex_b (P := b < 0) (ct := (cod m7_best 60, [some (.inl 0), some (.inr 0), some (.inr b), some (.inr mm), some (.inr (k : Int)), some (.inr ((k : Int) / 4)), some (.inr ((k : Int) / 2 % 2)), some (.inr (-1)), some (.inr (gnb (τ 4) ((k : Int) / 4) ((k : Int) / 2 % 2) (-1)))], [], (zr τ 5 (mkm (τ 4) ((k : Int) / 4) ((k : Int) / 2 % 2) (-1))))) (cf := (cod m7_best 57, [some (.inl 0), some (.inr 0), some (.inr b), some (.inr mm), some (.inr (k : Int)), some (.inr ((k : Int) / 4)), some (.inr ((k : Int) / 2 % 2)), some (.inr (-1)), some (.inr (gnb (τ 4) ((k : Int) / 4) ((k : Int) / 2 % 2) (-1)))], [], (zr τ 5 (mkm (τ 4) ((k : Int) / 4) ((k : Int) / 2 % 2) (-1))))) rfl ⟨by omega, by omega⟩ (fun h4 => ?_) (fun h4 => ?_)
                · first
                  | (exfalso; omega)
                  | (
                      refine ex_k 6 (P := none) (g := (cod m7_best 15, [some (.inl 0), some (.inr 0), some (.inr (k : Int)), some (.inr (gnb (τ 4) ((k : Int) / 4) ((k : Int) / 2 % 2) (-1))), some (.inr ((k : Int) + 1)), some (.inr ((k : Int) / 4)), some (.inr ((k : Int) / 2 % 2)), some (.inr (-1)), some (.inr (gnb (τ 4) ((k : Int) / 4) ((k : Int) / 2 % 2) (-1)))], [], (zr τ 5 (mkm (τ 4) ((k : Int) / 4) ((k : Int) / 2 % 2) (-1))))) rfl trivial ?_
                      exact ih (k + 1) (by omega) _ _ _ _ _ _ _ _ rfl (by (first | rw [bsb_t (hs1 (by omega)) (by omega) (by omega)] | rw [bsb_t (hs2 (by omega)) (by omega) (by omega)] | rw [bsb_f (hs1 (by omega)) (by omega) (by omega)] | rw [bsb_f (hs2 (by omega)) (by omega) (by omega)] | rw [bsb_n (hs1 (by omega)) (by omega)] | rw [bsb_n (hs2 (by omega)) (by omega)]) <;> (first | rfl | exact hb)) (by (first | rw [bsb_t (hs1 (by omega)) (by omega) (by omega)] | rw [bsb_t (hs2 (by omega)) (by omega) (by omega)] | rw [bsb_f (hs1 (by omega)) (by omega) (by omega)] | rw [bsb_f (hs2 (by omega)) (by omega) (by omega)] | rw [bsb_n (hs1 (by omega)) (by omega)] | rw [bsb_n (hs2 (by omega)) (by omega)]) <;> (first | rfl | exact hm)) (by (first | rw [bsd_t (hs1 (by omega)) (by omega)] | rw [bsd_t (hs2 (by omega)) (by omega)] | rw [bsd_n (hs1 (by omega)) (by omega)] | rw [bsd_n (hs2 (by omega)) (by omega)]) <;> (first | rfl | exact hd)))
                · first
                  | (exfalso; omega)
                  | (
                      refine ex_k 2 (P := none) (g := (cod m7_best 59, [some (.inl 0), some (.inr 0), some (.inr b), some (.inr mm), some (.inr (k : Int)), some (.inr ((k : Int) / 4)), some (.inr ((k : Int) / 2 % 2)), some (.inr (-1)), some (.inr (gnb (τ 4) ((k : Int) / 4) ((k : Int) / 2 % 2) (-1)))], [.inr mm, .inr (gnb (τ 4) ((k : Int) / 4) ((k : Int) / 2 % 2) (-1))], (zr τ 5 (mkm (τ 4) ((k : Int) / 4) ((k : Int) / 2 % 2) (-1))))) rfl trivial ?_
                      refine ex_b (P := (gnb (τ 4) ((k : Int) / 4) ((k : Int) / 2 % 2) (-1)) ≤ mm) (ct := (cod m7_best 64, [some (.inl 0), some (.inr 0), some (.inr b), some (.inr mm), some (.inr (k : Int)), some (.inr ((k : Int) / 4)), some (.inr ((k : Int) / 2 % 2)), some (.inr (-1)), some (.inr (gnb (τ 4) ((k : Int) / 4) ((k : Int) / 2 % 2) (-1)))], [], (zr τ 5 (mkm (τ 4) ((k : Int) / 4) ((k : Int) / 2 % 2) (-1))))) (cf := (cod m7_best 60, [some (.inl 0), some (.inr 0), some (.inr b), some (.inr mm), some (.inr (k : Int)), some (.inr ((k : Int) / 4)), some (.inr ((k : Int) / 2 % 2)), some (.inr (-1)), some (.inr (gnb (τ 4) ((k : Int) / 4) ((k : Int) / 2 % 2) (-1)))], [], (zr τ 5 (mkm (τ 4) ((k : Int) / 4) ((k : Int) / 2 % 2) (-1))))) rfl ⟨⟨by omega, by omega⟩, ⟨by omega, by omega⟩⟩ (fun h5 => ?_) (fun h5 => ?_)
                      · first
                        | (exfalso; omega)
                        | (
                            refine ex_k 2 (P := none) (g := (cod m7_best 15, [some (.inl 0), some (.inr 0), some (.inr b), some (.inr mm), some (.inr ((k : Int) + 1)), some (.inr ((k : Int) / 4)), some (.inr ((k : Int) / 2 % 2)), some (.inr (-1)), some (.inr (gnb (τ 4) ((k : Int) / 4) ((k : Int) / 2 % 2) (-1)))], [], (zr τ 5 (mkm (τ 4) ((k : Int) / 4) ((k : Int) / 2 % 2) (-1))))) rfl trivial ?_
                            exact ih (k + 1) (by omega) _ _ _ _ _ _ _ _ rfl (by (first | rw [bsb_t (hs1 (by omega)) (by omega) (by omega)] | rw [bsb_t (hs2 (by omega)) (by omega) (by omega)] | rw [bsb_f (hs1 (by omega)) (by omega) (by omega)] | rw [bsb_f (hs2 (by omega)) (by omega) (by omega)] | rw [bsb_n (hs1 (by omega)) (by omega)] | rw [bsb_n (hs2 (by omega)) (by omega)]) <;> (first | rfl | exact hb)) (by (first | rw [bsb_t (hs1 (by omega)) (by omega) (by omega)] | rw [bsb_t (hs2 (by omega)) (by omega) (by omega)] | rw [bsb_f (hs1 (by omega)) (by omega) (by omega)] | rw [bsb_f (hs2 (by omega)) (by omega) (by omega)] | rw [bsb_n (hs1 (by omega)) (by omega)] | rw [bsb_n (hs2 (by omega)) (by omega)]) <;> (first | rfl | exact hm)) (by (first | rw [bsd_t (hs1 (by omega)) (by omega)] | rw [bsd_t (hs2 (by omega)) (by omega)] | rw [bsd_n (hs1 (by omega)) (by omega)] | rw [bsd_n (hs2 (by omega)) (by omega)]) <;> (first | rfl | exact hd)))
                      · first
                        | (exfalso; omega)
                        | (
                            refine ex_k 6 (P := none) (g := (cod m7_best 15, [some (.inl 0), some (.inr 0), some (.inr (k : Int)), some (.inr (gnb (τ 4) ((k : Int) / 4) ((k : Int) / 2 % 2) (-1))), some (.inr ((k : Int) + 1)), some (.inr ((k : Int) / 4)), some (.inr ((k : Int) / 2 % 2)), some (.inr (-1)), some (.inr (gnb (τ 4) ((k : Int) / 4) ((k : Int) / 2 % 2) (-1)))], [], (zr τ 5 (mkm (τ 4) ((k : Int) / 4) ((k : Int) / 2 % 2) (-1))))) rfl trivial ?_
                            exact ih (k + 1) (by omega) _ _ _ _ _ _ _ _ rfl (by (first | rw [bsb_t (hs1 (by omega)) (by omega) (by omega)] | rw [bsb_t (hs2 (by omega)) (by omega) (by omega)] | rw [bsb_f (hs1 (by omega)) (by omega) (by omega)] | rw [bsb_f (hs2 (by omega)) (by omega) (by omega)] | rw [bsb_n (hs1 (by omega)) (by omega)] | rw [bsb_n (hs2 (by omega)) (by omega)]) <;> (first | rfl | exact hb)) (by (first | rw [bsb_t (hs1 (by omega)) (by omega) (by omega)] | rw [bsb_t (hs2 (by omega)) (by omega) (by omega)] | rw [bsb_f (hs1 (by omega)) (by omega) (by omega)] | rw [bsb_f (hs2 (by omega)) (by omega) (by omega)] | rw [bsb_n (hs1 (by omega)) (by omega)] | rw [bsb_n (hs2 (by omega)) (by omega)]) <;> (first | rfl | exact hm)) (by (first | rw [bsd_t (hs1 (by omega)) (by omega)] | rw [bsd_t (hs2 (by omega)) (by omega)] | rw [bsd_n (hs1 (by omega)) (by omega)] | rw [bsd_n (hs2 (by omega)) (by omega)]) <;> (first | rfl | exact hd))))))
    · first
      | (exfalso; omega)
      | (
          refine ex_k 2 (P := none) (g := (cod m7_best 39, [some (.inl 0), some (.inr 0), some (.inr b), some (.inr mm), some (.inr (k : Int)), some (.inr ((k : Int) / 4)), some (.inr ((k : Int) / 2 % 2)), o7, o8], [.inr 1], (zr τ 5 d))) rfl trivial ?_
          refine ex_c (s_stepTo (τ := (zr τ 5 d)) (z := 1) ⟨by omega, by omega⟩) (is := cod m7_best 40) (L := [some (.inl 0), some (.inr 0), some (.inr b), some (.inr mm), some (.inr (k : Int)), some (.inr ((k : Int) / 4)), some (.inr ((k : Int) / 2 % 2)), o7, o8]) (st := []) rfl rfl rfl ?_
          show Ex _ _ (cod m7_best 40, [some (.inl 0), some (.inr 0), some (.inr b), some (.inr mm), some (.inr (k : Int)), some (.inr ((k : Int) / 4)), some (.inr ((k : Int) / 2 % 2)), o7, o8], [.inr 1], (zr τ 5 d)) _ _
          refine ex_k 6 (P := none) (g := (cod m7_best 46, [some (.inl 0), some (.inr 0), some (.inr b), some (.inr mm), some (.inr (k : Int)), some (.inr ((k : Int) / 4)), some (.inr ((k : Int) / 2 % 2)), some (.inr 1), o8], [.inr 1, .inr ((k : Int) / 2 % 2), .inr ((k : Int) / 4), .inl 7], (zr τ 5 d))) rfl trivial ?_
          refine ex_c (s_outcomeNow (τ := (zr τ 5 d)) (f := (k : Int) / 4) (r := (k : Int) / 2 % 2) (s := 1) (Or.inl ⟨rfl, rfl, rfl⟩) (by omega) (by omega) (by omega) hS.cw) (is := cod m7_best 47) (L := [some (.inl 0), some (.inr 0), some (.inr b), some (.inr mm), some (.inr (k : Int)), some (.inr ((k : Int) / 4)), some (.inr ((k : Int) / 2 % 2)), some (.inr 1), o8]) (st := []) rfl rfl rfl ?_
          show Ex _ _ (cod m7_best 47, [some (.inl 0), some (.inr 0), some (.inr b), some (.inr mm), some (.inr (k : Int)), some (.inr ((k : Int) / 4)), some (.inr ((k : Int) / 2 % 2)), some (.inr 1), o8], [.inr (ocn (τ 4) ((k : Int) / 4) ((k : Int) / 2 % 2) 1)], (zr τ 5 d)) _ _
          refine ex_c (s_isMove (τ := (zr τ 5 d)) (z := ocn (τ 4) ((k : Int) / 4) ((k : Int) / 2 % 2) 1) ⟨by omega, by omega⟩) (is := cod m7_best 48) (L := [some (.inl 0), some (.inr 0), some (.inr b), some (.inr mm), some (.inr (k : Int)), some (.inr ((k : Int) / 4)), some (.inr ((k : Int) / 2 % 2)), some (.inr 1), o8]) (st := []) rfl rfl rfl ?_
          show Ex _ _ (cod m7_best 48, [some (.inl 0), some (.inr 0), some (.inr b), some (.inr mm), some (.inr (k : Int)), some (.inr ((k : Int) / 4)), some (.inr ((k : Int) / 2 % 2)), some (.inr 1), o8], [.inr (b2 ((ocn (τ 4) ((k : Int) / 4) ((k : Int) / 2 % 2) 1) = 1 ∨ (ocn (τ 4) ((k : Int) / 4) ((k : Int) / 2 % 2) 1) = 2 ∨ (ocn (τ 4) ((k : Int) / 4) ((k : Int) / 2 % 2) 1) = 3))], (zr τ 5 d)) _ _
          refine ex_b (P := (b2 ((ocn (τ 4) ((k : Int) / 4) ((k : Int) / 2 % 2) 1) = 1 ∨ (ocn (τ 4) ((k : Int) / 4) ((k : Int) / 2 % 2) 1) = 2 ∨ (ocn (τ 4) ((k : Int) / 4) ((k : Int) / 2 % 2) 1) = 3)) = 0) (ct := (cod m7_best 64, [some (.inl 0), some (.inr 0), some (.inr b), some (.inr mm), some (.inr (k : Int)), some (.inr ((k : Int) / 4)), some (.inr ((k : Int) / 2 % 2)), some (.inr 1), o8], [], (zr τ 5 d))) (cf := (cod m7_best 49, [some (.inl 0), some (.inr 0), some (.inr b), some (.inr mm), some (.inr (k : Int)), some (.inr ((k : Int) / 4)), some (.inr ((k : Int) / 2 % 2)), some (.inr 1), o8], [], (zr τ 5 d))) rfl b2_rng (fun h6 => ?_) (fun h6 => ?_)
          · first
            | (exfalso; have h6 := b2_e0 h6; omega)
            | (
                have h6 := b2_e0 h6
                refine ex_k 2 (P := none) (g := (cod m7_best 15, [some (.inl 0), some (.inr 0), some (.inr b), some (.inr mm), some (.inr ((k : Int) + 1)), some (.inr ((k : Int) / 4)), some (.inr ((k : Int) / 2 % 2)), some (.inr 1), o8], [], (zr τ 5 d))) rfl trivial ?_
                exact ih (k + 1) (by omega) _ _ _ _ _ _ _ _ rfl (by (first | rw [bsb_t (hs1 (by omega)) (by omega) (by omega)] | rw [bsb_t (hs2 (by omega)) (by omega) (by omega)] | rw [bsb_f (hs1 (by omega)) (by omega) (by omega)] | rw [bsb_f (hs2 (by omega)) (by omega) (by omega)] | rw [bsb_n (hs1 (by omega)) (by omega)] | rw [bsb_n (hs2 (by omega)) (by omega)]) <;> (first | rfl | exact hb)) (by (first | rw [bsb_t (hs1 (by omega)) (by omega) (by omega)] | rw [bsb_t (hs2 (by omega)) (by omega) (by omega)] | rw [bsb_f (hs1 (by omega)) (by omega) (by omega)] | rw [bsb_f (hs2 (by omega)) (by omega) (by omega)] | rw [bsb_n (hs1 (by omega)) (by omega)] | rw [bsb_n (hs2 (by omega)) (by omega)]) <;> (first | rfl | exact hm)) (by (first | rw [bsd_t (hs1 (by omega)) (by omega)] | rw [bsd_t (hs2 (by omega)) (by omega)] | rw [bsd_n (hs1 (by omega)) (by omega)] | rw [bsd_n (hs2 (by omega)) (by omega)]) <;> (first | rfl | exact hd)))
          · first
            | (exfalso; have h6 := b2_n0 h6; omega)
            | (
                have h6 := b2_n0 h6
                refine ex_k 4 (P := none) (g := (cod m7_best 53, [some (.inl 0), some (.inr 0), some (.inr b), some (.inr mm), some (.inr (k : Int)), some (.inr ((k : Int) / 4)), some (.inr ((k : Int) / 2 % 2)), some (.inr 1), o8], [.inr 1, .inr ((k : Int) / 2 % 2), .inr ((k : Int) / 4), .inl 0], (zr τ 5 d))) rfl trivial ?_
                refine ex_c (s_gainBy (τ := (zr τ 5 d)) (f := (k : Int) / 4) (r := (k : Int) / 2 % 2) (s := 1) hI hB hT5 (show 0 ≤ ((k : Int) / 4) ∧ ((k : Int) / 4) < cel (τ 4) 107 by omega) (by omega) (by omega) (ocn_mv (show ocn (τ 4) ((k : Int) / 4) ((k : Int) / 2 % 2) 1 = 1 ∨ ocn (τ 4) ((k : Int) / 4) ((k : Int) / 2 % 2) 1 = 2 ∨ ocn (τ 4) ((k : Int) / 4) ((k : Int) / 2 % 2) 1 = 3 by omega))) (is := cod m7_best 54) (L := [some (.inl 0), some (.inr 0), some (.inr b), some (.inr mm), some (.inr (k : Int)), some (.inr ((k : Int) / 4)), some (.inr ((k : Int) / 2 % 2)), some (.inr 1), o8]) (st := []) rfl rfl rfl ?_
                show Ex _ _ (cod m7_best 54, [some (.inl 0), some (.inr 0), some (.inr b), some (.inr mm), some (.inr (k : Int)), some (.inr ((k : Int) / 4)), some (.inr ((k : Int) / 2 % 2)), some (.inr 1), o8], [.inr (gnb (τ 4) ((k : Int) / 4) ((k : Int) / 2 % 2) 1)], (zr (zr τ 5 d) 5 (mkm (τ 4) ((k : Int) / 4) ((k : Int) / 2 % 2) 1))) _ _
                rw [zr_zr]
                refine ex_k 2 (P := none) (g := (cod m7_best 56, [some (.inl 0), some (.inr 0), some (.inr b), some (.inr mm), some (.inr (k : Int)), some (.inr ((k : Int) / 4)), some (.inr ((k : Int) / 2 % 2)), some (.inr 1), some (.inr (gnb (τ 4) ((k : Int) / 4) ((k : Int) / 2 % 2) 1))], [.inr b], (zr τ 5 (mkm (τ 4) ((k : Int) / 4) ((k : Int) / 2 % 2) 1)))) rfl trivial ?_
                refine ex_b (P := b < 0) (ct := (cod m7_best 60, [some (.inl 0), some (.inr 0), some (.inr b), some (.inr mm), some (.inr (k : Int)), some (.inr ((k : Int) / 4)), some (.inr ((k : Int) / 2 % 2)), some (.inr 1), some (.inr (gnb (τ 4) ((k : Int) / 4) ((k : Int) / 2 % 2) 1))], [], (zr τ 5 (mkm (τ 4) ((k : Int) / 4) ((k : Int) / 2 % 2) 1)))) (cf := (cod m7_best 57, [some (.inl 0), some (.inr 0), some (.inr b), some (.inr mm), some (.inr (k : Int)), some (.inr ((k : Int) / 4)), some (.inr ((k : Int) / 2 % 2)), some (.inr 1), some (.inr (gnb (τ 4) ((k : Int) / 4) ((k : Int) / 2 % 2) 1))], [], (zr τ 5 (mkm (τ 4) ((k : Int) / 4) ((k : Int) / 2 % 2) 1)))) rfl ⟨by omega, by omega⟩ (fun h7 => ?_) (fun h7 => ?_)
                · first
                  | (exfalso; omega)
                  | (
                      refine ex_k 6 (P := none) (g := (cod m7_best 15, [some (.inl 0), some (.inr 0), some (.inr (k : Int)), some (.inr (gnb (τ 4) ((k : Int) / 4) ((k : Int) / 2 % 2) 1)), some (.inr ((k : Int) + 1)), some (.inr ((k : Int) / 4)), some (.inr ((k : Int) / 2 % 2)), some (.inr 1), some (.inr (gnb (τ 4) ((k : Int) / 4) ((k : Int) / 2 % 2) 1))], [], (zr τ 5 (mkm (τ 4) ((k : Int) / 4) ((k : Int) / 2 % 2) 1)))) rfl trivial ?_
                      exact ih (k + 1) (by omega) _ _ _ _ _ _ _ _ rfl (by (first | rw [bsb_t (hs1 (by omega)) (by omega) (by omega)] | rw [bsb_t (hs2 (by omega)) (by omega) (by omega)] | rw [bsb_f (hs1 (by omega)) (by omega) (by omega)] | rw [bsb_f (hs2 (by omega)) (by omega) (by omega)] | rw [bsb_n (hs1 (by omega)) (by omega)] | rw [bsb_n (hs2 (by omega)) (by omega)]) <;> (first | rfl | exact hb)) (by (first | rw [bsb_t (hs1 (by omega)) (by omega) (by omega)] | rw [bsb_t (hs2 (by omega)) (by omega) (by omega)] | rw [bsb_f (hs1 (by omega)) (by omega) (by omega)] | rw [bsb_f (hs2 (by omega)) (by omega) (by omega)] | rw [bsb_n (hs1 (by omega)) (by omega)] | rw [bsb_n (hs2 (by omega)) (by omega)]) <;> (first | rfl | exact hm)) (by (first | rw [bsd_t (hs1 (by omega)) (by omega)] | rw [bsd_t (hs2 (by omega)) (by omega)] | rw [bsd_n (hs1 (by omega)) (by omega)] | rw [bsd_n (hs2 (by omega)) (by omega)]) <;> (first | rfl | exact hd)))
                · first
                  | (exfalso; omega)
                  | (
                      refine ex_k 2 (P := none) (g := (cod m7_best 59, [some (.inl 0), some (.inr 0), some (.inr b), some (.inr mm), some (.inr (k : Int)), some (.inr ((k : Int) / 4)), some (.inr ((k : Int) / 2 % 2)), some (.inr 1), some (.inr (gnb (τ 4) ((k : Int) / 4) ((k : Int) / 2 % 2) 1))], [.inr mm, .inr (gnb (τ 4) ((k : Int) / 4) ((k : Int) / 2 % 2) 1)], (zr τ 5 (mkm (τ 4) ((k : Int) / 4) ((k : Int) / 2 % 2) 1)))) rfl trivial ?_
                      refine ex_b (P := (gnb (τ 4) ((k : Int) / 4) ((k : Int) / 2 % 2) 1) ≤ mm) (ct := (cod m7_best 64, [some (.inl 0), some (.inr 0), some (.inr b), some (.inr mm), some (.inr (k : Int)), some (.inr ((k : Int) / 4)), some (.inr ((k : Int) / 2 % 2)), some (.inr 1), some (.inr (gnb (τ 4) ((k : Int) / 4) ((k : Int) / 2 % 2) 1))], [], (zr τ 5 (mkm (τ 4) ((k : Int) / 4) ((k : Int) / 2 % 2) 1)))) (cf := (cod m7_best 60, [some (.inl 0), some (.inr 0), some (.inr b), some (.inr mm), some (.inr (k : Int)), some (.inr ((k : Int) / 4)), some (.inr ((k : Int) / 2 % 2)), some (.inr 1), some (.inr (gnb (τ 4) ((k : Int) / 4) ((k : Int) / 2 % 2) 1))], [], (zr τ 5 (mkm (τ 4) ((k : Int) / 4) ((k : Int) / 2 % 2) 1)))) rfl ⟨⟨by omega, by omega⟩, ⟨by omega, by omega⟩⟩ (fun h8 => ?_) (fun h8 => ?_)
                      · first
                        | (exfalso; omega)
                        | (
                            refine ex_k 2 (P := none) (g := (cod m7_best 15, [some (.inl 0), some (.inr 0), some (.inr b), some (.inr mm), some (.inr ((k : Int) + 1)), some (.inr ((k : Int) / 4)), some (.inr ((k : Int) / 2 % 2)), some (.inr 1), some (.inr (gnb (τ 4) ((k : Int) / 4) ((k : Int) / 2 % 2) 1))], [], (zr τ 5 (mkm (τ 4) ((k : Int) / 4) ((k : Int) / 2 % 2) 1)))) rfl trivial ?_
                            exact ih (k + 1) (by omega) _ _ _ _ _ _ _ _ rfl (by (first | rw [bsb_t (hs1 (by omega)) (by omega) (by omega)] | rw [bsb_t (hs2 (by omega)) (by omega) (by omega)] | rw [bsb_f (hs1 (by omega)) (by omega) (by omega)] | rw [bsb_f (hs2 (by omega)) (by omega) (by omega)] | rw [bsb_n (hs1 (by omega)) (by omega)] | rw [bsb_n (hs2 (by omega)) (by omega)]) <;> (first | rfl | exact hb)) (by (first | rw [bsb_t (hs1 (by omega)) (by omega) (by omega)] | rw [bsb_t (hs2 (by omega)) (by omega) (by omega)] | rw [bsb_f (hs1 (by omega)) (by omega) (by omega)] | rw [bsb_f (hs2 (by omega)) (by omega) (by omega)] | rw [bsb_n (hs1 (by omega)) (by omega)] | rw [bsb_n (hs2 (by omega)) (by omega)]) <;> (first | rfl | exact hm)) (by (first | rw [bsd_t (hs1 (by omega)) (by omega)] | rw [bsd_t (hs2 (by omega)) (by omega)] | rw [bsd_n (hs1 (by omega)) (by omega)] | rw [bsd_n (hs2 (by omega)) (by omega)]) <;> (first | rfl | exact hd)))
                      · first
                        | (exfalso; omega)
                        | (
                            refine ex_k 6 (P := none) (g := (cod m7_best 15, [some (.inl 0), some (.inr 0), some (.inr (k : Int)), some (.inr (gnb (τ 4) ((k : Int) / 4) ((k : Int) / 2 % 2) 1)), some (.inr ((k : Int) + 1)), some (.inr ((k : Int) / 4)), some (.inr ((k : Int) / 2 % 2)), some (.inr 1), some (.inr (gnb (τ 4) ((k : Int) / 4) ((k : Int) / 2 % 2) 1))], [], (zr τ 5 (mkm (τ 4) ((k : Int) / 4) ((k : Int) / 2 % 2) 1)))) rfl trivial ?_
                            exact ih (k + 1) (by omega) _ _ _ _ _ _ _ _ rfl (by (first | rw [bsb_t (hs1 (by omega)) (by omega) (by omega)] | rw [bsb_t (hs2 (by omega)) (by omega) (by omega)] | rw [bsb_f (hs1 (by omega)) (by omega) (by omega)] | rw [bsb_f (hs2 (by omega)) (by omega) (by omega)] | rw [bsb_n (hs1 (by omega)) (by omega)] | rw [bsb_n (hs2 (by omega)) (by omega)]) <;> (first | rfl | exact hb)) (by (first | rw [bsb_t (hs1 (by omega)) (by omega) (by omega)] | rw [bsb_t (hs2 (by omega)) (by omega) (by omega)] | rw [bsb_f (hs1 (by omega)) (by omega) (by omega)] | rw [bsb_f (hs2 (by omega)) (by omega) (by omega)] | rw [bsb_n (hs1 (by omega)) (by omega)] | rw [bsb_n (hs2 (by omega)) (by omega)]) <;> (first | rfl | exact hm)) (by (first | rw [bsd_t (hs1 (by omega)) (by omega)] | rw [bsd_t (hs2 (by omega)) (by omega)] | rw [bsd_n (hs1 (by omega)) (by omega)] | rw [bsd_n (hs2 (by omega)) (by omega)]) <;> (first | rfl | exact hd))))))
theorem c_best_0 {τ : SZ} {B : Int} (hI : Iv B (τ 4)) (hB : B + 7 ≤ 100000000) (hT5 : Tz (τ 5)) : RZ 8 m7_best [.inl 0, .inr 0] τ (if (bsb (τ 4) (4 * cel (τ 4) 107).toNat).1 < 0 then .inr ("java/util/NoSuchElementException", zr τ 5 (bsd (τ 4) (τ 5) (4 * cel (τ 4) 107).toNat)) else .inl (some (.inr (if (0 : Int) = 0 then (bsb (τ 4) (4 * cel (τ 4) 107).toNat).1 / 4 else if (0 : Int) = 1 then (bsb (τ 4) (4 * cel (τ 4) 107).toNat).1 / 2 % 2 else 1 - (bsb (τ 4) (4 * cel (τ 4) 107).toNat).1 % 2)), zr τ 5 (bsd (τ 4) (τ 5) (4 * cel (τ 4) 107).toNat))) := by
  have hS := hI.1
  have hN := hS.n
  refine Ex.call ?_ rfl rfl
  show Ex _ _ (cod m7_best 0, [some (.inl 0), some (.inr 0), none, none, none, none, none, none, none], [], τ) _ _
  refine ex_k 1 (P := none) (g := (cod m7_best 1, [some (.inl 0), some (.inr 0), none, none, none, none, none, none, none], [.inr 0], τ)) rfl trivial ?_
  refine ex_b (P := 0 < 0) (ct := (cod m7_best 5, [some (.inl 0), some (.inr 0), none, none, none, none, none, none, none], [], τ)) (cf := (cod m7_best 2, [some (.inl 0), some (.inr 0), none, none, none, none, none, none, none], [], τ)) rfl ⟨by decide, by decide⟩ (fun hh => absurd hh (by decide)) (fun _ => ?_)
  refine ex_k 2 (P := none) (g := (cod m7_best 4, [some (.inl 0), some (.inr 0), none, none, none, none, none, none, none], [.inr 2, .inr 0], τ)) rfl trivial ?_
  refine ex_b (P := 0 ≤ 2) (ct := (cod m7_best 9, [some (.inl 0), some (.inr 0), none, none, none, none, none, none, none], [], τ)) (cf := (cod m7_best 5, [some (.inl 0), some (.inr 0), none, none, none, none, none, none, none], [], τ)) rfl ⟨⟨by decide, by decide⟩, ⟨by decide, by decide⟩⟩ (fun _ => ?_) (fun hh => absurd (by decide) hh)
  refine ex_k 6 (P := none) (g := (cod m7_best 15, [some (.inl 0), some (.inr 0), some (.inr (-1)), some (.inr 0), some (.inr 0), none, none, none, none], [], τ)) rfl trivial ?_
  have q := lp_best_0 (τ := τ) (d0 := τ 5) (M := (4 * cel (τ 4) 107).toNat) hI hB hT5 (by omega) (4 * cel (τ 4) 107).toNat 0 (by omega) 0 (-1) 0 (τ 5) none none none none rfl rfl rfl rfl
  rw [zr_self] at q
  exact q
theorem lp_best_1 {τ : SZ} {d0 : Nat → Int} {M : Nat} {B : Int} (hI : Iv B (τ 4)) (hB : B + 7 ≤ 100000000) (hd0 : Tz d0) (hM : (M : Int) = 4 * cel (τ 4) 107) : ∀ (j k : Nat), k + j = M → ∀ (z b mm : Int) (d : Nat → Int) (o5 o6 o7 o8 : Option VZ), z = (k : Int) → b = (bsb (τ 4) k).1 → mm = (bsb (τ 4) k).2 → d = bsd (τ 4) d0 k → Ex 7 m7_best (cod m7_best 15, [some (.inl 0), some (.inr 1), some (.inr b), some (.inr mm), some (.inr z), o5, o6, o7, o8], [], (zr τ 5 d)) 0 (if (bsb (τ 4) M).1 < 0 then .inr ("java/util/NoSuchElementException", zr τ 5 (bsd (τ 4) d0 M)) else .inl (some (.inr (if (1 : Int) = 0 then (bsb (τ 4) M).1 / 4 else if (1 : Int) = 1 then (bsb (τ 4) M).1 / 2 % 2 else 1 - (bsb (τ 4) M).1 % 2)), zr τ 5 (bsd (τ 4) d0 M))) := by
  intro j
  induction j with
  | zero =>
    intro k hk z b mm d o5 o6 o7 o8 hz hb hm hd
    have hS := hI.1
    have hN := hS.n
    have hin := bsb_in hI hB k (by omega)
    have hT5 : Tz d := by rw [hd]; exact bsd_tz hI hB hd0 k (by omega)
    refine ex_k 5 (P := none) (g := (cod m7_best 20, [some (.inl 0), some (.inr 1), some (.inr b), some (.inr mm), some (.inr z), o5, o6, o7, o8], [.inr 7, .inl 1, .inr 4, .inr z], (zr τ 5 d))) rfl trivial ?_
    refine ex_c (s_total (τ := (zr τ 5 d)) (w := 7) (Or.inl ⟨rfl, rfl⟩) (by omega)) (is := cod m7_best 21) (L := [some (.inl 0), some (.inr 1), some (.inr b), some (.inr mm), some (.inr z), o5, o6, o7, o8]) (st := [.inr 4, .inr z]) rfl rfl rfl ?_
    show Ex _ _ (cod m7_best 21, [some (.inl 0), some (.inr 1), some (.inr b), some (.inr mm), some (.inr z), o5, o6, o7, o8], [.inr (cel (τ 4) 107), .inr 4, .inr z], (zr τ 5 d)) _ _
    refine ex_k 1 (P := none) (g := (cod m7_best 22, [some (.inl 0), some (.inr 1), some (.inr b), some (.inr mm), some (.inr z), o5, o6, o7, o8], [.inr (4 * (cel (τ 4) 107)), .inr z], (zr τ 5 d))) rfl trivial ?_
    refine ex_b (P := (4 * (cel (τ 4) 107)) ≤ z) (ct := (cod m7_best 66, [some (.inl 0), some (.inr 1), some (.inr b), some (.inr mm), some (.inr z), o5, o6, o7, o8], [], (zr τ 5 d))) (cf := (cod m7_best 23, [some (.inl 0), some (.inr 1), some (.inr b), some (.inr mm), some (.inr z), o5, o6, o7, o8], [], (zr τ 5 d))) rfl ⟨⟨by omega, by omega⟩, ⟨by omega, by omega⟩⟩ (fun _ => ?_) (fun hh => absurd (by omega) hh)
    refine ex_k 1 (P := none) (g := (cod m7_best 67, [some (.inl 0), some (.inr 1), some (.inr b), some (.inr mm), some (.inr z), o5, o6, o7, o8], [.inr b], (zr τ 5 d))) rfl trivial ?_
    refine ex_b (P := 0 ≤ b) (ct := (cod m7_best 72, [some (.inl 0), some (.inr 1), some (.inr b), some (.inr mm), some (.inr z), o5, o6, o7, o8], [], (zr τ 5 d))) (cf := (cod m7_best 68, [some (.inl 0), some (.inr 1), some (.inr b), some (.inr mm), some (.inr z), o5, o6, o7, o8], [], (zr τ 5 d))) rfl ⟨by omega, by omega⟩ (fun h2 => ?_) (fun h2 => ?_)
    · first
      | (exfalso; omega)
      | (
          refine ex_k 2 (P := none) (g := (cod m7_best 74, [some (.inl 0), some (.inr 1), some (.inr b), some (.inr mm), some (.inr z), o5, o6, o7, o8], [.inr 1, .inr b], (zr τ 5 d))) rfl trivial ?_
          refine ex_c (s_nom_1 (τ := (zr τ 5 d)) (z := b) (by omega)) (is := cod m7_best 75) (L := [some (.inl 0), some (.inr 1), some (.inr b), some (.inr mm), some (.inr z), o5, o6, o7, o8]) (st := []) rfl rfl rfl ?_
          show Ex _ _ (cod m7_best 75, [some (.inl 0), some (.inr 1), some (.inr b), some (.inr mm), some (.inr z), o5, o6, o7, o8], [.inr (b / 2 % 2)], (zr τ 5 d)) _ _
          exact ex_r rfl trivial rfl ((by rw [show M = k from by omega, ← hb, ← hd]; first | (rw [if_pos (by omega)]; done) | (rw [if_neg (by omega)]; rfl))))
    · first
      | (exfalso; omega)
      | (
          exact ex_t rfl rfl ((by rw [show M = k from by omega, ← hb, ← hd]; first | (rw [if_pos (by omega)]; done) | (rw [if_neg (by omega)]; rfl))))
  | succ j ih =>
    intro k hk z b mm d o5 o6 o7 o8 hz hb hm hd
    have hS := hI.1
    have hN := hS.n
    have hin := bsb_in hI hB k (by omega)
    have hT5 : Tz d := by rw [hd]; exact bsd_tz hI hB hd0 k (by omega)
    subst hz
    have ho1 := @ocn_in (τ 4) ((k : Int) / 4) ((k : Int) / 2 % 2) 1
    have ho2 := @ocn_in (τ 4) ((k : Int) / 4) ((k : Int) / 2 % 2) (-1)
    have hg1 : (ocn (τ 4) ((k : Int) / 4) ((k : Int) / 2 % 2) 1 = 1 ∨ ocn (τ 4) ((k : Int) / 4) ((k : Int) / 2 % 2) 1 = 2 ∨ ocn (τ 4) ((k : Int) / 4) ((k : Int) / 2 % 2) 1 = 3) → -2 ≤ gnb (τ 4) ((k : Int) / 4) ((k : Int) / 2 % 2) 1 ∧ gnb (τ 4) ((k : Int) / 4) ((k : Int) / 2 % 2) 1 ≤ 2 := fun q => gnb_in hI (by omega) (by omega) (Or.inl rfl) (ocn_mv q) hB
    have hg2 : (ocn (τ 4) ((k : Int) / 4) ((k : Int) / 2 % 2) (-1) = 1 ∨ ocn (τ 4) ((k : Int) / 4) ((k : Int) / 2 % 2) (-1) = 2 ∨ ocn (τ 4) ((k : Int) / 4) ((k : Int) / 2 % 2) (-1) = 3) → -2 ≤ gnb (τ 4) ((k : Int) / 4) ((k : Int) / 2 % 2) (-1) ∧ gnb (τ 4) ((k : Int) / 4) ((k : Int) / 2 % 2) (-1) ≤ 2 := fun q => gnb_in hI (by omega) (by omega) (Or.inr rfl) (ocn_mv q) hB
    have hs1 : 1 - (k : Int) % 2 = 1 → stp (k : Int) = 1 := fun q => if_pos q
    have hs2 : ¬ 1 - (k : Int) % 2 = 1 → stp (k : Int) = -1 := fun q => if_neg q
    refine ex_k 5 (P := none) (g := (cod m7_best 20, [some (.inl 0), some (.inr 1), some (.inr b), some (.inr mm), some (.inr (k : Int)), o5, o6, o7, o8], [.inr 7, .inl 1, .inr 4, .inr (k : Int)], (zr τ 5 d))) rfl trivial ?_
    refine ex_c (s_total (τ := (zr τ 5 d)) (w := 7) (Or.inl ⟨rfl, rfl⟩) (by omega)) (is := cod m7_best 21) (L := [some (.inl 0), some (.inr 1), some (.inr b), some (.inr mm), some (.inr (k : Int)), o5, o6, o7, o8]) (st := [.inr 4, .inr (k : Int)]) rfl rfl rfl ?_
    show Ex _ _ (cod m7_best 21, [some (.inl 0), some (.inr 1), some (.inr b), some (.inr mm), some (.inr (k : Int)), o5, o6, o7, o8], [.inr (cel (τ 4) 107), .inr 4, .inr (k : Int)], (zr τ 5 d)) _ _
    refine ex_k 1 (P := none) (g := (cod m7_best 22, [some (.inl 0), some (.inr 1), some (.inr b), some (.inr mm), some (.inr (k : Int)), o5, o6, o7, o8], [.inr (4 * (cel (τ 4) 107)), .inr (k : Int)], (zr τ 5 d))) rfl trivial ?_
    refine ex_b (P := (4 * (cel (τ 4) 107)) ≤ (k : Int)) (ct := (cod m7_best 66, [some (.inl 0), some (.inr 1), some (.inr b), some (.inr mm), some (.inr (k : Int)), o5, o6, o7, o8], [], (zr τ 5 d))) (cf := (cod m7_best 23, [some (.inl 0), some (.inr 1), some (.inr b), some (.inr mm), some (.inr (k : Int)), o5, o6, o7, o8], [], (zr τ 5 d))) rfl ⟨⟨by omega, by omega⟩, ⟨by omega, by omega⟩⟩ (fun hh => absurd hh (by omega)) (fun _ => ?_)
    refine ex_k 2 (P := none) (g := (cod m7_best 25, [some (.inl 0), some (.inr 1), some (.inr b), some (.inr mm), some (.inr (k : Int)), o5, o6, o7, o8], [.inr 0, .inr (k : Int)], (zr τ 5 d))) rfl trivial ?_
    refine ex_c (s_nom_0 (τ := (zr τ 5 d)) (z := (k : Int)) (by omega)) (is := cod m7_best 26) (L := [some (.inl 0), some (.inr 1), some (.inr b), some (.inr mm), some (.inr (k : Int)), o5, o6, o7, o8]) (st := []) rfl rfl rfl ?_
    show Ex _ _ (cod m7_best 26, [some (.inl 0), some (.inr 1), some (.inr b), some (.inr mm), some (.inr (k : Int)), o5, o6, o7, o8], [.inr ((k : Int) / 4)], (zr τ 5 d)) _ _
    refine ex_k 3 (P := none) (g := (cod m7_best 29, [some (.inl 0), some (.inr 1), some (.inr b), some (.inr mm), some (.inr (k : Int)), some (.inr ((k : Int) / 4)), o6, o7, o8], [.inr 1, .inr (k : Int)], (zr τ 5 d))) rfl trivial ?_
    refine ex_c (s_nom_1 (τ := (zr τ 5 d)) (z := (k : Int)) (by omega)) (is := cod m7_best 30) (L := [some (.inl 0), some (.inr 1), some (.inr b), some (.inr mm), some (.inr (k : Int)), some (.inr ((k : Int) / 4)), o6, o7, o8]) (st := []) rfl rfl rfl ?_
    show Ex _ _ (cod m7_best 30, [some (.inl 0), some (.inr 1), some (.inr b), some (.inr mm), some (.inr (k : Int)), some (.inr ((k : Int) / 4)), o6, o7, o8], [.inr ((k : Int) / 2 % 2)], (zr τ 5 d)) _ _
    refine ex_k 3 (P := none) (g := (cod m7_best 33, [some (.inl 0), some (.inr 1), some (.inr b), some (.inr mm), some (.inr (k : Int)), some (.inr ((k : Int) / 4)), some (.inr ((k : Int) / 2 % 2)), o7, o8], [.inr 2, .inr (k : Int)], (zr τ 5 d))) rfl trivial ?_
    refine ex_c (s_nom_2 (τ := (zr τ 5 d)) (z := (k : Int)) (by omega)) (is := cod m7_best 34) (L := [some (.inl 0), some (.inr 1), some (.inr b), some (.inr mm), some (.inr (k : Int)), some (.inr ((k : Int) / 4)), some (.inr ((k : Int) / 2 % 2)), o7, o8]) (st := []) rfl rfl rfl ?_
    show Ex _ _ (cod m7_best 34, [some (.inl 0), some (.inr 1), some (.inr b), some (.inr mm), some (.inr (k : Int)), some (.inr ((k : Int) / 4)), some (.inr ((k : Int) / 2 % 2)), o7, o8], [.inr (1 - (k : Int) % 2)], (zr τ 5 d)) _ _
    refine ex_k 1 (P := none) (g := (cod m7_best 35, [some (.inl 0), some (.inr 1), some (.inr b), some (.inr mm), some (.inr (k : Int)), some (.inr ((k : Int) / 4)), some (.inr ((k : Int) / 2 % 2)), o7, o8], [.inr 1, .inr (1 - (k : Int) % 2)], (zr τ 5 d))) rfl trivial ?_
    refine ex_b (P := ¬ (1 - (k : Int) % 2) = 1) (ct := (cod m7_best 38, [some (.inl 0), some (.inr 1), some (.inr b), some (.inr mm), some (.inr (k : Int)), some (.inr ((k : Int) / 4)), some (.inr ((k : Int) / 2 % 2)), o7, o8], [], (zr τ 5 d))) (cf := (cod m7_best 36, [some (.inl 0), some (.inr 1), some (.inr b), some (.inr mm), some (.inr (k : Int)), some (.inr ((k : Int) / 4)), some (.inr ((k : Int) / 2 % 2)), o7, o8], [], (zr τ 5 d))) rfl ⟨⟨by omega, by omega⟩, ⟨by decide, by decide⟩⟩ (fun h2 => ?_) (fun h2 => ?_)
    · first
      | (exfalso; omega)
      | (
          refine ex_k 1 (P := none) (g := (cod m7_best 39, [some (.inl 0), some (.inr 1), some (.inr b), some (.inr mm), some (.inr (k : Int)), some (.inr ((k : Int) / 4)), some (.inr ((k : Int) / 2 % 2)), o7, o8], [.inr 0], (zr τ 5 d))) rfl trivial ?_
          refine ex_c (s_stepTo (τ := (zr τ 5 d)) (z := 0) ⟨by omega, by omega⟩) (is := cod m7_best 40) (L := [some (.inl 0), some (.inr 1), some (.inr b), some (.inr mm), some (.inr (k : Int)), some (.inr ((k : Int) / 4)), some (.inr ((k : Int) / 2 % 2)), o7, o8]) (st := []) rfl rfl rfl ?_
          show Ex _ _ (cod m7_best 40, [some (.inl 0), some (.inr 1), some (.inr b), some (.inr mm), some (.inr (k : Int)), some (.inr ((k : Int) / 4)), some (.inr ((k : Int) / 2 % 2)), o7, o8], [.inr (-1)], (zr τ 5 d)) _ _
          refine ex_k 6 (P := none) (g := (cod m7_best 46, [some (.inl 0), some (.inr 1), some (.inr b), some (.inr mm), some (.inr (k : Int)), some (.inr ((k : Int) / 4)), some (.inr ((k : Int) / 2 % 2)), some (.inr (-1)), o8], [.inr (-1), .inr ((k : Int) / 2 % 2), .inr ((k : Int) / 4), .inl 7], (zr τ 5 d))) rfl trivial ?_
          refine ex_c (s_outcomeNow (τ := (zr τ 5 d)) (f := (k : Int) / 4) (r := (k : Int) / 2 % 2) (s := (-1)) (Or.inl ⟨rfl, rfl, rfl⟩) (by omega) (by omega) (by omega) hS.cw) (is := cod m7_best 47) (L := [some (.inl 0), some (.inr 1), some (.inr b), some (.inr mm), some (.inr (k : Int)), some (.inr ((k : Int) / 4)), some (.inr ((k : Int) / 2 % 2)), some (.inr (-1)), o8]) (st := []) rfl rfl rfl ?_
          show Ex _ _ (cod m7_best 47, [some (.inl 0), some (.inr 1), some (.inr b), some (.inr mm), some (.inr (k : Int)), some (.inr ((k : Int) / 4)), some (.inr ((k : Int) / 2 % 2)), some (.inr (-1)), o8], [.inr (ocn (τ 4) ((k : Int) / 4) ((k : Int) / 2 % 2) (-1))], (zr τ 5 d)) _ _
          refine ex_c (s_isMove (τ := (zr τ 5 d)) (z := ocn (τ 4) ((k : Int) / 4) ((k : Int) / 2 % 2) (-1)) ⟨by omega, by omega⟩) (is := cod m7_best 48) (L := [some (.inl 0), some (.inr 1), some (.inr b), some (.inr mm), some (.inr (k : Int)), some (.inr ((k : Int) / 4)), some (.inr ((k : Int) / 2 % 2)), some (.inr (-1)), o8]) (st := []) rfl rfl rfl ?_
          show Ex _ _ (cod m7_best 48, [some (.inl 0), some (.inr 1), some (.inr b), some (.inr mm), some (.inr (k : Int)), some (.inr ((k : Int) / 4)), some (.inr ((k : Int) / 2 % 2)), some (.inr (-1)), o8], [.inr (b2 ((ocn (τ 4) ((k : Int) / 4) ((k : Int) / 2 % 2) (-1)) = 1 ∨ (ocn (τ 4) ((k : Int) / 4) ((k : Int) / 2 % 2) (-1)) = 2 ∨ (ocn (τ 4) ((k : Int) / 4) ((k : Int) / 2 % 2) (-1)) = 3))], (zr τ 5 d)) _ _
          refine ex_b (P := (b2 ((ocn (τ 4) ((k : Int) / 4) ((k : Int) / 2 % 2) (-1)) = 1 ∨ (ocn (τ 4) ((k : Int) / 4) ((k : Int) / 2 % 2) (-1)) = 2 ∨ (ocn (τ 4) ((k : Int) / 4) ((k : Int) / 2 % 2) (-1)) = 3)) = 0) (ct := (cod m7_best 64, [some (.inl 0), some (.inr 1), some (.inr b), some (.inr mm), some (.inr (k : Int)), some (.inr ((k : Int) / 4)), some (.inr ((k : Int) / 2 % 2)), some (.inr (-1)), o8], [], (zr τ 5 d))) (cf := (cod m7_best 49, [some (.inl 0), some (.inr 1), some (.inr b), some (.inr mm), some (.inr (k : Int)), some (.inr ((k : Int) / 4)), some (.inr ((k : Int) / 2 % 2)), some (.inr (-1)), o8], [], (zr τ 5 d))) rfl b2_rng (fun h3 => ?_) (fun h3 => ?_)
          · first
            | (exfalso; have h3 := b2_e0 h3; omega)
            | (
                have h3 := b2_e0 h3
                refine ex_k 2 (P := none) (g := (cod m7_best 15, [some (.inl 0), some (.inr 1), some (.inr b), some (.inr mm), some (.inr ((k : Int) + 1)), some (.inr ((k : Int) / 4)), some (.inr ((k : Int) / 2 % 2)), some (.inr (-1)), o8], [], (zr τ 5 d))) rfl trivial ?_
                exact ih (k + 1) (by omega) _ _ _ _ _ _ _ _ rfl (by (first | rw [bsb_t (hs1 (by omega)) (by omega) (by omega)] | rw [bsb_t (hs2 (by omega)) (by omega) (by omega)] | rw [bsb_f (hs1 (by omega)) (by omega) (by omega)] | rw [bsb_f (hs2 (by omega)) (by omega) (by omega)] | rw [bsb_n (hs1 (by omega)) (by omega)] | rw [bsb_n (hs2 (by omega)) (by omega)]) <;> (first | rfl | exact hb)) (by (first | rw [bsb_t (hs1 (by omega)) (by omega) (by omega)] | rw [bsb_t (hs2 (by omega)) (by omega) (by omega)] | rw [bsb_f (hs1 (by omega)) (by omega) (by omega)] | rw [bsb_f (hs2 (by omega)) (by omega) (by omega)] | rw [bsb_n (hs1 (by omega)) (by omega)] | rw [bsb_n (hs2 (by omega)) (by omega)]) <;> (first | rfl | exact hm)) (by (first | rw [bsd_t (hs1 (by omega)) (by omega)] | rw [bsd_t (hs2 (by omega)) (by omega)] | rw [bsd_n (hs1 (by omega)) (by omega)] | rw [bsd_n (hs2 (by omega)) (by omega)]) <;> (first | rfl | exact hd)))
          · first
            | (exfalso; have h3 := b2_n0 h3; omega)
            | (
                have h3 := b2_n0 h3
                refine ex_k 4 (P := none) (g := (cod m7_best 53, [some (.inl 0), some (.inr 1), some (.inr b), some (.inr mm), some (.inr (k : Int)), some (.inr ((k : Int) / 4)), some (.inr ((k : Int) / 2 % 2)), some (.inr (-1)), o8], [.inr (-1), .inr ((k : Int) / 2 % 2), .inr ((k : Int) / 4), .inl 0], (zr τ 5 d))) rfl trivial ?_
                refine ex_c (s_gainBy (τ := (zr τ 5 d)) (f := (k : Int) / 4) (r := (k : Int) / 2 % 2) (s := (-1)) hI hB hT5 (show 0 ≤ ((k : Int) / 4) ∧ ((k : Int) / 4) < cel (τ 4) 107 by omega) (by omega) (by omega) (ocn_mv (show ocn (τ 4) ((k : Int) / 4) ((k : Int) / 2 % 2) (-1) = 1 ∨ ocn (τ 4) ((k : Int) / 4) ((k : Int) / 2 % 2) (-1) = 2 ∨ ocn (τ 4) ((k : Int) / 4) ((k : Int) / 2 % 2) (-1) = 3 by omega))) (is := cod m7_best 54) (L := [some (.inl 0), some (.inr 1), some (.inr b), some (.inr mm), some (.inr (k : Int)), some (.inr ((k : Int) / 4)), some (.inr ((k : Int) / 2 % 2)), some (.inr (-1)), o8]) (st := []) rfl rfl rfl ?_
                show Ex _ _ (cod m7_best 54, [some (.inl 0), some (.inr 1), some (.inr b), some (.inr mm), some (.inr (k : Int)), some (.inr ((k : Int) / 4)), some (.inr ((k : Int) / 2 % 2)), some (.inr (-1)), o8], [.inr (gnb (τ 4) ((k : Int) / 4) ((k : Int) / 2 % 2) (-1))], (zr (zr τ 5 d) 5 (mkm (τ 4) ((k : Int) / 4) ((k : Int) / 2 % 2) (-1)))) _ _
                rw [zr_zr]
                refine ex_k 2 (P := none) (g := (cod m7_best 56, [some (.inl 0), some (.inr 1), some (.inr b), some (.inr mm), some (.inr (k : Int)), some (.inr ((k : Int) / 4)), some (.inr ((k : Int) / 2 % 2)), some (.inr (-1)), some (.inr (gnb (τ 4) ((k : Int) / 4) ((k : Int) / 2 % 2) (-1)))], [.inr b], (zr τ 5 (mkm (τ 4) ((k : Int) / 4) ((k : Int) / 2 % 2) (-1))))) rfl trivial ?_
                refine ex_b (P := b < 0) (ct := (cod m7_best 60, [some (.inl 0), some (.inr 1), some (.inr b), some (.inr mm), some (.inr (k : Int)), some (.inr ((k : Int) / 4)), some (.inr ((k : Int) / 2 % 2)), some (.inr (-1)), some (.inr (gnb (τ 4) ((k : Int) / 4) ((k : Int) / 2 % 2) (-1)))], [], (zr τ 5 (mkm (τ 4) ((k : Int) / 4) ((k : Int) / 2 % 2) (-1))))) (cf := (cod m7_best 57, [some (.inl 0), some (.inr 1), some (.inr b), some (.inr mm), some (.inr (k : Int)), some (.inr ((k : Int) / 4)), some (.inr ((k : Int) / 2 % 2)), some (.inr (-1)), some (.inr (gnb (τ 4) ((k : Int) / 4) ((k : Int) / 2 % 2) (-1)))], [], (zr τ 5 (mkm (τ 4) ((k : Int) / 4) ((k : Int) / 2 % 2) (-1))))) rfl ⟨by omega, by omega⟩ (fun h4 => ?_) (fun h4 => ?_)
                · first
                  | (exfalso; omega)
                  | (
                      refine ex_k 6 (P := none) (g := (cod m7_best 15, [some (.inl 0), some (.inr 1), some (.inr (k : Int)), some (.inr (gnb (τ 4) ((k : Int) / 4) ((k : Int) / 2 % 2) (-1))), some (.inr ((k : Int) + 1)), some (.inr ((k : Int) / 4)), some (.inr ((k : Int) / 2 % 2)), some (.inr (-1)), some (.inr (gnb (τ 4) ((k : Int) / 4) ((k : Int) / 2 % 2) (-1)))], [], (zr τ 5 (mkm (τ 4) ((k : Int) / 4) ((k : Int) / 2 % 2) (-1))))) rfl trivial ?_
                      exact ih (k + 1) (by omega) _ _ _ _ _ _ _ _ rfl (by (first | rw [bsb_t (hs1 (by omega)) (by omega) (by omega)] | rw [bsb_t (hs2 (by omega)) (by omega) (by omega)] | rw [bsb_f (hs1 (by omega)) (by omega) (by omega)] | rw [bsb_f (hs2 (by omega)) (by omega) (by omega)] | rw [bsb_n (hs1 (by omega)) (by omega)] | rw [bsb_n (hs2 (by omega)) (by omega)]) <;> (first | rfl | exact hb)) (by (first | rw [bsb_t (hs1 (by omega)) (by omega) (by omega)] | rw [bsb_t (hs2 (by omega)) (by omega) (by omega)] | rw [bsb_f (hs1 (by omega)) (by omega) (by omega)] | rw [bsb_f (hs2 (by omega)) (by omega) (by omega)] | rw [bsb_n (hs1 (by omega)) (by omega)] | rw [bsb_n (hs2 (by omega)) (by omega)]) <;> (first | rfl | exact hm)) (by (first | rw [bsd_t (hs1 (by omega)) (by omega)] | rw [bsd_t (hs2 (by omega)) (by omega)] | rw [bsd_n (hs1 (by omega)) (by omega)] | rw [bsd_n (hs2 (by omega)) (by omega)]) <;> (first | rfl | exact hd)))
                · first
                  | (exfalso; omega)
                  | (
                      refine ex_k 2 (P := none) (g := (cod m7_best 59, [some (.inl 0), some (.inr 1), some (.inr b), some (.inr mm), some (.inr (k : Int)), some (.inr ((k : Int) / 4)), some (.inr ((k : Int) / 2 % 2)), some (.inr (-1)), some (.inr (gnb (τ 4) ((k : Int) / 4) ((k : Int) / 2 % 2) (-1)))], [.inr mm, .inr (gnb (τ 4) ((k : Int) / 4) ((k : Int) / 2 % 2) (-1))], (zr τ 5 (mkm (τ 4) ((k : Int) / 4) ((k : Int) / 2 % 2) (-1))))) rfl trivial ?_
                      refine ex_b (P := (gnb (τ 4) ((k : Int) / 4) ((k : Int) / 2 % 2) (-1)) ≤ mm) (ct := (cod m7_best 64, [some (.inl 0), some (.inr 1), some (.inr b), some (.inr mm), some (.inr (k : Int)), some (.inr ((k : Int) / 4)), some (.inr ((k : Int) / 2 % 2)), some (.inr (-1)), some (.inr (gnb (τ 4) ((k : Int) / 4) ((k : Int) / 2 % 2) (-1)))], [], (zr τ 5 (mkm (τ 4) ((k : Int) / 4) ((k : Int) / 2 % 2) (-1))))) (cf := (cod m7_best 60, [some (.inl 0), some (.inr 1), some (.inr b), some (.inr mm), some (.inr (k : Int)), some (.inr ((k : Int) / 4)), some (.inr ((k : Int) / 2 % 2)), some (.inr (-1)), some (.inr (gnb (τ 4) ((k : Int) / 4) ((k : Int) / 2 % 2) (-1)))], [], (zr τ 5 (mkm (τ 4) ((k : Int) / 4) ((k : Int) / 2 % 2) (-1))))) rfl ⟨⟨by omega, by omega⟩, ⟨by omega, by omega⟩⟩ (fun h5 => ?_) (fun h5 => ?_)
                      · first
                        | (exfalso; omega)
                        | (
                            refine ex_k 2 (P := none) (g := (cod m7_best 15, [some (.inl 0), some (.inr 1), some (.inr b), some (.inr mm), some (.inr ((k : Int) + 1)), some (.inr ((k : Int) / 4)), some (.inr ((k : Int) / 2 % 2)), some (.inr (-1)), some (.inr (gnb (τ 4) ((k : Int) / 4) ((k : Int) / 2 % 2) (-1)))], [], (zr τ 5 (mkm (τ 4) ((k : Int) / 4) ((k : Int) / 2 % 2) (-1))))) rfl trivial ?_
                            exact ih (k + 1) (by omega) _ _ _ _ _ _ _ _ rfl (by (first | rw [bsb_t (hs1 (by omega)) (by omega) (by omega)] | rw [bsb_t (hs2 (by omega)) (by omega) (by omega)] | rw [bsb_f (hs1 (by omega)) (by omega) (by omega)] | rw [bsb_f (hs2 (by omega)) (by omega) (by omega)] | rw [bsb_n (hs1 (by omega)) (by omega)] | rw [bsb_n (hs2 (by omega)) (by omega)]) <;> (first | rfl | exact hb)) (by (first | rw [bsb_t (hs1 (by omega)) (by omega) (by omega)] | rw [bsb_t (hs2 (by omega)) (by omega) (by omega)] | rw [bsb_f (hs1 (by omega)) (by omega) (by omega)] | rw [bsb_f (hs2 (by omega)) (by omega) (by omega)] | rw [bsb_n (hs1 (by omega)) (by omega)] | rw [bsb_n (hs2 (by omega)) (by omega)]) <;> (first | rfl | exact hm)) (by (first | rw [bsd_t (hs1 (by omega)) (by omega)] | rw [bsd_t (hs2 (by omega)) (by omega)] | rw [bsd_n (hs1 (by omega)) (by omega)] | rw [bsd_n (hs2 (by omega)) (by omega)]) <;> (first | rfl | exact hd)))
                      · first
                        | (exfalso; omega)
                        | (
                            refine ex_k 6 (P := none) (g := (cod m7_best 15, [some (.inl 0), some (.inr 1), some (.inr (k : Int)), some (.inr (gnb (τ 4) ((k : Int) / 4) ((k : Int) / 2 % 2) (-1))), some (.inr ((k : Int) + 1)), some (.inr ((k : Int) / 4)), some (.inr ((k : Int) / 2 % 2)), some (.inr (-1)), some (.inr (gnb (τ 4) ((k : Int) / 4) ((k : Int) / 2 % 2) (-1)))], [], (zr τ 5 (mkm (τ 4) ((k : Int) / 4) ((k : Int) / 2 % 2) (-1))))) rfl trivial ?_
                            exact ih (k + 1) (by omega) _ _ _ _ _ _ _ _ rfl (by (first | rw [bsb_t (hs1 (by omega)) (by omega) (by omega)] | rw [bsb_t (hs2 (by omega)) (by omega) (by omega)] | rw [bsb_f (hs1 (by omega)) (by omega) (by omega)] | rw [bsb_f (hs2 (by omega)) (by omega) (by omega)] | rw [bsb_n (hs1 (by omega)) (by omega)] | rw [bsb_n (hs2 (by omega)) (by omega)]) <;> (first | rfl | exact hb)) (by (first | rw [bsb_t (hs1 (by omega)) (by omega) (by omega)] | rw [bsb_t (hs2 (by omega)) (by omega) (by omega)] | rw [bsb_f (hs1 (by omega)) (by omega) (by omega)] | rw [bsb_f (hs2 (by omega)) (by omega) (by omega)] | rw [bsb_n (hs1 (by omega)) (by omega)] | rw [bsb_n (hs2 (by omega)) (by omega)]) <;> (first | rfl | exact hm)) (by (first | rw [bsd_t (hs1 (by omega)) (by omega)] | rw [bsd_t (hs2 (by omega)) (by omega)] | rw [bsd_n (hs1 (by omega)) (by omega)] | rw [bsd_n (hs2 (by omega)) (by omega)]) <;> (first | rfl | exact hd))))))
    · first
      | (exfalso; omega)
      | (
          refine ex_k 2 (P := none) (g := (cod m7_best 39, [some (.inl 0), some (.inr 1), some (.inr b), some (.inr mm), some (.inr (k : Int)), some (.inr ((k : Int) / 4)), some (.inr ((k : Int) / 2 % 2)), o7, o8], [.inr 1], (zr τ 5 d))) rfl trivial ?_
          refine ex_c (s_stepTo (τ := (zr τ 5 d)) (z := 1) ⟨by omega, by omega⟩) (is := cod m7_best 40) (L := [some (.inl 0), some (.inr 1), some (.inr b), some (.inr mm), some (.inr (k : Int)), some (.inr ((k : Int) / 4)), some (.inr ((k : Int) / 2 % 2)), o7, o8]) (st := []) rfl rfl rfl ?_
          show Ex _ _ (cod m7_best 40, [some (.inl 0), some (.inr 1), some (.inr b), some (.inr mm), some (.inr (k : Int)), some (.inr ((k : Int) / 4)), some (.inr ((k : Int) / 2 % 2)), o7, o8], [.inr 1], (zr τ 5 d)) _ _
          refine ex_k 6 (P := none) (g := (cod m7_best 46, [some (.inl 0), some (.inr 1), some (.inr b), some (.inr mm), some (.inr (k : Int)), some (.inr ((k : Int) / 4)), some (.inr ((k : Int) / 2 % 2)), some (.inr 1), o8], [.inr 1, .inr ((k : Int) / 2 % 2), .inr ((k : Int) / 4), .inl 7], (zr τ 5 d))) rfl trivial ?_
          refine ex_c (s_outcomeNow (τ := (zr τ 5 d)) (f := (k : Int) / 4) (r := (k : Int) / 2 % 2) (s := 1) (Or.inl ⟨rfl, rfl, rfl⟩) (by omega) (by omega) (by omega) hS.cw) (is := cod m7_best 47) (L := [some (.inl 0), some (.inr 1), some (.inr b), some (.inr mm), some (.inr (k : Int)), some (.inr ((k : Int) / 4)), some (.inr ((k : Int) / 2 % 2)), some (.inr 1), o8]) (st := []) rfl rfl rfl ?_
          show Ex _ _ (cod m7_best 47, [some (.inl 0), some (.inr 1), some (.inr b), some (.inr mm), some (.inr (k : Int)), some (.inr ((k : Int) / 4)), some (.inr ((k : Int) / 2 % 2)), some (.inr 1), o8], [.inr (ocn (τ 4) ((k : Int) / 4) ((k : Int) / 2 % 2) 1)], (zr τ 5 d)) _ _
          refine ex_c (s_isMove (τ := (zr τ 5 d)) (z := ocn (τ 4) ((k : Int) / 4) ((k : Int) / 2 % 2) 1) ⟨by omega, by omega⟩) (is := cod m7_best 48) (L := [some (.inl 0), some (.inr 1), some (.inr b), some (.inr mm), some (.inr (k : Int)), some (.inr ((k : Int) / 4)), some (.inr ((k : Int) / 2 % 2)), some (.inr 1), o8]) (st := []) rfl rfl rfl ?_
          show Ex _ _ (cod m7_best 48, [some (.inl 0), some (.inr 1), some (.inr b), some (.inr mm), some (.inr (k : Int)), some (.inr ((k : Int) / 4)), some (.inr ((k : Int) / 2 % 2)), some (.inr 1), o8], [.inr (b2 ((ocn (τ 4) ((k : Int) / 4) ((k : Int) / 2 % 2) 1) = 1 ∨ (ocn (τ 4) ((k : Int) / 4) ((k : Int) / 2 % 2) 1) = 2 ∨ (ocn (τ 4) ((k : Int) / 4) ((k : Int) / 2 % 2) 1) = 3))], (zr τ 5 d)) _ _
          refine ex_b (P := (b2 ((ocn (τ 4) ((k : Int) / 4) ((k : Int) / 2 % 2) 1) = 1 ∨ (ocn (τ 4) ((k : Int) / 4) ((k : Int) / 2 % 2) 1) = 2 ∨ (ocn (τ 4) ((k : Int) / 4) ((k : Int) / 2 % 2) 1) = 3)) = 0) (ct := (cod m7_best 64, [some (.inl 0), some (.inr 1), some (.inr b), some (.inr mm), some (.inr (k : Int)), some (.inr ((k : Int) / 4)), some (.inr ((k : Int) / 2 % 2)), some (.inr 1), o8], [], (zr τ 5 d))) (cf := (cod m7_best 49, [some (.inl 0), some (.inr 1), some (.inr b), some (.inr mm), some (.inr (k : Int)), some (.inr ((k : Int) / 4)), some (.inr ((k : Int) / 2 % 2)), some (.inr 1), o8], [], (zr τ 5 d))) rfl b2_rng (fun h6 => ?_) (fun h6 => ?_)
          · first
            | (exfalso; have h6 := b2_e0 h6; omega)
            | (
                have h6 := b2_e0 h6
                refine ex_k 2 (P := none) (g := (cod m7_best 15, [some (.inl 0), some (.inr 1), some (.inr b), some (.inr mm), some (.inr ((k : Int) + 1)), some (.inr ((k : Int) / 4)), some (.inr ((k : Int) / 2 % 2)), some (.inr 1), o8], [], (zr τ 5 d))) rfl trivial ?_
                exact ih (k + 1) (by omega) _ _ _ _ _ _ _ _ rfl (by (first | rw [bsb_t (hs1 (by omega)) (by omega) (by omega)] | rw [bsb_t (hs2 (by omega)) (by omega) (by omega)] | rw [bsb_f (hs1 (by omega)) (by omega) (by omega)] | rw [bsb_f (hs2 (by omega)) (by omega) (by omega)] | rw [bsb_n (hs1 (by omega)) (by omega)] | rw [bsb_n (hs2 (by omega)) (by omega)]) <;> (first | rfl | exact hb)) (by (first | rw [bsb_t (hs1 (by omega)) (by omega) (by omega)] | rw [bsb_t (hs2 (by omega)) (by omega) (by omega)] | rw [bsb_f (hs1 (by omega)) (by omega) (by omega)] | rw [bsb_f (hs2 (by omega)) (by omega) (by omega)] | rw [bsb_n (hs1 (by omega)) (by omega)] | rw [bsb_n (hs2 (by omega)) (by omega)]) <;> (first | rfl | exact hm)) (by (first | rw [bsd_t (hs1 (by omega)) (by omega)] | rw [bsd_t (hs2 (by omega)) (by omega)] | rw [bsd_n (hs1 (by omega)) (by omega)] | rw [bsd_n (hs2 (by omega)) (by omega)]) <;> (first | rfl | exact hd)))
          · first
            | (exfalso; have h6 := b2_n0 h6; omega)
            | (
                have h6 := b2_n0 h6
                refine ex_k 4 (P := none) (g := (cod m7_best 53, [some (.inl 0), some (.inr 1), some (.inr b), some (.inr mm), some (.inr (k : Int)), some (.inr ((k : Int) / 4)), some (.inr ((k : Int) / 2 % 2)), some (.inr 1), o8], [.inr 1, .inr ((k : Int) / 2 % 2), .inr ((k : Int) / 4), .inl 0], (zr τ 5 d))) rfl trivial ?_
                refine ex_c (s_gainBy (τ := (zr τ 5 d)) (f := (k : Int) / 4) (r := (k : Int) / 2 % 2) (s := 1) hI hB hT5 (show 0 ≤ ((k : Int) / 4) ∧ ((k : Int) / 4) < cel (τ 4) 107 by omega) (by omega) (by omega) (ocn_mv (show ocn (τ 4) ((k : Int) / 4) ((k : Int) / 2 % 2) 1 = 1 ∨ ocn (τ 4) ((k : Int) / 4) ((k : Int) / 2 % 2) 1 = 2 ∨ ocn (τ 4) ((k : Int) / 4) ((k : Int) / 2 % 2) 1 = 3 by omega))) (is := cod m7_best 54) (L := [some (.inl 0), some (.inr 1), some (.inr b), some (.inr mm), some (.inr (k : Int)), some (.inr ((k : Int) / 4)), some (.inr ((k : Int) / 2 % 2)), some (.inr 1), o8]) (st := []) rfl rfl rfl ?_
                show Ex _ _ (cod m7_best 54, [some (.inl 0), some (.inr 1), some (.inr b), some (.inr mm), some (.inr (k : Int)), some (.inr ((k : Int) / 4)), some (.inr ((k : Int) / 2 % 2)), some (.inr 1), o8], [.inr (gnb (τ 4) ((k : Int) / 4) ((k : Int) / 2 % 2) 1)], (zr (zr τ 5 d) 5 (mkm (τ 4) ((k : Int) / 4) ((k : Int) / 2 % 2) 1))) _ _
                rw [zr_zr]
                refine ex_k 2 (P := none) (g := (cod m7_best 56, [some (.inl 0), some (.inr 1), some (.inr b), some (.inr mm), some (.inr (k : Int)), some (.inr ((k : Int) / 4)), some (.inr ((k : Int) / 2 % 2)), some (.inr 1), some (.inr (gnb (τ 4) ((k : Int) / 4) ((k : Int) / 2 % 2) 1))], [.inr b], (zr τ 5 (mkm (τ 4) ((k : Int) / 4) ((k : Int) / 2 % 2) 1)))) rfl trivial ?_
                refine ex_b (P := b < 0) (ct := (cod m7_best 60, [some (.inl 0), some (.inr 1), some (.inr b), some (.inr mm), some (.inr (k : Int)), some (.inr ((k : Int) / 4)), some (.inr ((k : Int) / 2 % 2)), some (.inr 1), some (.inr (gnb (τ 4) ((k : Int) / 4) ((k : Int) / 2 % 2) 1))], [], (zr τ 5 (mkm (τ 4) ((k : Int) / 4) ((k : Int) / 2 % 2) 1)))) (cf := (cod m7_best 57, [some (.inl 0), some (.inr 1), some (.inr b), some (.inr mm), some (.inr (k : Int)), some (.inr ((k : Int) / 4)), some (.inr ((k : Int) / 2 % 2)), some (.inr 1), some (.inr (gnb (τ 4) ((k : Int) / 4) ((k : Int) / 2 % 2) 1))], [], (zr τ 5 (mkm (τ 4) ((k : Int) / 4) ((k : Int) / 2 % 2) 1)))) rfl ⟨by omega, by omega⟩ (fun h7 => ?_) (fun h7 => ?_)
                · first
                  | (exfalso; omega)
                  | (
                      refine ex_k 6 (P := none) (g := (cod m7_best 15, [some (.inl 0), some (.inr 1), some (.inr (k : Int)), some (.inr (gnb (τ 4) ((k : Int) / 4) ((k : Int) / 2 % 2) 1)), some (.inr ((k : Int) + 1)), some (.inr ((k : Int) / 4)), some (.inr ((k : Int) / 2 % 2)), some (.inr 1), some (.inr (gnb (τ 4) ((k : Int) / 4) ((k : Int) / 2 % 2) 1))], [], (zr τ 5 (mkm (τ 4) ((k : Int) / 4) ((k : Int) / 2 % 2) 1)))) rfl trivial ?_
                      exact ih (k + 1) (by omega) _ _ _ _ _ _ _ _ rfl (by (first | rw [bsb_t (hs1 (by omega)) (by omega) (by omega)] | rw [bsb_t (hs2 (by omega)) (by omega) (by omega)] | rw [bsb_f (hs1 (by omega)) (by omega) (by omega)] | rw [bsb_f (hs2 (by omega)) (by omega) (by omega)] | rw [bsb_n (hs1 (by omega)) (by omega)] | rw [bsb_n (hs2 (by omega)) (by omega)]) <;> (first | rfl | exact hb)) (by (first | rw [bsb_t (hs1 (by omega)) (by omega) (by omega)] | rw [bsb_t (hs2 (by omega)) (by omega) (by omega)] | rw [bsb_f (hs1 (by omega)) (by omega) (by omega)] | rw [bsb_f (hs2 (by omega)) (by omega) (by omega)] | rw [bsb_n (hs1 (by omega)) (by omega)] | rw [bsb_n (hs2 (by omega)) (by omega)]) <;> (first | rfl | exact hm)) (by (first | rw [bsd_t (hs1 (by omega)) (by omega)] | rw [bsd_t (hs2 (by omega)) (by omega)] | rw [bsd_n (hs1 (by omega)) (by omega)] | rw [bsd_n (hs2 (by omega)) (by omega)]) <;> (first | rfl | exact hd)))
                · first
                  | (exfalso; omega)
                  | (
                      refine ex_k 2 (P := none) (g := (cod m7_best 59, [some (.inl 0), some (.inr 1), some (.inr b), some (.inr mm), some (.inr (k : Int)), some (.inr ((k : Int) / 4)), some (.inr ((k : Int) / 2 % 2)), some (.inr 1), some (.inr (gnb (τ 4) ((k : Int) / 4) ((k : Int) / 2 % 2) 1))], [.inr mm, .inr (gnb (τ 4) ((k : Int) / 4) ((k : Int) / 2 % 2) 1)], (zr τ 5 (mkm (τ 4) ((k : Int) / 4) ((k : Int) / 2 % 2) 1)))) rfl trivial ?_
                      refine ex_b (P := (gnb (τ 4) ((k : Int) / 4) ((k : Int) / 2 % 2) 1) ≤ mm) (ct := (cod m7_best 64, [some (.inl 0), some (.inr 1), some (.inr b), some (.inr mm), some (.inr (k : Int)), some (.inr ((k : Int) / 4)), some (.inr ((k : Int) / 2 % 2)), some (.inr 1), some (.inr (gnb (τ 4) ((k : Int) / 4) ((k : Int) / 2 % 2) 1))], [], (zr τ 5 (mkm (τ 4) ((k : Int) / 4) ((k : Int) / 2 % 2) 1)))) (cf := (cod m7_best 60, [some (.inl 0), some (.inr 1), some (.inr b), some (.inr mm), some (.inr (k : Int)), some (.inr ((k : Int) / 4)), some (.inr ((k : Int) / 2 % 2)), some (.inr 1), some (.inr (gnb (τ 4) ((k : Int) / 4) ((k : Int) / 2 % 2) 1))], [], (zr τ 5 (mkm (τ 4) ((k : Int) / 4) ((k : Int) / 2 % 2) 1)))) rfl ⟨⟨by omega, by omega⟩, ⟨by omega, by omega⟩⟩ (fun h8 => ?_) (fun h8 => ?_)
                      · first
                        | (exfalso; omega)
                        | (
                            refine ex_k 2 (P := none) (g := (cod m7_best 15, [some (.inl 0), some (.inr 1), some (.inr b), some (.inr mm), some (.inr ((k : Int) + 1)), some (.inr ((k : Int) / 4)), some (.inr ((k : Int) / 2 % 2)), some (.inr 1), some (.inr (gnb (τ 4) ((k : Int) / 4) ((k : Int) / 2 % 2) 1))], [], (zr τ 5 (mkm (τ 4) ((k : Int) / 4) ((k : Int) / 2 % 2) 1)))) rfl trivial ?_
                            exact ih (k + 1) (by omega) _ _ _ _ _ _ _ _ rfl (by (first | rw [bsb_t (hs1 (by omega)) (by omega) (by omega)] | rw [bsb_t (hs2 (by omega)) (by omega) (by omega)] | rw [bsb_f (hs1 (by omega)) (by omega) (by omega)] | rw [bsb_f (hs2 (by omega)) (by omega) (by omega)] | rw [bsb_n (hs1 (by omega)) (by omega)] | rw [bsb_n (hs2 (by omega)) (by omega)]) <;> (first | rfl | exact hb)) (by (first | rw [bsb_t (hs1 (by omega)) (by omega) (by omega)] | rw [bsb_t (hs2 (by omega)) (by omega) (by omega)] | rw [bsb_f (hs1 (by omega)) (by omega) (by omega)] | rw [bsb_f (hs2 (by omega)) (by omega) (by omega)] | rw [bsb_n (hs1 (by omega)) (by omega)] | rw [bsb_n (hs2 (by omega)) (by omega)]) <;> (first | rfl | exact hm)) (by (first | rw [bsd_t (hs1 (by omega)) (by omega)] | rw [bsd_t (hs2 (by omega)) (by omega)] | rw [bsd_n (hs1 (by omega)) (by omega)] | rw [bsd_n (hs2 (by omega)) (by omega)]) <;> (first | rfl | exact hd)))
                      · first
                        | (exfalso; omega)
                        | (
                            refine ex_k 6 (P := none) (g := (cod m7_best 15, [some (.inl 0), some (.inr 1), some (.inr (k : Int)), some (.inr (gnb (τ 4) ((k : Int) / 4) ((k : Int) / 2 % 2) 1)), some (.inr ((k : Int) + 1)), some (.inr ((k : Int) / 4)), some (.inr ((k : Int) / 2 % 2)), some (.inr 1), some (.inr (gnb (τ 4) ((k : Int) / 4) ((k : Int) / 2 % 2) 1))], [], (zr τ 5 (mkm (τ 4) ((k : Int) / 4) ((k : Int) / 2 % 2) 1)))) rfl trivial ?_
                            exact ih (k + 1) (by omega) _ _ _ _ _ _ _ _ rfl (by (first | rw [bsb_t (hs1 (by omega)) (by omega) (by omega)] | rw [bsb_t (hs2 (by omega)) (by omega) (by omega)] | rw [bsb_f (hs1 (by omega)) (by omega) (by omega)] | rw [bsb_f (hs2 (by omega)) (by omega) (by omega)] | rw [bsb_n (hs1 (by omega)) (by omega)] | rw [bsb_n (hs2 (by omega)) (by omega)]) <;> (first | rfl | exact hb)) (by (first | rw [bsb_t (hs1 (by omega)) (by omega) (by omega)] | rw [bsb_t (hs2 (by omega)) (by omega) (by omega)] | rw [bsb_f (hs1 (by omega)) (by omega) (by omega)] | rw [bsb_f (hs2 (by omega)) (by omega) (by omega)] | rw [bsb_n (hs1 (by omega)) (by omega)] | rw [bsb_n (hs2 (by omega)) (by omega)]) <;> (first | rfl | exact hm)) (by (first | rw [bsd_t (hs1 (by omega)) (by omega)] | rw [bsd_t (hs2 (by omega)) (by omega)] | rw [bsd_n (hs1 (by omega)) (by omega)] | rw [bsd_n (hs2 (by omega)) (by omega)]) <;> (first | rfl | exact hd))))))
theorem c_best_1 {τ : SZ} {B : Int} (hI : Iv B (τ 4)) (hB : B + 7 ≤ 100000000) (hT5 : Tz (τ 5)) : RZ 8 m7_best [.inl 0, .inr 1] τ (if (bsb (τ 4) (4 * cel (τ 4) 107).toNat).1 < 0 then .inr ("java/util/NoSuchElementException", zr τ 5 (bsd (τ 4) (τ 5) (4 * cel (τ 4) 107).toNat)) else .inl (some (.inr (if (1 : Int) = 0 then (bsb (τ 4) (4 * cel (τ 4) 107).toNat).1 / 4 else if (1 : Int) = 1 then (bsb (τ 4) (4 * cel (τ 4) 107).toNat).1 / 2 % 2 else 1 - (bsb (τ 4) (4 * cel (τ 4) 107).toNat).1 % 2)), zr τ 5 (bsd (τ 4) (τ 5) (4 * cel (τ 4) 107).toNat))) := by
  have hS := hI.1
  have hN := hS.n
  refine Ex.call ?_ rfl rfl
  show Ex _ _ (cod m7_best 0, [some (.inl 0), some (.inr 1), none, none, none, none, none, none, none], [], τ) _ _
  refine ex_k 1 (P := none) (g := (cod m7_best 1, [some (.inl 0), some (.inr 1), none, none, none, none, none, none, none], [.inr 1], τ)) rfl trivial ?_
  refine ex_b (P := 1 < 0) (ct := (cod m7_best 5, [some (.inl 0), some (.inr 1), none, none, none, none, none, none, none], [], τ)) (cf := (cod m7_best 2, [some (.inl 0), some (.inr 1), none, none, none, none, none, none, none], [], τ)) rfl ⟨by decide, by decide⟩ (fun hh => absurd hh (by decide)) (fun _ => ?_)
  refine ex_k 2 (P := none) (g := (cod m7_best 4, [some (.inl 0), some (.inr 1), none, none, none, none, none, none, none], [.inr 2, .inr 1], τ)) rfl trivial ?_
  refine ex_b (P := 1 ≤ 2) (ct := (cod m7_best 9, [some (.inl 0), some (.inr 1), none, none, none, none, none, none, none], [], τ)) (cf := (cod m7_best 5, [some (.inl 0), some (.inr 1), none, none, none, none, none, none, none], [], τ)) rfl ⟨⟨by decide, by decide⟩, ⟨by decide, by decide⟩⟩ (fun _ => ?_) (fun hh => absurd (by decide) hh)
  refine ex_k 6 (P := none) (g := (cod m7_best 15, [some (.inl 0), some (.inr 1), some (.inr (-1)), some (.inr 0), some (.inr 0), none, none, none, none], [], τ)) rfl trivial ?_
  have q := lp_best_1 (τ := τ) (d0 := τ 5) (M := (4 * cel (τ 4) 107).toNat) hI hB hT5 (by omega) (4 * cel (τ 4) 107).toNat 0 (by omega) 0 (-1) 0 (τ 5) none none none none rfl rfl rfl rfl
  rw [zr_self] at q
  exact q
theorem lp_best_2 {τ : SZ} {d0 : Nat → Int} {M : Nat} {B : Int} (hI : Iv B (τ 4)) (hB : B + 7 ≤ 100000000) (hd0 : Tz d0) (hM : (M : Int) = 4 * cel (τ 4) 107) : ∀ (j k : Nat), k + j = M → ∀ (z b mm : Int) (d : Nat → Int) (o5 o6 o7 o8 : Option VZ), z = (k : Int) → b = (bsb (τ 4) k).1 → mm = (bsb (τ 4) k).2 → d = bsd (τ 4) d0 k → Ex 7 m7_best (cod m7_best 15, [some (.inl 0), some (.inr 2), some (.inr b), some (.inr mm), some (.inr z), o5, o6, o7, o8], [], (zr τ 5 d)) 0 (if (bsb (τ 4) M).1 < 0 then .inr ("java/util/NoSuchElementException", zr τ 5 (bsd (τ 4) d0 M)) else .inl (some (.inr (if (2 : Int) = 0 then (bsb (τ 4) M).1 / 4 else if (2 : Int) = 1 then (bsb (τ 4) M).1 / 2 % 2 else 1 - (bsb (τ 4) M).1 % 2)), zr τ 5 (bsd (τ 4) d0 M))) := by
  intro j
  induction j with
  | zero =>
    intro k hk z b mm d o5 o6 o7 o8 hz hb hm hd
    have hS := hI.1
    have hN := hS.n
    have hin := bsb_in hI hB k (by omega)
    have hT5 : Tz d := by rw [hd]; exact bsd_tz hI hB hd0 k (by omega)
    refine ex_k 5 (P := none) (g := (cod m7_best 20, [some (.inl 0), some (.inr 2), some (.inr b), some (.inr mm), some (.inr z), o5, o6, o7, o8], [.inr 7, .inl 1, .inr 4, .inr z], (zr τ 5 d))) rfl trivial ?_
    refine ex_c (s_total (τ := (zr τ 5 d)) (w := 7) (Or.inl ⟨rfl, rfl⟩) (by omega)) (is := cod m7_best 21) (L := [some (.inl 0), some (.inr 2), some (.inr b), some (.inr mm), some (.inr z), o5, o6, o7, o8]) (st := [.inr 4, .inr z]) rfl rfl rfl ?_
    show Ex _ _ (cod m7_best 21, [some (.inl 0), some (.inr 2), some (.inr b), some (.inr mm), some (.inr z), o5, o6, o7, o8], [.inr (cel (τ 4) 107), .inr 4, .inr z], (zr τ 5 d)) _ _
    refine ex_k 1 (P := none) (g := (cod m7_best 22, [some (.inl 0), some (.inr 2), some (.inr b), some (.inr mm), some (.inr z), o5, o6, o7, o8], [.inr (4 * (cel (τ 4) 107)), .inr z], (zr τ 5 d))) rfl trivial ?_
    refine ex_b (P := (4 * (cel (τ 4) 107)) ≤ z) (ct := (cod m7_best 66, [some (.inl 0), some (.inr 2), some (.inr b), some (.inr mm), some (.inr z), o5, o6, o7, o8], [], (zr τ 5 d))) (cf := (cod m7_best 23, [some (.inl 0), some (.inr 2), some (.inr b), some (.inr mm), some (.inr z), o5, o6, o7, o8], [], (zr τ 5 d))) rfl ⟨⟨by omega, by omega⟩, ⟨by omega, by omega⟩⟩ (fun _ => ?_) (fun hh => absurd (by omega) hh)
    refine ex_k 1 (P := none) (g := (cod m7_best 67, [some (.inl 0), some (.inr 2), some (.inr b), some (.inr mm), some (.inr z), o5, o6, o7, o8], [.inr b], (zr τ 5 d))) rfl trivial ?_
    refine ex_b (P := 0 ≤ b) (ct := (cod m7_best 72, [some (.inl 0), some (.inr 2), some (.inr b), some (.inr mm), some (.inr z), o5, o6, o7, o8], [], (zr τ 5 d))) (cf := (cod m7_best 68, [some (.inl 0), some (.inr 2), some (.inr b), some (.inr mm), some (.inr z), o5, o6, o7, o8], [], (zr τ 5 d))) rfl ⟨by omega, by omega⟩ (fun h2 => ?_) (fun h2 => ?_)
    · first
      | (exfalso; omega)
      | (
          refine ex_k 2 (P := none) (g := (cod m7_best 74, [some (.inl 0), some (.inr 2), some (.inr b), some (.inr mm), some (.inr z), o5, o6, o7, o8], [.inr 2, .inr b], (zr τ 5 d))) rfl trivial ?_
          refine ex_c (s_nom_2 (τ := (zr τ 5 d)) (z := b) (by omega)) (is := cod m7_best 75) (L := [some (.inl 0), some (.inr 2), some (.inr b), some (.inr mm), some (.inr z), o5, o6, o7, o8]) (st := []) rfl rfl rfl ?_
          show Ex _ _ (cod m7_best 75, [some (.inl 0), some (.inr 2), some (.inr b), some (.inr mm), some (.inr z), o5, o6, o7, o8], [.inr (1 - b % 2)], (zr τ 5 d)) _ _
          exact ex_r rfl trivial rfl ((by rw [show M = k from by omega, ← hb, ← hd]; first | (rw [if_pos (by omega)]; done) | (rw [if_neg (by omega)]; rfl))))
    · first
      | (exfalso; omega)
      | (
          exact ex_t rfl rfl ((by rw [show M = k from by omega, ← hb, ← hd]; first | (rw [if_pos (by omega)]; done) | (rw [if_neg (by omega)]; rfl))))
  | succ j ih =>
    intro k hk z b mm d o5 o6 o7 o8 hz hb hm hd
    have hS := hI.1
    have hN := hS.n
    have hin := bsb_in hI hB k (by omega)
    have hT5 : Tz d := by rw [hd]; exact bsd_tz hI hB hd0 k (by omega)
    subst hz
    have ho1 := @ocn_in (τ 4) ((k : Int) / 4) ((k : Int) / 2 % 2) 1
    have ho2 := @ocn_in (τ 4) ((k : Int) / 4) ((k : Int) / 2 % 2) (-1)
    have hg1 : (ocn (τ 4) ((k : Int) / 4) ((k : Int) / 2 % 2) 1 = 1 ∨ ocn (τ 4) ((k : Int) / 4) ((k : Int) / 2 % 2) 1 = 2 ∨ ocn (τ 4) ((k : Int) / 4) ((k : Int) / 2 % 2) 1 = 3) → -2 ≤ gnb (τ 4) ((k : Int) / 4) ((k : Int) / 2 % 2) 1 ∧ gnb (τ 4) ((k : Int) / 4) ((k : Int) / 2 % 2) 1 ≤ 2 := fun q => gnb_in hI (by omega) (by omega) (Or.inl rfl) (ocn_mv q) hB
    have hg2 : (ocn (τ 4) ((k : Int) / 4) ((k : Int) / 2 % 2) (-1) = 1 ∨ ocn (τ 4) ((k : Int) / 4) ((k : Int) / 2 % 2) (-1) = 2 ∨ ocn (τ 4) ((k : Int) / 4) ((k : Int) / 2 % 2) (-1) = 3) → -2 ≤ gnb (τ 4) ((k : Int) / 4) ((k : Int) / 2 % 2) (-1) ∧ gnb (τ 4) ((k : Int) / 4) ((k : Int) / 2 % 2) (-1) ≤ 2 := fun q => gnb_in hI (by omega) (by omega) (Or.inr rfl) (ocn_mv q) hB
    have hs1 : 1 - (k : Int) % 2 = 1 → stp (k : Int) = 1 := fun q => if_pos q
    have hs2 : ¬ 1 - (k : Int) % 2 = 1 → stp (k : Int) = -1 := fun q => if_neg q
    refine ex_k 5 (P := none) (g := (cod m7_best 20, [some (.inl 0), some (.inr 2), some (.inr b), some (.inr mm), some (.inr (k : Int)), o5, o6, o7, o8], [.inr 7, .inl 1, .inr 4, .inr (k : Int)], (zr τ 5 d))) rfl trivial ?_
    refine ex_c (s_total (τ := (zr τ 5 d)) (w := 7) (Or.inl ⟨rfl, rfl⟩) (by omega)) (is := cod m7_best 21) (L := [some (.inl 0), some (.inr 2), some (.inr b), some (.inr mm), some (.inr (k : Int)), o5, o6, o7, o8]) (st := [.inr 4, .inr (k : Int)]) rfl rfl rfl ?_
    show Ex _ _ (cod m7_best 21, [some (.inl 0), some (.inr 2), some (.inr b), some (.inr mm), some (.inr (k : Int)), o5, o6, o7, o8], [.inr (cel (τ 4) 107), .inr 4, .inr (k : Int)], (zr τ 5 d)) _ _
    refine ex_k 1 (P := none) (g := (cod m7_best 22, [some (.inl 0), some (.inr 2), some (.inr b), some (.inr mm), some (.inr (k : Int)), o5, o6, o7, o8], [.inr (4 * (cel (τ 4) 107)), .inr (k : Int)], (zr τ 5 d))) rfl trivial ?_
    refine ex_b (P := (4 * (cel (τ 4) 107)) ≤ (k : Int)) (ct := (cod m7_best 66, [some (.inl 0), some (.inr 2), some (.inr b), some (.inr mm), some (.inr (k : Int)), o5, o6, o7, o8], [], (zr τ 5 d))) (cf := (cod m7_best 23, [some (.inl 0), some (.inr 2), some (.inr b), some (.inr mm), some (.inr (k : Int)), o5, o6, o7, o8], [], (zr τ 5 d))) rfl ⟨⟨by omega, by omega⟩, ⟨by omega, by omega⟩⟩ (fun hh => absurd hh (by omega)) (fun _ => ?_)
    refine ex_k 2 (P := none) (g := (cod m7_best 25, [some (.inl 0), some (.inr 2), some (.inr b), some (.inr mm), some (.inr (k : Int)), o5, o6, o7, o8], [.inr 0, .inr (k : Int)], (zr τ 5 d))) rfl trivial ?_
    refine ex_c (s_nom_0 (τ := (zr τ 5 d)) (z := (k : Int)) (by omega)) (is := cod m7_best 26) (L := [some (.inl 0), some (.inr 2), some (.inr b), some (.inr mm), some (.inr (k : Int)), o5, o6, o7, o8]) (st := []) rfl rfl rfl ?_
    show Ex _ _ (cod m7_best 26, [some (.inl 0), some (.inr 2), some (.inr b), some (.inr mm), some (.inr (k : Int)), o5, o6, o7, o8], [.inr ((k : Int) / 4)], (zr τ 5 d)) _ _
    refine ex_k 3 (P := none) (g := (cod m7_best 29, [some (.inl 0), some (.inr 2), some (.inr b), some (.inr mm), some (.inr (k : Int)), some (.inr ((k : Int) / 4)), o6, o7, o8], [.inr 1, .inr (k : Int)], (zr τ 5 d))) rfl trivial ?_
    refine ex_c (s_nom_1 (τ := (zr τ 5 d)) (z := (k : Int)) (by omega)) (is := cod m7_best 30) (L := [some (.inl 0), some (.inr 2), some (.inr b), some (.inr mm), some (.inr (k : Int)), some (.inr ((k : Int) / 4)), o6, o7, o8]) (st := []) rfl rfl rfl ?_
    show Ex _ _ (cod m7_best 30, [some (.inl 0), some (.inr 2), some (.inr b), some (.inr mm), some (.inr (k : Int)), some (.inr ((k : Int) / 4)), o6, o7, o8], [.inr ((k : Int) / 2 % 2)], (zr τ 5 d)) _ _
    refine ex_k 3 (P := none) (g := (cod m7_best 33, [some (.inl 0), some (.inr 2), some (.inr b), some (.inr mm), some (.inr (k : Int)), some (.inr ((k : Int) / 4)), some (.inr ((k : Int) / 2 % 2)), o7, o8], [.inr 2, .inr (k : Int)], (zr τ 5 d))) rfl trivial ?_
    refine ex_c (s_nom_2 (τ := (zr τ 5 d)) (z := (k : Int)) (by omega)) (is := cod m7_best 34) (L := [some (.inl 0), some (.inr 2), some (.inr b), some (.inr mm), some (.inr (k : Int)), some (.inr ((k : Int) / 4)), some (.inr ((k : Int) / 2 % 2)), o7, o8]) (st := []) rfl rfl rfl ?_
    show Ex _ _ (cod m7_best 34, [some (.inl 0), some (.inr 2), some (.inr b), some (.inr mm), some (.inr (k : Int)), some (.inr ((k : Int) / 4)), some (.inr ((k : Int) / 2 % 2)), o7, o8], [.inr (1 - (k : Int) % 2)], (zr τ 5 d)) _ _
    refine ex_k 1 (P := none) (g := (cod m7_best 35, [some (.inl 0), some (.inr 2), some (.inr b), some (.inr mm), some (.inr (k : Int)), some (.inr ((k : Int) / 4)), some (.inr ((k : Int) / 2 % 2)), o7, o8], [.inr 1, .inr (1 - (k : Int) % 2)], (zr τ 5 d))) rfl trivial ?_
    refine ex_b (P := ¬ (1 - (k : Int) % 2) = 1) (ct := (cod m7_best 38, [some (.inl 0), some (.inr 2), some (.inr b), some (.inr mm), some (.inr (k : Int)), some (.inr ((k : Int) / 4)), some (.inr ((k : Int) / 2 % 2)), o7, o8], [], (zr τ 5 d))) (cf := (cod m7_best 36, [some (.inl 0), some (.inr 2), some (.inr b), some (.inr mm), some (.inr (k : Int)), some (.inr ((k : Int) / 4)), some (.inr ((k : Int) / 2 % 2)), o7, o8], [], (zr τ 5 d))) rfl ⟨⟨by omega, by omega⟩, ⟨by decide, by decide⟩⟩ (fun h2 => ?_) (fun h2 => ?_)
    · first
      | (exfalso; omega)
      | (
          refine ex_k 1 (P := none) (g := (cod m7_best 39, [some (.inl 0), some (.inr 2), some (.inr b), some (.inr mm), some (.inr (k : Int)), some (.inr ((k : Int) / 4)), some (.inr ((k : Int) / 2 % 2)), o7, o8], [.inr 0], (zr τ 5 d))) rfl trivial ?_
          refine ex_c (s_stepTo (τ := (zr τ 5 d)) (z := 0) ⟨by omega, by omega⟩) (is := cod m7_best 40) (L := [some (.inl 0), some (.inr 2), some (.inr b), some (.inr mm), some (.inr (k : Int)), some (.inr ((k : Int) / 4)), some (.inr ((k : Int) / 2 % 2)), o7, o8]) (st := []) rfl rfl rfl ?_
          show Ex _ _ (cod m7_best 40, [some (.inl 0), some (.inr 2), some (.inr b), some (.inr mm), some (.inr (k : Int)), some (.inr ((k : Int) / 4)), some (.inr ((k : Int) / 2 % 2)), o7, o8], [.inr (-1)], (zr τ 5 d)) _ _
          refine ex_k 6 (P := none) (g := (cod m7_best 46, [some (.inl 0), some (.inr 2), some (.inr b), some (.inr mm), some (.inr (k : Int)), some (.inr ((k : Int) / 4)), some (.inr ((k : Int) / 2 % 2)), some (.inr (-1)), o8], [.inr (-1), .inr ((k : Int) / 2 % 2), .inr ((k : Int) / 4), .inl 7], (zr τ 5 d))) rfl trivial ?_
          refine ex_c (s_outcomeNow (τ := (zr τ 5 d)) (f := (k : Int) / 4) (r := (k : Int) / 2 % 2) (s := (-1)) (Or.inl ⟨rfl, rfl, rfl⟩) (by omega) (by omega) (by omega) hS.cw) (is := cod m7_best 47) (L := [some (.inl 0), some (.inr 2), some (.inr b), some (.inr mm), some (.inr (k : Int)), some (.inr ((k : Int) / 4)), some (.inr ((k : Int) / 2 % 2)), some (.inr (-1)), o8]) (st := []) rfl rfl rfl ?_
          show Ex _ _ (cod m7_best 47, [some (.inl 0), some (.inr 2), some (.inr b), some (.inr mm), some (.inr (k : Int)), some (.inr ((k : Int) / 4)), some (.inr ((k : Int) / 2 % 2)), some (.inr (-1)), o8], [.inr (ocn (τ 4) ((k : Int) / 4) ((k : Int) / 2 % 2) (-1))], (zr τ 5 d)) _ _
          refine ex_c (s_isMove (τ := (zr τ 5 d)) (z := ocn (τ 4) ((k : Int) / 4) ((k : Int) / 2 % 2) (-1)) ⟨by omega, by omega⟩) (is := cod m7_best 48) (L := [some (.inl 0), some (.inr 2), some (.inr b), some (.inr mm), some (.inr (k : Int)), some (.inr ((k : Int) / 4)), some (.inr ((k : Int) / 2 % 2)), some (.inr (-1)), o8]) (st := []) rfl rfl rfl ?_
          show Ex _ _ (cod m7_best 48, [some (.inl 0), some (.inr 2), some (.inr b), some (.inr mm), some (.inr (k : Int)), some (.inr ((k : Int) / 4)), some (.inr ((k : Int) / 2 % 2)), some (.inr (-1)), o8], [.inr (b2 ((ocn (τ 4) ((k : Int) / 4) ((k : Int) / 2 % 2) (-1)) = 1 ∨ (ocn (τ 4) ((k : Int) / 4) ((k : Int) / 2 % 2) (-1)) = 2 ∨ (ocn (τ 4) ((k : Int) / 4) ((k : Int) / 2 % 2) (-1)) = 3))], (zr τ 5 d)) _ _
          refine ex_b (P := (b2 ((ocn (τ 4) ((k : Int) / 4) ((k : Int) / 2 % 2) (-1)) = 1 ∨ (ocn (τ 4) ((k : Int) / 4) ((k : Int) / 2 % 2) (-1)) = 2 ∨ (ocn (τ 4) ((k : Int) / 4) ((k : Int) / 2 % 2) (-1)) = 3)) = 0) (ct := (cod m7_best 64, [some (.inl 0), some (.inr 2), some (.inr b), some (.inr mm), some (.inr (k : Int)), some (.inr ((k : Int) / 4)), some (.inr ((k : Int) / 2 % 2)), some (.inr (-1)), o8], [], (zr τ 5 d))) (cf := (cod m7_best 49, [some (.inl 0), some (.inr 2), some (.inr b), some (.inr mm), some (.inr (k : Int)), some (.inr ((k : Int) / 4)), some (.inr ((k : Int) / 2 % 2)), some (.inr (-1)), o8], [], (zr τ 5 d))) rfl b2_rng (fun h3 => ?_) (fun h3 => ?_)
          · first
            | (exfalso; have h3 := b2_e0 h3; omega)
            | (
                have h3 := b2_e0 h3
                refine ex_k 2 (P := none) (g := (cod m7_best 15, [some (.inl 0), some (.inr 2), some (.inr b), some (.inr mm), some (.inr ((k : Int) + 1)), some (.inr ((k : Int) / 4)), some (.inr ((k : Int) / 2 % 2)), some (.inr (-1)), o8], [], (zr τ 5 d))) rfl trivial ?_
                exact ih (k + 1) (by omega) _ _ _ _ _ _ _ _ rfl (by (first | rw [bsb_t (hs1 (by omega)) (by omega) (by omega)] | rw [bsb_t (hs2 (by omega)) (by omega) (by omega)] | rw [bsb_f (hs1 (by omega)) (by omega) (by omega)] | rw [bsb_f (hs2 (by omega)) (by omega) (by omega)] | rw [bsb_n (hs1 (by omega)) (by omega)] | rw [bsb_n (hs2 (by omega)) (by omega)]) <;> (first | rfl | exact hb)) (by (first | rw [bsb_t (hs1 (by omega)) (by omega) (by omega)] | rw [bsb_t (hs2 (by omega)) (by omega) (by omega)] | rw [bsb_f (hs1 (by omega)) (by omega) (by omega)] | rw [bsb_f (hs2 (by omega)) (by omega) (by omega)] | rw [bsb_n (hs1 (by omega)) (by omega)] | rw [bsb_n (hs2 (by omega)) (by omega)]) <;> (first | rfl | exact hm)) (by (first | rw [bsd_t (hs1 (by omega)) (by omega)] | rw [bsd_t (hs2 (by omega)) (by omega)] | rw [bsd_n (hs1 (by omega)) (by omega)] | rw [bsd_n (hs2 (by omega)) (by omega)]) <;> (first | rfl | exact hd)))
          · first
            | (exfalso; have h3 := b2_n0 h3; omega)
            | (
                have h3 := b2_n0 h3
                refine ex_k 4 (P := none) (g := (cod m7_best 53, [some (.inl 0), some (.inr 2), some (.inr b), some (.inr mm), some (.inr (k : Int)), some (.inr ((k : Int) / 4)), some (.inr ((k : Int) / 2 % 2)), some (.inr (-1)), o8], [.inr (-1), .inr ((k : Int) / 2 % 2), .inr ((k : Int) / 4), .inl 0], (zr τ 5 d))) rfl trivial ?_
                refine ex_c (s_gainBy (τ := (zr τ 5 d)) (f := (k : Int) / 4) (r := (k : Int) / 2 % 2) (s := (-1)) hI hB hT5 (show 0 ≤ ((k : Int) / 4) ∧ ((k : Int) / 4) < cel (τ 4) 107 by omega) (by omega) (by omega) (ocn_mv (show ocn (τ 4) ((k : Int) / 4) ((k : Int) / 2 % 2) (-1) = 1 ∨ ocn (τ 4) ((k : Int) / 4) ((k : Int) / 2 % 2) (-1) = 2 ∨ ocn (τ 4) ((k : Int) / 4) ((k : Int) / 2 % 2) (-1) = 3 by omega))) (is := cod m7_best 54) (L := [some (.inl 0), some (.inr 2), some (.inr b), some (.inr mm), some (.inr (k : Int)), some (.inr ((k : Int) / 4)), some (.inr ((k : Int) / 2 % 2)), some (.inr (-1)), o8]) (st := []) rfl rfl rfl ?_
                show Ex _ _ (cod m7_best 54, [some (.inl 0), some (.inr 2), some (.inr b), some (.inr mm), some (.inr (k : Int)), some (.inr ((k : Int) / 4)), some (.inr ((k : Int) / 2 % 2)), some (.inr (-1)), o8], [.inr (gnb (τ 4) ((k : Int) / 4) ((k : Int) / 2 % 2) (-1))], (zr (zr τ 5 d) 5 (mkm (τ 4) ((k : Int) / 4) ((k : Int) / 2 % 2) (-1)))) _ _
                rw [zr_zr]
                refine ex_k 2 (P := none) (g := (cod m7_best 56, [some (.inl 0), some (.inr 2), some (.inr b), some (.inr mm), some (.inr (k : Int)), some (.inr ((k : Int) / 4)), some (.inr ((k : Int) / 2 % 2)), some (.inr (-1)), some (.inr (gnb (τ 4) ((k : Int) / 4) ((k : Int) / 2 % 2) (-1)))], [.inr b], (zr τ 5 (mkm (τ 4) ((k : Int) / 4) ((k : Int) / 2 % 2) (-1))))) rfl trivial ?_
                refine ex_b (P := b < 0) (ct := (cod m7_best 60, [some (.inl 0), some (.inr 2), some (.inr b), some (.inr mm), some (.inr (k : Int)), some (.inr ((k : Int) / 4)), some (.inr ((k : Int) / 2 % 2)), some (.inr (-1)), some (.inr (gnb (τ 4) ((k : Int) / 4) ((k : Int) / 2 % 2) (-1)))], [], (zr τ 5 (mkm (τ 4) ((k : Int) / 4) ((k : Int) / 2 % 2) (-1))))) (cf := (cod m7_best 57, [some (.inl 0), some (.inr 2), some (.inr b), some (.inr mm), some (.inr (k : Int)), some (.inr ((k : Int) / 4)), some (.inr ((k : Int) / 2 % 2)), some (.inr (-1)), some (.inr (gnb (τ 4) ((k : Int) / 4) ((k : Int) / 2 % 2) (-1)))], [], (zr τ 5 (mkm (τ 4) ((k : Int) / 4) ((k : Int) / 2 % 2) (-1))))) rfl ⟨by omega, by omega⟩ (fun h4 => ?_) (fun h4 => ?_)
                · first
                  | (exfalso; omega)
                  | (
                      refine ex_k 6 (P := none) (g := (cod m7_best 15, [some (.inl 0), some (.inr 2), some (.inr (k : Int)), some (.inr (gnb (τ 4) ((k : Int) / 4) ((k : Int) / 2 % 2) (-1))), some (.inr ((k : Int) + 1)), some (.inr ((k : Int) / 4)), some (.inr ((k : Int) / 2 % 2)), some (.inr (-1)), some (.inr (gnb (τ 4) ((k : Int) / 4) ((k : Int) / 2 % 2) (-1)))], [], (zr τ 5 (mkm (τ 4) ((k : Int) / 4) ((k : Int) / 2 % 2) (-1))))) rfl trivial ?_
                      exact ih (k + 1) (by omega) _ _ _ _ _ _ _ _ rfl (by (first | rw [bsb_t (hs1 (by omega)) (by omega) (by omega)] | rw [bsb_t (hs2 (by omega)) (by omega) (by omega)] | rw [bsb_f (hs1 (by omega)) (by omega) (by omega)] | rw [bsb_f (hs2 (by omega)) (by omega) (by omega)] | rw [bsb_n (hs1 (by omega)) (by omega)] | rw [bsb_n (hs2 (by omega)) (by omega)]) <;> (first | rfl | exact hb)) (by (first | rw [bsb_t (hs1 (by omega)) (by omega) (by omega)] | rw [bsb_t (hs2 (by omega)) (by omega) (by omega)] | rw [bsb_f (hs1 (by omega)) (by omega) (by omega)] | rw [bsb_f (hs2 (by omega)) (by omega) (by omega)] | rw [bsb_n (hs1 (by omega)) (by omega)] | rw [bsb_n (hs2 (by omega)) (by omega)]) <;> (first | rfl | exact hm)) (by (first | rw [bsd_t (hs1 (by omega)) (by omega)] | rw [bsd_t (hs2 (by omega)) (by omega)] | rw [bsd_n (hs1 (by omega)) (by omega)] | rw [bsd_n (hs2 (by omega)) (by omega)]) <;> (first | rfl | exact hd)))
                · first
                  | (exfalso; omega)
                  | (
                      refine ex_k 2 (P := none) (g := (cod m7_best 59, [some (.inl 0), some (.inr 2), some (.inr b), some (.inr mm), some (.inr (k : Int)), some (.inr ((k : Int) / 4)), some (.inr ((k : Int) / 2 % 2)), some (.inr (-1)), some (.inr (gnb (τ 4) ((k : Int) / 4) ((k : Int) / 2 % 2) (-1)))], [.inr mm, .inr (gnb (τ 4) ((k : Int) / 4) ((k : Int) / 2 % 2) (-1))], (zr τ 5 (mkm (τ 4) ((k : Int) / 4) ((k : Int) / 2 % 2) (-1))))) rfl trivial ?_
                      refine ex_b (P := (gnb (τ 4) ((k : Int) / 4) ((k : Int) / 2 % 2) (-1)) ≤ mm) (ct := (cod m7_best 64, [some (.inl 0), some (.inr 2), some (.inr b), some (.inr mm), some (.inr (k : Int)), some (.inr ((k : Int) / 4)), some (.inr ((k : Int) / 2 % 2)), some (.inr (-1)), some (.inr (gnb (τ 4) ((k : Int) / 4) ((k : Int) / 2 % 2) (-1)))], [], (zr τ 5 (mkm (τ 4) ((k : Int) / 4) ((k : Int) / 2 % 2) (-1))))) (cf := (cod m7_best 60, [some (.inl 0), some (.inr 2), some (.inr b), some (.inr mm), some (.inr (k : Int)), some (.inr ((k : Int) / 4)), some (.inr ((k : Int) / 2 % 2)), some (.inr (-1)), some (.inr (gnb (τ 4) ((k : Int) / 4) ((k : Int) / 2 % 2) (-1)))], [], (zr τ 5 (mkm (τ 4) ((k : Int) / 4) ((k : Int) / 2 % 2) (-1))))) rfl ⟨⟨by omega, by omega⟩, ⟨by omega, by omega⟩⟩ (fun h5 => ?_) (fun h5 => ?_)
                      · first
                        | (exfalso; omega)
                        | (
                            refine ex_k 2 (P := none) (g := (cod m7_best 15, [some (.inl 0), some (.inr 2), some (.inr b), some (.inr mm), some (.inr ((k : Int) + 1)), some (.inr ((k : Int) / 4)), some (.inr ((k : Int) / 2 % 2)), some (.inr (-1)), some (.inr (gnb (τ 4) ((k : Int) / 4) ((k : Int) / 2 % 2) (-1)))], [], (zr τ 5 (mkm (τ 4) ((k : Int) / 4) ((k : Int) / 2 % 2) (-1))))) rfl trivial ?_
                            exact ih (k + 1) (by omega) _ _ _ _ _ _ _ _ rfl (by (first | rw [bsb_t (hs1 (by omega)) (by omega) (by omega)] | rw [bsb_t (hs2 (by omega)) (by omega) (by omega)] | rw [bsb_f (hs1 (by omega)) (by omega) (by omega)] | rw [bsb_f (hs2 (by omega)) (by omega) (by omega)] | rw [bsb_n (hs1 (by omega)) (by omega)] | rw [bsb_n (hs2 (by omega)) (by omega)]) <;> (first | rfl | exact hb)) (by (first | rw [bsb_t (hs1 (by omega)) (by omega) (by omega)] | rw [bsb_t (hs2 (by omega)) (by omega) (by omega)] | rw [bsb_f (hs1 (by omega)) (by omega) (by omega)] | rw [bsb_f (hs2 (by omega)) (by omega) (by omega)] | rw [bsb_n (hs1 (by omega)) (by omega)] | rw [bsb_n (hs2 (by omega)) (by omega)]) <;> (first | rfl | exact hm)) (by (first | rw [bsd_t (hs1 (by omega)) (by omega)] | rw [bsd_t (hs2 (by omega)) (by omega)] | rw [bsd_n (hs1 (by omega)) (by omega)] | rw [bsd_n (hs2 (by omega)) (by omega)]) <;> (first | rfl | exact hd)))
                      · first
                        | (exfalso; omega)
                        | (
                            refine ex_k 6 (P := none) (g := (cod m7_best 15, [some (.inl 0), some (.inr 2), some (.inr (k : Int)), some (.inr (gnb (τ 4) ((k : Int) / 4) ((k : Int) / 2 % 2) (-1))), some (.inr ((k : Int) + 1)), some (.inr ((k : Int) / 4)), some (.inr ((k : Int) / 2 % 2)), some (.inr (-1)), some (.inr (gnb (τ 4) ((k : Int) / 4) ((k : Int) / 2 % 2) (-1)))], [], (zr τ 5 (mkm (τ 4) ((k : Int) / 4) ((k : Int) / 2 % 2) (-1))))) rfl trivial ?_
                            exact ih (k + 1) (by omega) _ _ _ _ _ _ _ _ rfl (by (first | rw [bsb_t (hs1 (by omega)) (by omega) (by omega)] | rw [bsb_t (hs2 (by omega)) (by omega) (by omega)] | rw [bsb_f (hs1 (by omega)) (by omega) (by omega)] | rw [bsb_f (hs2 (by omega)) (by omega) (by omega)] | rw [bsb_n (hs1 (by omega)) (by omega)] | rw [bsb_n (hs2 (by omega)) (by omega)]) <;> (first | rfl | exact hb)) (by (first | rw [bsb_t (hs1 (by omega)) (by omega) (by omega)] | rw [bsb_t (hs2 (by omega)) (by omega) (by omega)] | rw [bsb_f (hs1 (by omega)) (by omega) (by omega)] | rw [bsb_f (hs2 (by omega)) (by omega) (by omega)] | rw [bsb_n (hs1 (by omega)) (by omega)] | rw [bsb_n (hs2 (by omega)) (by omega)]) <;> (first | rfl | exact hm)) (by (first | rw [bsd_t (hs1 (by omega)) (by omega)] | rw [bsd_t (hs2 (by omega)) (by omega)] | rw [bsd_n (hs1 (by omega)) (by omega)] | rw [bsd_n (hs2 (by omega)) (by omega)]) <;> (first | rfl | exact hd))))))
    · first
      | (exfalso; omega)
      | (
          refine ex_k 2 (P := none) (g := (cod m7_best 39, [some (.inl 0), some (.inr 2), some (.inr b), some (.inr mm), some (.inr (k : Int)), some (.inr ((k : Int) / 4)), some (.inr ((k : Int) / 2 % 2)), o7, o8], [.inr 1], (zr τ 5 d))) rfl trivial ?_
          refine ex_c (s_stepTo (τ := (zr τ 5 d)) (z := 1) ⟨by omega, by omega⟩) (is := cod m7_best 40) (L := [some (.inl 0), some (.inr 2), some (.inr b), some (.inr mm), some (.inr (k : Int)), some (.inr ((k : Int) / 4)), some (.inr ((k : Int) / 2 % 2)), o7, o8]) (st := []) rfl rfl rfl ?_
          show Ex _ _ (cod m7_best 40, [some (.inl 0), some (.inr 2), some (.inr b), some (.inr mm), some (.inr (k : Int)), some (.inr ((k : Int) / 4)), some (.inr ((k : Int) / 2 % 2)), o7, o8], [.inr 1], (zr τ 5 d)) _ _
          refine ex_k 6 (P := none) (g := (cod m7_best 46, [some (.inl 0), some (.inr 2), some (.inr b), some (.inr mm), some (.inr (k : Int)), some (.inr ((k : Int) / 4)), some (.inr ((k : Int) / 2 % 2)), some (.inr 1), o8], [.inr 1, .inr ((k : Int) / 2 % 2), .inr ((k : Int) / 4), .inl 7], (zr τ 5 d))) rfl trivial ?_
          refine ex_c (s_outcomeNow (τ := (zr τ 5 d)) (f := (k : Int) / 4) (r := (k : Int) / 2 % 2) (s := 1) (Or.inl ⟨rfl, rfl, rfl⟩) (by omega) (by omega) (by omega) hS.cw) (is := cod m7_best 47) (L := [some (.inl 0), some (.inr 2), some (.inr b), some (.inr mm), some (.inr (k : Int)), some (.inr ((k : Int) / 4)), some (.inr ((k : Int) / 2 % 2)), some (.inr 1), o8]) (st := []) rfl rfl rfl ?_
          show Ex _ _ (cod m7_best 47, [some (.inl 0), some (.inr 2), some (.inr b), some (.inr mm), some (.inr (k : Int)), some (.inr ((k : Int) / 4)), some (.inr ((k : Int) / 2 % 2)), some (.inr 1), o8], [.inr (ocn (τ 4) ((k : Int) / 4) ((k : Int) / 2 % 2) 1)], (zr τ 5 d)) _ _
          refine ex_c (s_isMove (τ := (zr τ 5 d)) (z := ocn (τ 4) ((k : Int) / 4) ((k : Int) / 2 % 2) 1) ⟨by omega, by omega⟩) (is := cod m7_best 48) (L := [some (.inl 0), some (.inr 2), some (.inr b), some (.inr mm), some (.inr (k : Int)), some (.inr ((k : Int) / 4)), some (.inr ((k : Int) / 2 % 2)), some (.inr 1), o8]) (st := []) rfl rfl rfl ?_
          show Ex _ _ (cod m7_best 48, [some (.inl 0), some (.inr 2), some (.inr b), some (.inr mm), some (.inr (k : Int)), some (.inr ((k : Int) / 4)), some (.inr ((k : Int) / 2 % 2)), some (.inr 1), o8], [.inr (b2 ((ocn (τ 4) ((k : Int) / 4) ((k : Int) / 2 % 2) 1) = 1 ∨ (ocn (τ 4) ((k : Int) / 4) ((k : Int) / 2 % 2) 1) = 2 ∨ (ocn (τ 4) ((k : Int) / 4) ((k : Int) / 2 % 2) 1) = 3))], (zr τ 5 d)) _ _
          refine ex_b (P := (b2 ((ocn (τ 4) ((k : Int) / 4) ((k : Int) / 2 % 2) 1) = 1 ∨ (ocn (τ 4) ((k : Int) / 4) ((k : Int) / 2 % 2) 1) = 2 ∨ (ocn (τ 4) ((k : Int) / 4) ((k : Int) / 2 % 2) 1) = 3)) = 0) (ct := (cod m7_best 64, [some (.inl 0), some (.inr 2), some (.inr b), some (.inr mm), some (.inr (k : Int)), some (.inr ((k : Int) / 4)), some (.inr ((k : Int) / 2 % 2)), some (.inr 1), o8], [], (zr τ 5 d))) (cf := (cod m7_best 49, [some (.inl 0), some (.inr 2), some (.inr b), some (.inr mm), some (.inr (k : Int)), some (.inr ((k : Int) / 4)), some (.inr ((k : Int) / 2 % 2)), some (.inr 1), o8], [], (zr τ 5 d))) rfl b2_rng (fun h6 => ?_) (fun h6 => ?_)
          · first
            | (exfalso; have h6 := b2_e0 h6; omega)
            | (
                have h6 := b2_e0 h6
                refine ex_k 2 (P := none) (g := (cod m7_best 15, [some (.inl 0), some (.inr 2), some (.inr b), some (.inr mm), some (.inr ((k : Int) + 1)), some (.inr ((k : Int) / 4)), some (.inr ((k : Int) / 2 % 2)), some (.inr 1), o8], [], (zr τ 5 d))) rfl trivial ?_
                exact ih (k + 1) (by omega) _ _ _ _ _ _ _ _ rfl (by (first | rw [bsb_t (hs1 (by omega)) (by omega) (by omega)] | rw [bsb_t (hs2 (by omega)) (by omega) (by omega)] | rw [bsb_f (hs1 (by omega)) (by omega) (by omega)] | rw [bsb_f (hs2 (by omega)) (by omega) (by omega)] | rw [bsb_n (hs1 (by omega)) (by omega)] | rw [bsb_n (hs2 (by omega)) (by omega)]) <;> (first | rfl | exact hb)) (by (first | rw [bsb_t (hs1 (by omega)) (by omega) (by omega)] | rw [bsb_t (hs2 (by omega)) (by omega) (by omega)] | rw [bsb_f (hs1 (by omega)) (by omega) (by omega)] | rw [bsb_f (hs2 (by omega)) (by omega) (by omega)] | rw [bsb_n (hs1 (by omega)) (by omega)] | rw [bsb_n (hs2 (by omega)) (by omega)]) <;> (first | rfl | exact hm)) (by (first | rw [bsd_t (hs1 (by omega)) (by omega)] | rw [bsd_t (hs2 (by omega)) (by omega)] | rw [bsd_n (hs1 (by omega)) (by omega)] | rw [bsd_n (hs2 (by omega)) (by omega)]) <;> (first | rfl | exact hd)))
          · first
            | (exfalso; have h6 := b2_n0 h6; omega)
            | (
                have h6 := b2_n0 h6
                refine ex_k 4 (P := none) (g := (cod m7_best 53, [some (.inl 0), some (.inr 2), some (.inr b), some (.inr mm), some (.inr (k : Int)), some (.inr ((k : Int) / 4)), some (.inr ((k : Int) / 2 % 2)), some (.inr 1), o8], [.inr 1, .inr ((k : Int) / 2 % 2), .inr ((k : Int) / 4), .inl 0], (zr τ 5 d))) rfl trivial ?_
                refine ex_c (s_gainBy (τ := (zr τ 5 d)) (f := (k : Int) / 4) (r := (k : Int) / 2 % 2) (s := 1) hI hB hT5 (show 0 ≤ ((k : Int) / 4) ∧ ((k : Int) / 4) < cel (τ 4) 107 by omega) (by omega) (by omega) (ocn_mv (show ocn (τ 4) ((k : Int) / 4) ((k : Int) / 2 % 2) 1 = 1 ∨ ocn (τ 4) ((k : Int) / 4) ((k : Int) / 2 % 2) 1 = 2 ∨ ocn (τ 4) ((k : Int) / 4) ((k : Int) / 2 % 2) 1 = 3 by omega))) (is := cod m7_best 54) (L := [some (.inl 0), some (.inr 2), some (.inr b), some (.inr mm), some (.inr (k : Int)), some (.inr ((k : Int) / 4)), some (.inr ((k : Int) / 2 % 2)), some (.inr 1), o8]) (st := []) rfl rfl rfl ?_
                show Ex _ _ (cod m7_best 54, [some (.inl 0), some (.inr 2), some (.inr b), some (.inr mm), some (.inr (k : Int)), some (.inr ((k : Int) / 4)), some (.inr ((k : Int) / 2 % 2)), some (.inr 1), o8], [.inr (gnb (τ 4) ((k : Int) / 4) ((k : Int) / 2 % 2) 1)], (zr (zr τ 5 d) 5 (mkm (τ 4) ((k : Int) / 4) ((k : Int) / 2 % 2) 1))) _ _
                rw [zr_zr]
                refine ex_k 2 (P := none) (g := (cod m7_best 56, [some (.inl 0), some (.inr 2), some (.inr b), some (.inr mm), some (.inr (k : Int)), some (.inr ((k : Int) / 4)), some (.inr ((k : Int) / 2 % 2)), some (.inr 1), some (.inr (gnb (τ 4) ((k : Int) / 4) ((k : Int) / 2 % 2) 1))], [.inr b], (zr τ 5 (mkm (τ 4) ((k : Int) / 4) ((k : Int) / 2 % 2) 1)))) rfl trivial ?_
                refine ex_b (P := b < 0) (ct := (cod m7_best 60, [some (.inl 0), some (.inr 2), some (.inr b), some (.inr mm), some (.inr (k : Int)), some (.inr ((k : Int) / 4)), some (.inr ((k : Int) / 2 % 2)), some (.inr 1), some (.inr (gnb (τ 4) ((k : Int) / 4) ((k : Int) / 2 % 2) 1))], [], (zr τ 5 (mkm (τ 4) ((k : Int) / 4) ((k : Int) / 2 % 2) 1)))) (cf := (cod m7_best 57, [some (.inl 0), some (.inr 2), some (.inr b), some (.inr mm), some (.inr (k : Int)), some (.inr ((k : Int) / 4)), some (.inr ((k : Int) / 2 % 2)), some (.inr 1), some (.inr (gnb (τ 4) ((k : Int) / 4) ((k : Int) / 2 % 2) 1))], [], (zr τ 5 (mkm (τ 4) ((k : Int) / 4) ((k : Int) / 2 % 2) 1)))) rfl ⟨by omega, by omega⟩ (fun h7 => ?_) (fun h7 => ?_)
                · first
                  | (exfalso; omega)
                  | (
                      refine ex_k 6 (P := none) (g := (cod m7_best 15, [some (.inl 0), some (.inr 2), some (.inr (k : Int)), some (.inr (gnb (τ 4) ((k : Int) / 4) ((k : Int) / 2 % 2) 1)), some (.inr ((k : Int) + 1)), some (.inr ((k : Int) / 4)), some (.inr ((k : Int) / 2 % 2)), some (.inr 1), some (.inr (gnb (τ 4) ((k : Int) / 4) ((k : Int) / 2 % 2) 1))], [], (zr τ 5 (mkm (τ 4) ((k : Int) / 4) ((k : Int) / 2 % 2) 1)))) rfl trivial ?_
                      exact ih (k + 1) (by omega) _ _ _ _ _ _ _ _ rfl (by (first | rw [bsb_t (hs1 (by omega)) (by omega) (by omega)] | rw [bsb_t (hs2 (by omega)) (by omega) (by omega)] | rw [bsb_f (hs1 (by omega)) (by omega) (by omega)] | rw [bsb_f (hs2 (by omega)) (by omega) (by omega)] | rw [bsb_n (hs1 (by omega)) (by omega)] | rw [bsb_n (hs2 (by omega)) (by omega)]) <;> (first | rfl | exact hb)) (by (first | rw [bsb_t (hs1 (by omega)) (by omega) (by omega)] | rw [bsb_t (hs2 (by omega)) (by omega) (by omega)] | rw [bsb_f (hs1 (by omega)) (by omega) (by omega)] | rw [bsb_f (hs2 (by omega)) (by omega) (by omega)] | rw [bsb_n (hs1 (by omega)) (by omega)] | rw [bsb_n (hs2 (by omega)) (by omega)]) <;> (first | rfl | exact hm)) (by (first | rw [bsd_t (hs1 (by omega)) (by omega)] | rw [bsd_t (hs2 (by omega)) (by omega)] | rw [bsd_n (hs1 (by omega)) (by omega)] | rw [bsd_n (hs2 (by omega)) (by omega)]) <;> (first | rfl | exact hd)))
                · first
                  | (exfalso; omega)
                  | (
                      refine ex_k 2 (P := none) (g := (cod m7_best 59, [some (.inl 0), some (.inr 2), some (.inr b), some (.inr mm), some (.inr (k : Int)), some (.inr ((k : Int) / 4)), some (.inr ((k : Int) / 2 % 2)), some (.inr 1), some (.inr (gnb (τ 4) ((k : Int) / 4) ((k : Int) / 2 % 2) 1))], [.inr mm, .inr (gnb (τ 4) ((k : Int) / 4) ((k : Int) / 2 % 2) 1)], (zr τ 5 (mkm (τ 4) ((k : Int) / 4) ((k : Int) / 2 % 2) 1)))) rfl trivial ?_
                      refine ex_b (P := (gnb (τ 4) ((k : Int) / 4) ((k : Int) / 2 % 2) 1) ≤ mm) (ct := (cod m7_best 64, [some (.inl 0), some (.inr 2), some (.inr b), some (.inr mm), some (.inr (k : Int)), some (.inr ((k : Int) / 4)), some (.inr ((k : Int) / 2 % 2)), some (.inr 1), some (.inr (gnb (τ 4) ((k : Int) / 4) ((k : Int) / 2 % 2) 1))], [], (zr τ 5 (mkm (τ 4) ((k : Int) / 4) ((k : Int) / 2 % 2) 1)))) (cf := (cod m7_best 60, [some (.inl 0), some (.inr 2), some (.inr b), some (.inr mm), some (.inr (k : Int)), some (.inr ((k : Int) / 4)), some (.inr ((k : Int) / 2 % 2)), some (.inr 1), some (.inr (gnb (τ 4) ((k : Int) / 4) ((k : Int) / 2 % 2) 1))], [], (zr τ 5 (mkm (τ 4) ((k : Int) / 4) ((k : Int) / 2 % 2) 1)))) rfl ⟨⟨by omega, by omega⟩, ⟨by omega, by omega⟩⟩ (fun h8 => ?_) (fun h8 => ?_)
                      · first
                        | (exfalso; omega)
                        | (
                            refine ex_k 2 (P := none) (g := (cod m7_best 15, [some (.inl 0), some (.inr 2), some (.inr b), some (.inr mm), some (.inr ((k : Int) + 1)), some (.inr ((k : Int) / 4)), some (.inr ((k : Int) / 2 % 2)), some (.inr 1), some (.inr (gnb (τ 4) ((k : Int) / 4) ((k : Int) / 2 % 2) 1))], [], (zr τ 5 (mkm (τ 4) ((k : Int) / 4) ((k : Int) / 2 % 2) 1)))) rfl trivial ?_
                            exact ih (k + 1) (by omega) _ _ _ _ _ _ _ _ rfl (by (first | rw [bsb_t (hs1 (by omega)) (by omega) (by omega)] | rw [bsb_t (hs2 (by omega)) (by omega) (by omega)] | rw [bsb_f (hs1 (by omega)) (by omega) (by omega)] | rw [bsb_f (hs2 (by omega)) (by omega) (by omega)] | rw [bsb_n (hs1 (by omega)) (by omega)] | rw [bsb_n (hs2 (by omega)) (by omega)]) <;> (first | rfl | exact hb)) (by (first | rw [bsb_t (hs1 (by omega)) (by omega) (by omega)] | rw [bsb_t (hs2 (by omega)) (by omega) (by omega)] | rw [bsb_f (hs1 (by omega)) (by omega) (by omega)] | rw [bsb_f (hs2 (by omega)) (by omega) (by omega)] | rw [bsb_n (hs1 (by omega)) (by omega)] | rw [bsb_n (hs2 (by omega)) (by omega)]) <;> (first | rfl | exact hm)) (by (first | rw [bsd_t (hs1 (by omega)) (by omega)] | rw [bsd_t (hs2 (by omega)) (by omega)] | rw [bsd_n (hs1 (by omega)) (by omega)] | rw [bsd_n (hs2 (by omega)) (by omega)]) <;> (first | rfl | exact hd)))
                      · first
                        | (exfalso; omega)
                        | (
                            refine ex_k 6 (P := none) (g := (cod m7_best 15, [some (.inl 0), some (.inr 2), some (.inr (k : Int)), some (.inr (gnb (τ 4) ((k : Int) / 4) ((k : Int) / 2 % 2) 1)), some (.inr ((k : Int) + 1)), some (.inr ((k : Int) / 4)), some (.inr ((k : Int) / 2 % 2)), some (.inr 1), some (.inr (gnb (τ 4) ((k : Int) / 4) ((k : Int) / 2 % 2) 1))], [], (zr τ 5 (mkm (τ 4) ((k : Int) / 4) ((k : Int) / 2 % 2) 1)))) rfl trivial ?_
                            exact ih (k + 1) (by omega) _ _ _ _ _ _ _ _ rfl (by (first | rw [bsb_t (hs1 (by omega)) (by omega) (by omega)] | rw [bsb_t (hs2 (by omega)) (by omega) (by omega)] | rw [bsb_f (hs1 (by omega)) (by omega) (by omega)] | rw [bsb_f (hs2 (by omega)) (by omega) (by omega)] | rw [bsb_n (hs1 (by omega)) (by omega)] | rw [bsb_n (hs2 (by omega)) (by omega)]) <;> (first | rfl | exact hb)) (by (first | rw [bsb_t (hs1 (by omega)) (by omega) (by omega)] | rw [bsb_t (hs2 (by omega)) (by omega) (by omega)] | rw [bsb_f (hs1 (by omega)) (by omega) (by omega)] | rw [bsb_f (hs2 (by omega)) (by omega) (by omega)] | rw [bsb_n (hs1 (by omega)) (by omega)] | rw [bsb_n (hs2 (by omega)) (by omega)]) <;> (first | rfl | exact hm)) (by (first | rw [bsd_t (hs1 (by omega)) (by omega)] | rw [bsd_t (hs2 (by omega)) (by omega)] | rw [bsd_n (hs1 (by omega)) (by omega)] | rw [bsd_n (hs2 (by omega)) (by omega)]) <;> (first | rfl | exact hd))))))
theorem c_best_2 {τ : SZ} {B : Int} (hI : Iv B (τ 4)) (hB : B + 7 ≤ 100000000) (hT5 : Tz (τ 5)) : RZ 8 m7_best [.inl 0, .inr 2] τ (if (bsb (τ 4) (4 * cel (τ 4) 107).toNat).1 < 0 then .inr ("java/util/NoSuchElementException", zr τ 5 (bsd (τ 4) (τ 5) (4 * cel (τ 4) 107).toNat)) else .inl (some (.inr (if (2 : Int) = 0 then (bsb (τ 4) (4 * cel (τ 4) 107).toNat).1 / 4 else if (2 : Int) = 1 then (bsb (τ 4) (4 * cel (τ 4) 107).toNat).1 / 2 % 2 else 1 - (bsb (τ 4) (4 * cel (τ 4) 107).toNat).1 % 2)), zr τ 5 (bsd (τ 4) (τ 5) (4 * cel (τ 4) 107).toNat))) := by
  have hS := hI.1
  have hN := hS.n
  refine Ex.call ?_ rfl rfl
  show Ex _ _ (cod m7_best 0, [some (.inl 0), some (.inr 2), none, none, none, none, none, none, none], [], τ) _ _
  refine ex_k 1 (P := none) (g := (cod m7_best 1, [some (.inl 0), some (.inr 2), none, none, none, none, none, none, none], [.inr 2], τ)) rfl trivial ?_
  refine ex_b (P := 2 < 0) (ct := (cod m7_best 5, [some (.inl 0), some (.inr 2), none, none, none, none, none, none, none], [], τ)) (cf := (cod m7_best 2, [some (.inl 0), some (.inr 2), none, none, none, none, none, none, none], [], τ)) rfl ⟨by decide, by decide⟩ (fun hh => absurd hh (by decide)) (fun _ => ?_)
  refine ex_k 2 (P := none) (g := (cod m7_best 4, [some (.inl 0), some (.inr 2), none, none, none, none, none, none, none], [.inr 2, .inr 2], τ)) rfl trivial ?_
  refine ex_b (P := 2 ≤ 2) (ct := (cod m7_best 9, [some (.inl 0), some (.inr 2), none, none, none, none, none, none, none], [], τ)) (cf := (cod m7_best 5, [some (.inl 0), some (.inr 2), none, none, none, none, none, none, none], [], τ)) rfl ⟨⟨by decide, by decide⟩, ⟨by decide, by decide⟩⟩ (fun _ => ?_) (fun hh => absurd (by decide) hh)
  refine ex_k 6 (P := none) (g := (cod m7_best 15, [some (.inl 0), some (.inr 2), some (.inr (-1)), some (.inr 0), some (.inr 0), none, none, none, none], [], τ)) rfl trivial ?_
  have q := lp_best_2 (τ := τ) (d0 := τ 5) (M := (4 * cel (τ 4) 107).toNat) hI hB hT5 (by omega) (4 * cel (τ 4) 107).toNat 0 (by omega) 0 (-1) 0 (τ 5) none none none none rfl rfl rfl rfl
  rw [zr_self] at q
  exact q
theorem c_best_x {w : Int} {τ : SZ} (hw : Rng w) (hx : ¬ (0 ≤ w ∧ w ≤ 2)) : RZ 8 m7_best [.inl 0, .inr w] τ (.inr ("java/lang/IllegalArgumentException", τ)) := by
  obtain ⟨hw1, hw2⟩ := hw
  refine Ex.call ?_ rfl rfl
  show Ex _ _ (cod m7_best 0, [some (.inl 0), some (.inr w), none, none, none, none, none, none, none], [], τ) _ _
  refine ex_k 1 (P := none) (g := (cod m7_best 1, [some (.inl 0), some (.inr w), none, none, none, none, none, none, none], [.inr w], τ)) rfl trivial ?_
  refine ex_b (P := w < 0) (ct := (cod m7_best 5, [some (.inl 0), some (.inr w), none, none, none, none, none, none, none], [], τ)) (cf := (cod m7_best 2, [some (.inl 0), some (.inr w), none, none, none, none, none, none, none], [], τ)) rfl ⟨by omega, by omega⟩ (fun h1 => ?_) (fun h1 => ?_)
  · first
    | (exfalso; omega)
    | (
        exact ex_t rfl rfl (rfl))
  · first
    | (exfalso; omega)
    | (
        refine ex_k 2 (P := none) (g := (cod m7_best 4, [some (.inl 0), some (.inr w), none, none, none, none, none, none, none], [.inr 2, .inr w], τ)) rfl trivial ?_
        refine ex_b (P := w ≤ 2) (ct := (cod m7_best 9, [some (.inl 0), some (.inr w), none, none, none, none, none, none, none], [], τ)) (cf := (cod m7_best 5, [some (.inl 0), some (.inr w), none, none, none, none, none, none, none], [], τ)) rfl ⟨⟨by omega, by omega⟩, ⟨by decide, by decide⟩⟩ (fun hh => absurd hh (by omega)) (fun _ => ?_)
        exact ex_t rfl rfl (rfl))
def ffs (a : Nat → Int) (p : Int) : Nat → Nat → Int
  | 0, _ => -1
  | j + 1, k => if a k = p then (k : Int) else ffs a p j (k + 1)
theorem ffs_in {a : Nat → Int} {p : Int} : ∀ (j k : Nat), ffs a p j k = -1 ∨ ((k : Int) ≤ ffs a p j k ∧ ffs a p j k < (k : Int) + (j : Int))
  | 0, _ => Or.inl rfl
  | j + 1, k => by
    unfold ffs
    have h := ffs_in (a := a) (p := p) j (k + 1)
    split <;> omega
theorem lp_boldest {p : Int} {τ : SZ} {B : Int} (hS : Sh B (τ 4)) {N : Nat} (hn : cel (τ 4) 107 = (N : Int)) (hp : Rng p) : ∀ (j k : Nat), k + j = N → Ex 6 m7_boldest (cod m7_boldest 2, [some (.inl 0), some (.inr p), some (.inr (k : Int))], [], τ) 0 (if ffs (fun f => ahd (fun k => bdn (τ 4) (k : Int)) f N) p j k = -1 then .inr ("java/util/NoSuchElementException", τ) else .inl (some (.inr (ffs (fun f => ahd (fun k => bdn (τ 4) (k : Int)) f N) p j k)), τ)) := by
  obtain ⟨hp1, hp2⟩ := hp
  intro j
  induction j with
  | zero =>
    intro k hk
    have hN := hS.n
    refine ex_k 4 (P := none) (g := (cod m7_boldest 6, [some (.inl 0), some (.inr p), some (.inr (k : Int))], [.inr 7, .inl 1, .inr (k : Int)], τ)) rfl trivial ?_
    refine ex_c (s_total (τ := τ) (w := 7) (Or.inl ⟨rfl, rfl⟩) (by omega)) (is := cod m7_boldest 7) (L := [some (.inl 0), some (.inr p), some (.inr (k : Int))]) (st := [.inr (k : Int)]) rfl rfl rfl ?_
    show Ex _ _ (cod m7_boldest 7, [some (.inl 0), some (.inr p), some (.inr (k : Int))], [.inr (cel (τ 4) 107), .inr (k : Int)], τ) _ _
    refine ex_b (P := (cel (τ 4) 107) ≤ (k : Int)) (ct := (cod m7_boldest 18, [some (.inl 0), some (.inr p), some (.inr (k : Int))], [], τ)) (cf := (cod m7_boldest 8, [some (.inl 0), some (.inr p), some (.inr (k : Int))], [], τ)) rfl ⟨⟨by omega, by omega⟩, ⟨by omega, by omega⟩⟩ (fun _ => ?_) (fun hh => absurd (by omega) hh)
    exact ex_t rfl rfl (rfl)
  | succ j ih =>
    intro k hk
    have hN := hS.n
    have ha : 0 ≤ ahd (fun k => bdn (τ 4) (k : Int)) k N ∧ ahd (fun k => bdn (τ 4) (k : Int)) k N ≤ (N : Int) := sm_01 (fun i _ => b2_01)
    refine ex_k 4 (P := none) (g := (cod m7_boldest 6, [some (.inl 0), some (.inr p), some (.inr (k : Int))], [.inr 7, .inl 1, .inr (k : Int)], τ)) rfl trivial ?_
    refine ex_c (s_total (τ := τ) (w := 7) (Or.inl ⟨rfl, rfl⟩) (by omega)) (is := cod m7_boldest 7) (L := [some (.inl 0), some (.inr p), some (.inr (k : Int))]) (st := [.inr (k : Int)]) rfl rfl rfl ?_
    show Ex _ _ (cod m7_boldest 7, [some (.inl 0), some (.inr p), some (.inr (k : Int))], [.inr (cel (τ 4) 107), .inr (k : Int)], τ) _ _
    refine ex_b (P := (cel (τ 4) 107) ≤ (k : Int)) (ct := (cod m7_boldest 18, [some (.inl 0), some (.inr p), some (.inr (k : Int))], [], τ)) (cf := (cod m7_boldest 8, [some (.inl 0), some (.inr p), some (.inr (k : Int))], [], τ)) rfl ⟨⟨by omega, by omega⟩, ⟨by omega, by omega⟩⟩ (fun hh => absurd hh (by omega)) (fun _ => ?_)
    refine ex_k 3 (P := none) (g := (cod m7_boldest 11, [some (.inl 0), some (.inr p), some (.inr (k : Int))], [.inr (k : Int), .inl 7], τ)) rfl trivial ?_
    refine ex_c (s_bolderThan (τ := τ) (f := k) (Or.inl ⟨rfl, rfl, rfl⟩) (by omega) hS hn) (is := cod m7_boldest 12) (L := [some (.inl 0), some (.inr p), some (.inr (k : Int))]) (st := []) rfl rfl rfl ?_
    show Ex _ _ (cod m7_boldest 12, [some (.inl 0), some (.inr p), some (.inr (k : Int))], [.inr (ahd (fun k => bdn (τ 4) (k : Int)) k N)], τ) _ _
    refine ex_k 1 (P := none) (g := (cod m7_boldest 13, [some (.inl 0), some (.inr p), some (.inr (k : Int))], [.inr p, .inr (ahd (fun k => bdn (τ 4) (k : Int)) k N)], τ)) rfl trivial ?_
    refine ex_b (P := ¬ (ahd (fun k => bdn (τ 4) (k : Int)) k N) = p) (ct := (cod m7_boldest 16, [some (.inl 0), some (.inr p), some (.inr (k : Int))], [], τ)) (cf := (cod m7_boldest 14, [some (.inl 0), some (.inr p), some (.inr (k : Int))], [], τ)) rfl ⟨⟨by omega, by omega⟩, ⟨by omega, by omega⟩⟩ (fun h2 => ?_) (fun h2 => ?_)
    · first
      | (exfalso; omega)
      | (
          refine ex_k 2 (P := none) (g := (cod m7_boldest 2, [some (.inl 0), some (.inr p), some (.inr ((k : Int) + 1))], [], τ)) rfl trivial ?_
          rw [show ffs (fun f => ahd (fun k => bdn (τ 4) (k : Int)) f N) p (j + 1) k = ffs (fun f => ahd (fun k => bdn (τ 4) (k : Int)) f N) p j (k + 1) from if_neg (show ¬ ahd (fun k => bdn (τ 4) (k : Int)) k N = p by omega)]
          exact ih (k + 1) (by omega))
    · first
      | (exfalso; omega)
      | (
          refine ex_k 1 (P := none) (g := (cod m7_boldest 15, [some (.inl 0), some (.inr p), some (.inr (k : Int))], [.inr (k : Int)], τ)) rfl trivial ?_
          exact ex_r rfl trivial rfl ((by rw [show ffs (fun f => ahd (fun k => bdn (τ 4) (k : Int)) f N) p (j + 1) k = (k : Int) from if_pos (show ahd (fun k => bdn (τ 4) (k : Int)) k N = p by omega), if_neg (by omega)])))
theorem c_boldest {p : Int} {τ : SZ} (hp : Rng p) {B : Int} (hS : Sh B (τ 4)) {N : Nat} (hn : cel (τ 4) 107 = (N : Int)) : RZ 7 m7_boldest [.inl 0, .inr p] τ (if ffs (fun f => ahd (fun k => bdn (τ 4) (k : Int)) f N) p N 0 = -1 then .inr ("java/util/NoSuchElementException", τ) else .inl (some (.inr (ffs (fun f => ahd (fun k => bdn (τ 4) (k : Int)) f N) p N 0)), τ)) := by
  refine Ex.call ?_ rfl rfl
  show Ex _ _ (cod m7_boldest 0, [some (.inl 0), some (.inr p), none], [], τ) _ _
  refine ex_k 2 (P := none) (g := (cod m7_boldest 2, [some (.inl 0), some (.inr p), some (.inr 0)], [], τ)) rfl trivial ?_
  exact lp_boldest hS hn hp N 0 (by omega)
theorem lp_farthest {p : Int} {τ : SZ} {B : Int} (hS : Sh B (τ 4)) {N : Nat} (hn : cel (τ 4) 107 = (N : Int)) (hp : Rng p) : ∀ (j k : Nat), k + j = N → Ex 6 m7_farthest (cod m7_farthest 2, [some (.inl 0), some (.inr p), some (.inr (k : Int))], [], τ) 0 (if ffs (fun f => ahd (fun k => wcm (τ 4) (k : Int)) f N) p j k = -1 then .inr ("java/util/NoSuchElementException", τ) else .inl (some (.inr (ffs (fun f => ahd (fun k => wcm (τ 4) (k : Int)) f N) p j k)), τ)) := by
  obtain ⟨hp1, hp2⟩ := hp
  intro j
  induction j with
  | zero =>
    intro k hk
    have hN := hS.n
    refine ex_k 4 (P := none) (g := (cod m7_farthest 6, [some (.inl 0), some (.inr p), some (.inr (k : Int))], [.inr 7, .inl 1, .inr (k : Int)], τ)) rfl trivial ?_
    refine ex_c (s_total (τ := τ) (w := 7) (Or.inl ⟨rfl, rfl⟩) (by omega)) (is := cod m7_farthest 7) (L := [some (.inl 0), some (.inr p), some (.inr (k : Int))]) (st := [.inr (k : Int)]) rfl rfl rfl ?_
    show Ex _ _ (cod m7_farthest 7, [some (.inl 0), some (.inr p), some (.inr (k : Int))], [.inr (cel (τ 4) 107), .inr (k : Int)], τ) _ _
    refine ex_b (P := (cel (τ 4) 107) ≤ (k : Int)) (ct := (cod m7_farthest 18, [some (.inl 0), some (.inr p), some (.inr (k : Int))], [], τ)) (cf := (cod m7_farthest 8, [some (.inl 0), some (.inr p), some (.inr (k : Int))], [], τ)) rfl ⟨⟨by omega, by omega⟩, ⟨by omega, by omega⟩⟩ (fun _ => ?_) (fun hh => absurd (by omega) hh)
    exact ex_t rfl rfl (rfl)
  | succ j ih =>
    intro k hk
    have hN := hS.n
    have ha : 0 ≤ ahd (fun k => wcm (τ 4) (k : Int)) k N ∧ ahd (fun k => wcm (τ 4) (k : Int)) k N ≤ (N : Int) := sm_01 (fun i _ => b2_01)
    refine ex_k 4 (P := none) (g := (cod m7_farthest 6, [some (.inl 0), some (.inr p), some (.inr (k : Int))], [.inr 7, .inl 1, .inr (k : Int)], τ)) rfl trivial ?_
    refine ex_c (s_total (τ := τ) (w := 7) (Or.inl ⟨rfl, rfl⟩) (by omega)) (is := cod m7_farthest 7) (L := [some (.inl 0), some (.inr p), some (.inr (k : Int))]) (st := [.inr (k : Int)]) rfl rfl rfl ?_
    show Ex _ _ (cod m7_farthest 7, [some (.inl 0), some (.inr p), some (.inr (k : Int))], [.inr (cel (τ 4) 107), .inr (k : Int)], τ) _ _
    refine ex_b (P := (cel (τ 4) 107) ≤ (k : Int)) (ct := (cod m7_farthest 18, [some (.inl 0), some (.inr p), some (.inr (k : Int))], [], τ)) (cf := (cod m7_farthest 8, [some (.inl 0), some (.inr p), some (.inr (k : Int))], [], τ)) rfl ⟨⟨by omega, by omega⟩, ⟨by omega, by omega⟩⟩ (fun hh => absurd hh (by omega)) (fun _ => ?_)
    refine ex_k 3 (P := none) (g := (cod m7_farthest 11, [some (.inl 0), some (.inr p), some (.inr (k : Int))], [.inr (k : Int), .inl 7], τ)) rfl trivial ?_
    refine ex_c (s_fartherThan (τ := τ) (f := k) (Or.inl ⟨rfl, rfl, rfl⟩) (by omega) hS hn) (is := cod m7_farthest 12) (L := [some (.inl 0), some (.inr p), some (.inr (k : Int))]) (st := []) rfl rfl rfl ?_
    show Ex _ _ (cod m7_farthest 12, [some (.inl 0), some (.inr p), some (.inr (k : Int))], [.inr (ahd (fun k => wcm (τ 4) (k : Int)) k N)], τ) _ _
    refine ex_k 1 (P := none) (g := (cod m7_farthest 13, [some (.inl 0), some (.inr p), some (.inr (k : Int))], [.inr p, .inr (ahd (fun k => wcm (τ 4) (k : Int)) k N)], τ)) rfl trivial ?_
    refine ex_b (P := ¬ (ahd (fun k => wcm (τ 4) (k : Int)) k N) = p) (ct := (cod m7_farthest 16, [some (.inl 0), some (.inr p), some (.inr (k : Int))], [], τ)) (cf := (cod m7_farthest 14, [some (.inl 0), some (.inr p), some (.inr (k : Int))], [], τ)) rfl ⟨⟨by omega, by omega⟩, ⟨by omega, by omega⟩⟩ (fun h2 => ?_) (fun h2 => ?_)
    · first
      | (exfalso; omega)
      | (
          refine ex_k 2 (P := none) (g := (cod m7_farthest 2, [some (.inl 0), some (.inr p), some (.inr ((k : Int) + 1))], [], τ)) rfl trivial ?_
          rw [show ffs (fun f => ahd (fun k => wcm (τ 4) (k : Int)) f N) p (j + 1) k = ffs (fun f => ahd (fun k => wcm (τ 4) (k : Int)) f N) p j (k + 1) from if_neg (show ¬ ahd (fun k => wcm (τ 4) (k : Int)) k N = p by omega)]
          exact ih (k + 1) (by omega))
    · first
      | (exfalso; omega)
      | (
          refine ex_k 1 (P := none) (g := (cod m7_farthest 15, [some (.inl 0), some (.inr p), some (.inr (k : Int))], [.inr (k : Int)], τ)) rfl trivial ?_
          exact ex_r rfl trivial rfl ((by rw [show ffs (fun f => ahd (fun k => wcm (τ 4) (k : Int)) f N) p (j + 1) k = (k : Int) from if_pos (show ahd (fun k => wcm (τ 4) (k : Int)) k N = p by omega), if_neg (by omega)])))
theorem c_farthest {p : Int} {τ : SZ} (hp : Rng p) {B : Int} (hS : Sh B (τ 4)) {N : Nat} (hn : cel (τ 4) 107 = (N : Int)) : RZ 7 m7_farthest [.inl 0, .inr p] τ (if ffs (fun f => ahd (fun k => wcm (τ 4) (k : Int)) f N) p N 0 = -1 then .inr ("java/util/NoSuchElementException", τ) else .inl (some (.inr (ffs (fun f => ahd (fun k => wcm (τ 4) (k : Int)) f N) p N 0)), τ)) := by
  refine Ex.call ?_ rfl rfl
  show Ex _ _ (cod m7_farthest 0, [some (.inl 0), some (.inr p), none], [], τ) _ _
  refine ex_k 2 (P := none) (g := (cod m7_farthest 2, [some (.inl 0), some (.inr p), some (.inr 0)], [], τ)) rfl trivial ?_
  exact lp_farthest hS hn hp N 0 (by omega)
theorem c_refusal_0 {z : Int} {τ : SZ} (hz : Rng z) (hc : 0 ≤ τ 9 2 ∧ τ 9 2 ≤ 3) : RZ 4 m7_refusal [.inl 0, .inr z, .inr 0] τ (if z < 0 then .inr ("java/lang/IllegalArgumentException", τ) else if τ 9 2 ≤ z then .inr ("java/util/NoSuchElementException", τ) else .inl (some (.inr (τ 10 z.toNat)), τ)) := by
  obtain ⟨hz1, hz2⟩ := hz
  refine Ex.call ?_ rfl rfl
  show Ex _ _ (cod m7_refusal 0, [some (.inl 0), some (.inr z), some (.inr 0)], [], τ) _ _
  refine ex_k 1 (P := none) (g := (cod m7_refusal 1, [some (.inl 0), some (.inr z), some (.inr 0)], [.inr z], τ)) rfl trivial ?_
  refine ex_b (P := 0 ≤ z) (ct := (cod m7_refusal 6, [some (.inl 0), some (.inr z), some (.inr 0)], [], τ)) (cf := (cod m7_refusal 2, [some (.inl 0), some (.inr z), some (.inr 0)], [], τ)) rfl ⟨by omega, by omega⟩ (fun h1 => ?_) (fun h1 => ?_)
  · first
    | (exfalso; omega)
    | (
        refine ex_k 4 (P := none) (g := (cod m7_refusal 10, [some (.inl 0), some (.inr z), some (.inr 0)], [.inr ((τ 9) 2), .inr z], τ)) rfl trivial ?_
        refine ex_b (P := z < ((τ 9) 2)) (ct := (cod m7_refusal 15, [some (.inl 0), some (.inr z), some (.inr 0)], [], τ)) (cf := (cod m7_refusal 11, [some (.inl 0), some (.inr z), some (.inr 0)], [], τ)) rfl ⟨⟨by omega, by omega⟩, ⟨by omega, by omega⟩⟩ (fun h2 => ?_) (fun h2 => ?_)
        · first
          | (exfalso; omega)
          | (
              refine ex_k 1 (P := none) (g := (cod m7_refusal 16, [some (.inl 0), some (.inr z), some (.inr 0)], [.inr 0], τ)) rfl trivial ?_
              refine ex_b (P := 0 = 0) (ct := (cod m7_refusal 22, [some (.inl 0), some (.inr z), some (.inr 0)], [], τ)) (cf := (cod m7_refusal 17, [some (.inl 0), some (.inr z), some (.inr 0)], [], τ)) rfl ⟨by decide, by decide⟩ (fun _ => ?_) (fun hh => absurd (by decide) hh)
              refine ex_k 3 (P := none) (g := (cod m7_refusal 25, [some (.inl 0), some (.inr z), some (.inr 0)], [.inr z, .inl 9], τ)) rfl trivial ?_
              refine ex_c (s_reasonAt (τ := τ) (z := z) (by omega)) (is := cod m7_refusal 26) (L := [some (.inl 0), some (.inr z), some (.inr 0)]) (st := []) rfl rfl rfl ?_
              show Ex _ _ (cod m7_refusal 26, [some (.inl 0), some (.inr z), some (.inr 0)], [.inr ((τ 10) z.toNat)], τ) _ _
              exact ex_r rfl trivial rfl ((by (repeat (first | rw [if_pos (by omega)] | rw [if_neg (by omega)])); first | done | rfl)))
        · first
          | (exfalso; omega)
          | (
              exact ex_t rfl rfl ((by (repeat (first | rw [if_pos (by omega)] | rw [if_neg (by omega)])); first | done | rfl))))
  · first
    | (exfalso; omega)
    | (
        exact ex_t rfl rfl ((by (repeat (first | rw [if_pos (by omega)] | rw [if_neg (by omega)])); first | done | rfl)))
theorem c_refusal_1 {z : Int} {τ : SZ} (hz : Rng z) (hc : 0 ≤ τ 9 2 ∧ τ 9 2 ≤ 3) : RZ 4 m7_refusal [.inl 0, .inr z, .inr 1] τ (if z < 0 then .inr ("java/lang/IllegalArgumentException", τ) else if τ 9 2 ≤ z then .inr ("java/util/NoSuchElementException", τ) else .inl (some (.inr (τ 11 z.toNat)), τ)) := by
  obtain ⟨hz1, hz2⟩ := hz
  refine Ex.call ?_ rfl rfl
  show Ex _ _ (cod m7_refusal 0, [some (.inl 0), some (.inr z), some (.inr 1)], [], τ) _ _
  refine ex_k 1 (P := none) (g := (cod m7_refusal 1, [some (.inl 0), some (.inr z), some (.inr 1)], [.inr z], τ)) rfl trivial ?_
  refine ex_b (P := 0 ≤ z) (ct := (cod m7_refusal 6, [some (.inl 0), some (.inr z), some (.inr 1)], [], τ)) (cf := (cod m7_refusal 2, [some (.inl 0), some (.inr z), some (.inr 1)], [], τ)) rfl ⟨by omega, by omega⟩ (fun h1 => ?_) (fun h1 => ?_)
  · first
    | (exfalso; omega)
    | (
        refine ex_k 4 (P := none) (g := (cod m7_refusal 10, [some (.inl 0), some (.inr z), some (.inr 1)], [.inr ((τ 9) 2), .inr z], τ)) rfl trivial ?_
        refine ex_b (P := z < ((τ 9) 2)) (ct := (cod m7_refusal 15, [some (.inl 0), some (.inr z), some (.inr 1)], [], τ)) (cf := (cod m7_refusal 11, [some (.inl 0), some (.inr z), some (.inr 1)], [], τ)) rfl ⟨⟨by omega, by omega⟩, ⟨by omega, by omega⟩⟩ (fun h2 => ?_) (fun h2 => ?_)
        · first
          | (exfalso; omega)
          | (
              refine ex_k 1 (P := none) (g := (cod m7_refusal 16, [some (.inl 0), some (.inr z), some (.inr 1)], [.inr 1], τ)) rfl trivial ?_
              refine ex_b (P := 1 = 0) (ct := (cod m7_refusal 22, [some (.inl 0), some (.inr z), some (.inr 1)], [], τ)) (cf := (cod m7_refusal 17, [some (.inl 0), some (.inr z), some (.inr 1)], [], τ)) rfl ⟨by decide, by decide⟩ (fun hh => absurd hh (by decide)) (fun _ => ?_)
              refine ex_k 3 (P := none) (g := (cod m7_refusal 20, [some (.inl 0), some (.inr z), some (.inr 1)], [.inr z, .inl 9], τ)) rfl trivial ?_
              refine ex_c (s_detailAt (τ := τ) (z := z) (by omega)) (is := cod m7_refusal 21) (L := [some (.inl 0), some (.inr z), some (.inr 1)]) (st := []) rfl rfl rfl ?_
              show Ex _ _ (cod m7_refusal 21, [some (.inl 0), some (.inr z), some (.inr 1)], [.inr ((τ 11) z.toNat)], τ) _ _
              refine ex_k 1 (P := none) (g := (cod m7_refusal 26, [some (.inl 0), some (.inr z), some (.inr 1)], [.inr ((τ 11) z.toNat)], τ)) rfl trivial ?_
              exact ex_r rfl trivial rfl ((by (repeat (first | rw [if_pos (by omega)] | rw [if_neg (by omega)])); first | done | rfl)))
        · first
          | (exfalso; omega)
          | (
              exact ex_t rfl rfl ((by (repeat (first | rw [if_pos (by omega)] | rw [if_neg (by omega)])); first | done | rfl))))
  · first
    | (exfalso; omega)
    | (
        exact ex_t rfl rfl ((by (repeat (first | rw [if_pos (by omega)] | rw [if_neg (by omega)])); first | done | rfl)))
theorem c_account_0 {τ : SZ} {B : Int} (hS : Sh B (τ 4)) {N : Nat} (hn : cel (τ 4) 107 = (N : Int)) : RZ 6 m7_account [.inl 0, .inr 0] τ (.inl (some (.inr (cel (τ 4) 107)), τ)) := by
  have hN := hS.n
  refine Ex.call ?_ rfl rfl
  show Ex _ _ (cod m7_account 0, [some (.inl 0), some (.inr 0)], [], τ) _ _
  refine ex_k 2 (P := some (Rng 0)) (g := (cod m7_account 2, [some (.inl 0), some (.inr 0)], [], τ)) rfl ⟨by decide, by decide⟩ ?_
  refine ex_k 3 (P := none) (g := (cod m7_account 5, [some (.inl 0), some (.inr 0)], [.inr 7, .inl 1], τ)) rfl trivial ?_
  refine ex_c (s_total (τ := τ) (w := 7) (Or.inl ⟨rfl, rfl⟩) (by omega)) (is := cod m7_account 6) (L := [some (.inl 0), some (.inr 0)]) (st := []) rfl rfl rfl ?_
  show Ex _ _ (cod m7_account 6, [some (.inl 0), some (.inr 0)], [.inr (cel (τ 4) 107)], τ) _ _
  exact ex_r rfl trivial rfl (rfl)
theorem c_account_1 {τ : SZ} {B : Int} (hS : Sh B (τ 4)) {N : Nat} (hn : cel (τ 4) 107 = (N : Int)) : RZ 6 m7_account [.inl 0, .inr 1] τ (.inl (some (.inr (sm (fun k => b2 (cel (τ 4) (0 + (k : Int) * 6 + 0) = 0)) N)), τ)) := by
  have hN := hS.n
  refine Ex.call ?_ rfl rfl
  show Ex _ _ (cod m7_account 0, [some (.inl 0), some (.inr 1)], [], τ) _ _
  refine ex_k 2 (P := some (Rng 1)) (g := (cod m7_account 7, [some (.inl 0), some (.inr 1)], [], τ)) rfl ⟨by decide, by decide⟩ ?_
  refine ex_k 3 (P := none) (g := (cod m7_account 10, [some (.inl 0), some (.inr 1)], [.inr 0, .inl 1], τ)) rfl trivial ?_
  refine ex_c (s_ferriesOf (τ := τ) (w := 0) (Or.inl ⟨rfl, rfl⟩) hn (by omega) (by omega) hS.bd) (is := cod m7_account 11) (L := [some (.inl 0), some (.inr 1)]) (st := []) rfl rfl rfl ?_
  show Ex _ _ (cod m7_account 11, [some (.inl 0), some (.inr 1)], [.inr (sm (fun k => b2 (cel (τ 4) (0 + (k : Int) * 6 + 0) = 0)) N)], τ) _ _
  exact ex_r rfl trivial rfl (rfl)
theorem c_account_2 {τ : SZ} {B : Int} (hS : Sh B (τ 4)) {N : Nat} (hn : cel (τ 4) 107 = (N : Int)) : RZ 6 m7_account [.inl 0, .inr 2] τ (.inl (some (.inr (sm (fun k => cel (τ 4) (0 + (k : Int) * 6 + 3)) N)), τ)) := by
  have hN := hS.n
  refine Ex.call ?_ rfl rfl
  show Ex _ _ (cod m7_account 0, [some (.inl 0), some (.inr 2)], [], τ) _ _
  refine ex_k 2 (P := some (Rng 2)) (g := (cod m7_account 12, [some (.inl 0), some (.inr 2)], [], τ)) rfl ⟨by decide, by decide⟩ ?_
  refine ex_k 3 (P := none) (g := (cod m7_account 15, [some (.inl 0), some (.inr 2)], [.inr 3, .inl 1], τ)) rfl trivial ?_
  refine ex_c (s_sumOf (τ := τ) (w := 3) (Or.inl ⟨rfl, rfl⟩) hn (by omega) (by omega) hS.bd) (is := cod m7_account 16) (L := [some (.inl 0), some (.inr 2)]) (st := []) rfl rfl rfl ?_
  show Ex _ _ (cod m7_account 16, [some (.inl 0), some (.inr 2)], [.inr (sm (fun k => cel (τ 4) (0 + (k : Int) * 6 + 3)) N)], τ) _ _
  exact ex_r rfl trivial rfl (rfl)
theorem c_account_3 {τ : SZ} {B : Int} (hS : Sh B (τ 4)) {N : Nat} (hn : cel (τ 4) 107 = (N : Int)) : RZ 6 m7_account [.inl 0, .inr 3] τ (.inl (some (.inr (tgs (τ 4) 0 + tgs (τ 4) 1)), τ)) := by
  have hN := hS.n
  refine Ex.call ?_ rfl rfl
  show Ex _ _ (cod m7_account 0, [some (.inl 0), some (.inr 3)], [], τ) _ _
  refine ex_k 2 (P := some (Rng 3)) (g := (cod m7_account 17, [some (.inl 0), some (.inr 3)], [], τ)) rfl ⟨by decide, by decide⟩ ?_
  refine ex_k 3 (P := none) (g := (cod m7_account 20, [some (.inl 0), some (.inr 3)], [.inr 0, .inl 1], τ)) rfl trivial ?_
  refine ex_c (s_tugsOn (τ := τ) (r := 0) (Or.inl ⟨rfl, rfl⟩) (by omega) hS.bd) (is := cod m7_account 21) (L := [some (.inl 0), some (.inr 3)]) (st := []) rfl rfl rfl ?_
  show Ex _ _ (cod m7_account 21, [some (.inl 0), some (.inr 3)], [.inr (sm (fun k => b2 (whz (τ 4) 0 (k : Int) = 8)) 12)], τ) _ _
  refine ex_k 3 (P := none) (g := (cod m7_account 24, [some (.inl 0), some (.inr 3)], [.inr 1, .inl 1, .inr (sm (fun k => b2 (whz (τ 4) 0 (k : Int) = 8)) 12)], τ)) rfl trivial ?_
  refine ex_c (s_tugsOn (τ := τ) (r := 1) (Or.inl ⟨rfl, rfl⟩) (by omega) hS.bd) (is := cod m7_account 25) (L := [some (.inl 0), some (.inr 3)]) (st := [.inr (sm (fun k => b2 (whz (τ 4) 0 (k : Int) = 8)) 12)]) rfl rfl rfl ?_
  show Ex _ _ (cod m7_account 25, [some (.inl 0), some (.inr 3)], [.inr (sm (fun k => b2 (whz (τ 4) 1 (k : Int) = 8)) 12), .inr (sm (fun k => b2 (whz (τ 4) 0 (k : Int) = 8)) 12)], τ) _ _
  refine ex_k 1 (P := none) (g := (cod m7_account 26, [some (.inl 0), some (.inr 3)], [.inr ((sm (fun k => b2 (whz (τ 4) 0 (k : Int) = 8)) 12) + (sm (fun k => b2 (whz (τ 4) 1 (k : Int) = 8)) 12))], τ)) rfl trivial ?_
  exact ex_r rfl trivial rfl (rfl)
theorem c_account_4 {τ : SZ} {B : Int} (hS : Sh B (τ 4)) {N : Nat} (hn : cel (τ 4) 107 = (N : Int)) : RZ 6 m7_account [.inl 0, .inr 4] τ (.inl (some (.inr (sm (fun k => b2 (0 < usz (τ 4) 0 (k : Int))) 12 + sm (fun k => b2 (0 < usz (τ 4) 1 (k : Int))) 12)), τ)) := by
  have hN := hS.n
  refine Ex.call ?_ rfl rfl
  show Ex _ _ (cod m7_account 0, [some (.inl 0), some (.inr 4)], [], τ) _ _
  refine ex_k 2 (P := some (Rng 4)) (g := (cod m7_account 27, [some (.inl 0), some (.inr 4)], [], τ)) rfl ⟨by decide, by decide⟩ ?_
  refine ex_k 3 (P := none) (g := (cod m7_account 30, [some (.inl 0), some (.inr 4)], [.inr 0, .inl 1], τ)) rfl trivial ?_
  refine ex_c (s_locksOn (τ := τ) (r := 0) (Or.inl ⟨rfl, rfl⟩) (by omega) hS.bd) (is := cod m7_account 31) (L := [some (.inl 0), some (.inr 4)]) (st := []) rfl rfl rfl ?_
  show Ex _ _ (cod m7_account 31, [some (.inl 0), some (.inr 4)], [.inr (sm (fun k => b2 (0 < usz (τ 4) 0 (k : Int))) 12)], τ) _ _
  refine ex_k 3 (P := none) (g := (cod m7_account 34, [some (.inl 0), some (.inr 4)], [.inr 1, .inl 1, .inr (sm (fun k => b2 (0 < usz (τ 4) 0 (k : Int))) 12)], τ)) rfl trivial ?_
  refine ex_c (s_locksOn (τ := τ) (r := 1) (Or.inl ⟨rfl, rfl⟩) (by omega) hS.bd) (is := cod m7_account 35) (L := [some (.inl 0), some (.inr 4)]) (st := [.inr (sm (fun k => b2 (0 < usz (τ 4) 0 (k : Int))) 12)]) rfl rfl rfl ?_
  show Ex _ _ (cod m7_account 35, [some (.inl 0), some (.inr 4)], [.inr (sm (fun k => b2 (0 < usz (τ 4) 1 (k : Int))) 12), .inr (sm (fun k => b2 (0 < usz (τ 4) 0 (k : Int))) 12)], τ) _ _
  refine ex_k 1 (P := none) (g := (cod m7_account 36, [some (.inl 0), some (.inr 4)], [.inr ((sm (fun k => b2 (0 < usz (τ 4) 0 (k : Int))) 12) + (sm (fun k => b2 (0 < usz (τ 4) 1 (k : Int))) 12))], τ)) rfl trivial ?_
  exact ex_r rfl trivial rfl (rfl)
theorem c_account_5 {τ : SZ} {B : Int} (hS : Sh B (τ 4)) {N : Nat} (hn : cel (τ 4) 107 = (N : Int)) : RZ 6 m7_account [.inl 0, .inr 5] τ (.inl (some (.inr (cel (τ 4) 100)), τ)) := by
  have hN := hS.n
  refine Ex.call ?_ rfl rfl
  show Ex _ _ (cod m7_account 0, [some (.inl 0), some (.inr 5)], [], τ) _ _
  refine ex_k 2 (P := some (Rng 5)) (g := (cod m7_account 37, [some (.inl 0), some (.inr 5)], [], τ)) rfl ⟨by decide, by decide⟩ ?_
  refine ex_k 3 (P := none) (g := (cod m7_account 40, [some (.inl 0), some (.inr 5)], [.inr 0, .inl 1], τ)) rfl trivial ?_
  refine ex_c (s_total (τ := τ) (w := 0) (Or.inl ⟨rfl, rfl⟩) (by omega)) (is := cod m7_account 41) (L := [some (.inl 0), some (.inr 5)]) (st := []) rfl rfl rfl ?_
  show Ex _ _ (cod m7_account 41, [some (.inl 0), some (.inr 5)], [.inr (cel (τ 4) 100)], τ) _ _
  exact ex_r rfl trivial rfl (rfl)
theorem c_account_6 {τ : SZ} {B : Int} (hS : Sh B (τ 4)) {N : Nat} (hn : cel (τ 4) 107 = (N : Int)) : RZ 6 m7_account [.inl 0, .inr 6] τ (.inl (some (.inr (cel (τ 4) 101)), τ)) := by
  have hN := hS.n
  refine Ex.call ?_ rfl rfl
  show Ex _ _ (cod m7_account 0, [some (.inl 0), some (.inr 6)], [], τ) _ _
  refine ex_k 2 (P := some (Rng 6)) (g := (cod m7_account 42, [some (.inl 0), some (.inr 6)], [], τ)) rfl ⟨by decide, by decide⟩ ?_
  refine ex_k 3 (P := none) (g := (cod m7_account 45, [some (.inl 0), some (.inr 6)], [.inr 1, .inl 1], τ)) rfl trivial ?_
  refine ex_c (s_total (τ := τ) (w := 1) (Or.inl ⟨rfl, rfl⟩) (by omega)) (is := cod m7_account 46) (L := [some (.inl 0), some (.inr 6)]) (st := []) rfl rfl rfl ?_
  show Ex _ _ (cod m7_account 46, [some (.inl 0), some (.inr 6)], [.inr (cel (τ 4) 101)], τ) _ _
  exact ex_r rfl trivial rfl (rfl)
theorem c_account_7 {τ : SZ} {B : Int} (hS : Sh B (τ 4)) {N : Nat} (hn : cel (τ 4) 107 = (N : Int)) : RZ 6 m7_account [.inl 0, .inr 7] τ (.inl (some (.inr (cel (τ 4) 102)), τ)) := by
  have hN := hS.n
  refine Ex.call ?_ rfl rfl
  show Ex _ _ (cod m7_account 0, [some (.inl 0), some (.inr 7)], [], τ) _ _
  refine ex_k 2 (P := some (Rng 7)) (g := (cod m7_account 47, [some (.inl 0), some (.inr 7)], [], τ)) rfl ⟨by decide, by decide⟩ ?_
  refine ex_k 3 (P := none) (g := (cod m7_account 50, [some (.inl 0), some (.inr 7)], [.inr 2, .inl 1], τ)) rfl trivial ?_
  refine ex_c (s_total (τ := τ) (w := 2) (Or.inl ⟨rfl, rfl⟩) (by omega)) (is := cod m7_account 51) (L := [some (.inl 0), some (.inr 7)]) (st := []) rfl rfl rfl ?_
  show Ex _ _ (cod m7_account 51, [some (.inl 0), some (.inr 7)], [.inr (cel (τ 4) 102)], τ) _ _
  exact ex_r rfl trivial rfl (rfl)
theorem c_account_8 {τ : SZ} {B : Int} (hS : Sh B (τ 4)) {N : Nat} (hn : cel (τ 4) 107 = (N : Int)) : RZ 6 m7_account [.inl 0, .inr 8] τ (.inl (some (.inr (cel (τ 4) 103)), τ)) := by
  have hN := hS.n
  refine Ex.call ?_ rfl rfl
  show Ex _ _ (cod m7_account 0, [some (.inl 0), some (.inr 8)], [], τ) _ _
  refine ex_k 2 (P := some (Rng 8)) (g := (cod m7_account 52, [some (.inl 0), some (.inr 8)], [], τ)) rfl ⟨by decide, by decide⟩ ?_
  refine ex_k 3 (P := none) (g := (cod m7_account 55, [some (.inl 0), some (.inr 8)], [.inr 3, .inl 1], τ)) rfl trivial ?_
  refine ex_c (s_total (τ := τ) (w := 3) (Or.inl ⟨rfl, rfl⟩) (by omega)) (is := cod m7_account 56) (L := [some (.inl 0), some (.inr 8)]) (st := []) rfl rfl rfl ?_
  show Ex _ _ (cod m7_account 56, [some (.inl 0), some (.inr 8)], [.inr (cel (τ 4) 103)], τ) _ _
  exact ex_r rfl trivial rfl (rfl)
theorem c_account_9 {τ : SZ} {B : Int} (hS : Sh B (τ 4)) {N : Nat} (hn : cel (τ 4) 107 = (N : Int)) : RZ 6 m7_account [.inl 0, .inr 9] τ (.inl (some (.inr (cel (τ 4) 104)), τ)) := by
  have hN := hS.n
  refine Ex.call ?_ rfl rfl
  show Ex _ _ (cod m7_account 0, [some (.inl 0), some (.inr 9)], [], τ) _ _
  refine ex_k 2 (P := some (Rng 9)) (g := (cod m7_account 57, [some (.inl 0), some (.inr 9)], [], τ)) rfl ⟨by decide, by decide⟩ ?_
  refine ex_k 3 (P := none) (g := (cod m7_account 60, [some (.inl 0), some (.inr 9)], [.inr 4, .inl 1], τ)) rfl trivial ?_
  refine ex_c (s_total (τ := τ) (w := 4) (Or.inl ⟨rfl, rfl⟩) (by omega)) (is := cod m7_account 61) (L := [some (.inl 0), some (.inr 9)]) (st := []) rfl rfl rfl ?_
  show Ex _ _ (cod m7_account 61, [some (.inl 0), some (.inr 9)], [.inr (cel (τ 4) 104)], τ) _ _
  exact ex_r rfl trivial rfl (rfl)
theorem c_account_10 {τ : SZ} {B : Int} (hS : Sh B (τ 4)) {N : Nat} (hn : cel (τ 4) 107 = (N : Int)) : RZ 6 m7_account [.inl 0, .inr 10] τ (.inl (some (.inr (cel (τ 4) 105)), τ)) := by
  have hN := hS.n
  refine Ex.call ?_ rfl rfl
  show Ex _ _ (cod m7_account 0, [some (.inl 0), some (.inr 10)], [], τ) _ _
  refine ex_k 2 (P := some (Rng 10)) (g := (cod m7_account 62, [some (.inl 0), some (.inr 10)], [], τ)) rfl ⟨by decide, by decide⟩ ?_
  refine ex_k 3 (P := none) (g := (cod m7_account 65, [some (.inl 0), some (.inr 10)], [.inr 5, .inl 1], τ)) rfl trivial ?_
  refine ex_c (s_total (τ := τ) (w := 5) (Or.inl ⟨rfl, rfl⟩) (by omega)) (is := cod m7_account 66) (L := [some (.inl 0), some (.inr 10)]) (st := []) rfl rfl rfl ?_
  show Ex _ _ (cod m7_account 66, [some (.inl 0), some (.inr 10)], [.inr (cel (τ 4) 105)], τ) _ _
  exact ex_r rfl trivial rfl (rfl)
theorem c_account_11 {τ : SZ} {B : Int} (hS : Sh B (τ 4)) {N : Nat} (hn : cel (τ 4) 107 = (N : Int)) : RZ 6 m7_account [.inl 0, .inr 11] τ (.inl (some (.inr (cel (τ 4) 106)), τ)) := by
  have hN := hS.n
  refine Ex.call ?_ rfl rfl
  show Ex _ _ (cod m7_account 0, [some (.inl 0), some (.inr 11)], [], τ) _ _
  refine ex_k 2 (P := some (Rng 11)) (g := (cod m7_account 67, [some (.inl 0), some (.inr 11)], [], τ)) rfl ⟨by decide, by decide⟩ ?_
  refine ex_k 3 (P := none) (g := (cod m7_account 70, [some (.inl 0), some (.inr 11)], [.inr 6, .inl 1], τ)) rfl trivial ?_
  refine ex_c (s_total (τ := τ) (w := 6) (Or.inl ⟨rfl, rfl⟩) (by omega)) (is := cod m7_account 71) (L := [some (.inl 0), some (.inr 11)]) (st := []) rfl rfl rfl ?_
  show Ex _ _ (cod m7_account 71, [some (.inl 0), some (.inr 11)], [.inr (cel (τ 4) 106)], τ) _ _
  exact ex_r rfl trivial rfl (rfl)
theorem c_account_12 {τ : SZ} {B : Int} (hS : Sh B (τ 4)) {N : Nat} (hn : cel (τ 4) 107 = (N : Int)) : RZ 6 m7_account [.inl 0, .inr 12] τ (.inl (some (.inr (τ 16 1)), τ)) := by
  have hN := hS.n
  refine Ex.call ?_ rfl rfl
  show Ex _ _ (cod m7_account 0, [some (.inl 0), some (.inr 12)], [], τ) _ _
  refine ex_k 2 (P := some (Rng 12)) (g := (cod m7_account 72, [some (.inl 0), some (.inr 12)], [], τ)) rfl ⟨by decide, by decide⟩ ?_
  refine ex_k 3 (P := none) (g := (cod m7_account 75, [some (.inl 0), some (.inr 12)], [.inr ((τ 16) 1)], τ)) rfl trivial ?_
  exact ex_r rfl trivial rfl (rfl)
theorem c_account_13 {τ : SZ} {B : Int} (hS : Sh B (τ 4)) {N : Nat} (hn : cel (τ 4) 107 = (N : Int)) : RZ 6 m7_account [.inl 0, .inr 13] τ (.inl (some (.inr (τ 14 2)), τ)) := by
  have hN := hS.n
  refine Ex.call ?_ rfl rfl
  show Ex _ _ (cod m7_account 0, [some (.inl 0), some (.inr 13)], [], τ) _ _
  refine ex_k 2 (P := some (Rng 13)) (g := (cod m7_account 76, [some (.inl 0), some (.inr 13)], [], τ)) rfl ⟨by decide, by decide⟩ ?_
  refine ex_k 3 (P := none) (g := (cod m7_account 79, [some (.inl 0), some (.inr 13)], [.inr ((τ 14) 2)], τ)) rfl trivial ?_
  exact ex_r rfl trivial rfl (rfl)
theorem c_account_x {w : Int} {τ : SZ} (hw : Rng w) (hx : ¬ (0 ≤ w ∧ w ≤ 13)) : RZ 6 m7_account [.inl 0, .inr w] τ (.inr ("java/lang/IllegalArgumentException", τ)) := by
  obtain ⟨hw1, hw2⟩ := hw
  refine Ex.call ?_ rfl rfl
  show Ex _ _ (cod m7_account 0, [some (.inl 0), some (.inr w)], [], τ) _ _
  refine ex_k 1 (P := none) (g := (cod m7_account 1, [some (.inl 0), some (.inr w)], [.inr w], τ)) rfl trivial ?_
  refine ex_n (P := some (Rng w)) (g := (cod m7_account 80, [some (.inl 0), some (.inr w)], [], τ)) ((nz_dflt (by omega)).trans rfl) (show Rng w from ⟨by omega, by omega⟩) ?_
  exact ex_t rfl rfl (rfl)
theorem c_isWell {τ : SZ} {B : Int} (hS : Sh B (τ 4)) {N : Nat} (hn : cel (τ 4) 107 = (N : Int)) (hA0 : mbf (τ 4) 0 N = mbp (τ 4) 0 ∧ cbj (τ 4) 0 N = cbd (τ 4) 0 N) (hA1 : mbf (τ 4) 1 N = mbp (τ 4) 1 ∧ cbj (τ 4) 1 N = cbd (τ 4) 1 N) (hK : ∀ k, k < N → okf (τ 4) k) (hE : cel (τ 4) 106 = cel (τ 4) 107 + cel (τ 4) 104) : RZ 9 m7_isWell [.inl 0] τ (.inl (some (.inr 1), τ)) := by
  have hN := hS.n
  have e0 : b2 (mbf (τ 4) 0 N = mbp (τ 4) 0 ∧ cbj (τ 4) 0 N = cbd (τ 4) 0 N) = 1 := b2_t hA0
  have e1 : b2 (mbf (τ 4) 1 N = mbp (τ 4) 1 ∧ cbj (τ 4) 1 N = cbd (τ 4) 1 N) = 1 := b2_t hA1
  have e2 : b2 (∀ k, k < N → okf (τ 4) k) = 1 := b2_t hK
  have hBB := hS.B
  have q1 := hS.to (z := 106) (by omega)
  have q2 := hS.to (z := 104) (by omega)
  refine Ex.call ?_ rfl rfl
  show Ex _ _ (cod m7_isWell 0, [some (.inl 0)], [], τ) _ _
  refine ex_k 3 (P := none) (g := (cod m7_isWell 3, [some (.inl 0)], [.inr 0, .inl 7], τ)) rfl trivial ?_
  refine ex_c (s_isToldAlike (τ := τ) (x := 0) (Or.inl ⟨rfl, rfl, rfl⟩) (by omega) hS hn) (is := cod m7_isWell 4) (L := [some (.inl 0)]) (st := []) rfl rfl rfl ?_
  show Ex _ _ (cod m7_isWell 4, [some (.inl 0)], [.inr (b2 (mbf (τ 4) 0 N = mbp (τ 4) 0 ∧ cbj (τ 4) 0 N = cbd (τ 4) 0 N))], τ) _ _
  refine ex_b (P := (b2 (mbf (τ 4) 0 N = mbp (τ 4) 0 ∧ cbj (τ 4) 0 N = cbd (τ 4) 0 N)) = 0) (ct := (cod m7_isWell 30, [some (.inl 0)], [], τ)) (cf := (cod m7_isWell 5, [some (.inl 0)], [], τ)) rfl b2_rng (fun hh => absurd hh (by omega)) (fun _ => ?_)
  refine ex_k 3 (P := none) (g := (cod m7_isWell 8, [some (.inl 0)], [.inr 1, .inl 7], τ)) rfl trivial ?_
  refine ex_c (s_isToldAlike (τ := τ) (x := 1) (Or.inl ⟨rfl, rfl, rfl⟩) (by omega) hS hn) (is := cod m7_isWell 9) (L := [some (.inl 0)]) (st := []) rfl rfl rfl ?_
  show Ex _ _ (cod m7_isWell 9, [some (.inl 0)], [.inr (b2 (mbf (τ 4) 1 N = mbp (τ 4) 1 ∧ cbj (τ 4) 1 N = cbd (τ 4) 1 N))], τ) _ _
  refine ex_b (P := (b2 (mbf (τ 4) 1 N = mbp (τ 4) 1 ∧ cbj (τ 4) 1 N = cbd (τ 4) 1 N)) = 0) (ct := (cod m7_isWell 30, [some (.inl 0)], [], τ)) (cf := (cod m7_isWell 10, [some (.inl 0)], [], τ)) rfl b2_rng (fun hh => absurd hh (by omega)) (fun _ => ?_)
  refine ex_k 2 (P := none) (g := (cod m7_isWell 12, [some (.inl 0)], [.inl 1], τ)) rfl trivial ?_
  refine ex_c (s_hasFerriesInPlace (τ := τ) (Or.inl ⟨rfl, rfl⟩) hn (by omega) hS.bd) (is := cod m7_isWell 13) (L := [some (.inl 0)]) (st := []) rfl rfl rfl ?_
  show Ex _ _ (cod m7_isWell 13, [some (.inl 0)], [.inr (b2 (∀ k, k < N → okf (τ 4) k))], τ) _ _
  refine ex_b (P := (b2 (∀ k, k < N → okf (τ 4) k)) = 0) (ct := (cod m7_isWell 30, [some (.inl 0)], [], τ)) (cf := (cod m7_isWell 14, [some (.inl 0)], [], τ)) rfl b2_rng (fun hh => absurd hh (by omega)) (fun _ => ?_)
  refine ex_k 3 (P := none) (g := (cod m7_isWell 17, [some (.inl 0)], [.inr 6, .inl 1], τ)) rfl trivial ?_
  refine ex_c (s_total (τ := τ) (w := 6) (Or.inl ⟨rfl, rfl⟩) (by omega)) (is := cod m7_isWell 18) (L := [some (.inl 0)]) (st := []) rfl rfl rfl ?_
  show Ex _ _ (cod m7_isWell 18, [some (.inl 0)], [.inr (cel (τ 4) 106)], τ) _ _
  refine ex_k 3 (P := none) (g := (cod m7_isWell 21, [some (.inl 0)], [.inr 7, .inl 1, .inr (cel (τ 4) 106)], τ)) rfl trivial ?_
  refine ex_c (s_total (τ := τ) (w := 7) (Or.inl ⟨rfl, rfl⟩) (by omega)) (is := cod m7_isWell 22) (L := [some (.inl 0)]) (st := [.inr (cel (τ 4) 106)]) rfl rfl rfl ?_
  show Ex _ _ (cod m7_isWell 22, [some (.inl 0)], [.inr (cel (τ 4) 107), .inr (cel (τ 4) 106)], τ) _ _
  refine ex_k 3 (P := none) (g := (cod m7_isWell 25, [some (.inl 0)], [.inr 4, .inl 1, .inr (cel (τ 4) 107), .inr (cel (τ 4) 106)], τ)) rfl trivial ?_
  refine ex_c (s_total (τ := τ) (w := 4) (Or.inl ⟨rfl, rfl⟩) (by omega)) (is := cod m7_isWell 26) (L := [some (.inl 0)]) (st := [.inr (cel (τ 4) 107), .inr (cel (τ 4) 106)]) rfl rfl rfl ?_
  show Ex _ _ (cod m7_isWell 26, [some (.inl 0)], [.inr (cel (τ 4) 104), .inr (cel (τ 4) 107), .inr (cel (τ 4) 106)], τ) _ _
  refine ex_k 1 (P := none) (g := (cod m7_isWell 27, [some (.inl 0)], [.inr ((cel (τ 4) 107) + (cel (τ 4) 104)), .inr (cel (τ 4) 106)], τ)) rfl trivial ?_
  refine ex_b (P := ¬ (cel (τ 4) 106) = ((cel (τ 4) 107) + (cel (τ 4) 104))) (ct := (cod m7_isWell 30, [some (.inl 0)], [], τ)) (cf := (cod m7_isWell 28, [some (.inl 0)], [], τ)) rfl ⟨⟨by omega, by omega⟩, ⟨by omega, by omega⟩⟩ (fun hh => absurd hh (by omega)) (fun _ => ?_)
  refine ex_k 2 (P := none) (g := (cod m7_isWell 31, [some (.inl 0)], [.inr 1], τ)) rfl trivial ?_
  exact ex_r rfl (by first | exact Or.inl rfl | exact Or.inr rfl | omega) rfl (rfl)
theorem c_undo {τ : SZ} (hx : 0 ≤ τ 14 1 ∧ τ 14 1 < 8) (hc : 0 ≤ τ 14 2 ∧ τ 14 2 ≤ 8) : RZ 4 m7_undo [.inl 0] τ (if τ 14 2 = 0 then .inr ("java/lang/IllegalStateException", τ) else .inl (some (.inr (τ 14 2 - 1)), hpb τ)) := by
  refine Ex.call ?_ rfl rfl
  show Ex _ _ (cod m7_undo 0, [some (.inl 0)], [], τ) _ _
  refine ex_k 3 (P := none) (g := (cod m7_undo 3, [some (.inl 0)], [.inr ((τ 14) 2)], τ)) rfl trivial ?_
  refine ex_b (P := ¬ ((τ 14) 2) = 0) (ct := (cod m7_undo 8, [some (.inl 0)], [], τ)) (cf := (cod m7_undo 4, [some (.inl 0)], [], τ)) rfl ⟨by omega, by omega⟩ (fun h1 => ?_) (fun h1 => ?_)
  · first
    | (exfalso; omega)
    | (
        refine ex_k 4 (P := none) (g := (cod m7_undo 12, [some (.inl 0)], [.inl 1, .inl 14], τ)) rfl trivial ?_
        refine ex_c (s_putBack (τ := τ) hx hc) (is := cod m7_undo 13) (L := [some (.inl 0)]) (st := []) rfl rfl rfl ?_
        show Ex _ _ (cod m7_undo 13, [some (.inl 0)], [], hpb τ) _ _
        refine ex_k 3 (P := none) (g := (cod m7_undo 16, [some (.inl 0)], [.inr (((hpb τ) 14) 2)], hpb τ)) rfl trivial ?_
        exact ex_r rfl trivial rfl ((by (repeat (first | rw [if_pos (by omega)] | rw [if_neg (by omega)])); first | done | rfl)))
  · first
    | (exfalso; omega)
    | (
        exact ex_t rfl rfl ((by (repeat (first | rw [if_pos (by omega)] | rw [if_neg (by omega)])); first | done | rfl)))
end MA3
