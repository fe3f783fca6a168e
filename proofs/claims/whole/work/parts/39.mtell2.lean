/-! contracts of the second implementation: what its public methods tell: printed by wip/whole/db21.py -/
section MT2
/-- what a call leaves: which exception, and a detail -/
def tt (τ : SZ) (k e : Int) : SZ := zr τ 21 (zu (zu (τ 21) 7 k) 10 e)
theorem tt_1 {τ : SZ} {K k e : Int} (h : K = k) : zr τ 21 (zu (zu (τ 21) 7 k) 10 e) = tt τ K e := by rw [h]; rfl
theorem tt_2 {τ : SZ} {K k e : Int} (h : K = k) : zr τ 21 (zu (zu (τ 21) 10 e) 7 k) = tt τ K e := by rw [h, zu_sw (i := 10) (j := 7) (by decide)]; rfl
theorem tt_3 {τ : SZ} {K k : Int} (h : K = k) : zr τ 21 (zu (τ 21) 7 k) = tt τ K (τ 21 10) := by
  rw [h]
  unfold tt
  rw [show zu (zu (τ 21) 7 k) 10 (τ 21 10) = zu (τ 21) 7 k from zu_self (f := zu (τ 21) 7 k) (i := 10)]
theorem d_ferryOf {f w : Int} {τ : SZ} {c : Nat → Int} {B : Int} (hI : Iv B c) (hR : Rs c (τ 22)) (hf : Rng f) (hw : Rng w) : ∃ e, RZ 5 m8_ferryOf [.inl 21, .inr f, .inr w] τ (.inl (some (.inr (if (0 ≤ f ∧ f < cel c 107) then (if 0 ≤ w ∧ w < 6 then cel c (0 + f * 6 + w) else 0) else 0)), tt τ (if (0 ≤ f ∧ f < cel c 107) then (if 0 ≤ w ∧ w < 6 then 0 else 2) else 1) e)) := by
  have hS := hI.1
  have hC := hI.2.1
  have hN := hS.n
  obtain ⟨hf1, hf2⟩ := hf
  obtain ⟨hw1, hw2⟩ := hw
  have q : RZq 5 m8_ferryOf [.inl 21, .inr f, .inr w] τ (fun q => ∃ e, q = .inl (some (.inr (if (0 ≤ f ∧ f < cel c 107) then (if 0 ≤ w ∧ w < 6 then cel c (0 + f * 6 + w) else 0) else 0)), tt τ (if (0 ≤ f ∧ f < cel c 107) then (if 0 ≤ w ∧ w < 6 then 0 else 2) else 1) e)) := by
    refine Exq.call ?_ rfl rfl
    show Exq _ _ (cod m8_ferryOf 0, [some (.inl 21), some (.inr f), some (.inr w)], [], τ) _ _
    refine exq_k 3 (P := none) (g := (cod m8_ferryOf 3, [some (.inl 21), some (.inr f), some (.inr w)], [.inr f, .inl 21, .inl 21], τ)) rfl trivial ?_
    refine exq_c (m_isFerry (τ := τ) (f := f) hI hR ⟨by omega, by omega⟩) (is := cod m8_ferryOf 4) (L := [some (.inl 21), some (.inr f), some (.inr w)]) (st := [.inl 21]) rfl rfl rfl ?_
    show Exq _ _ (cod m8_ferryOf 4, [some (.inl 21), some (.inr f), some (.inr w)], [.inr (b2 (0 ≤ f ∧ f < cel c 107)), .inl 21], τ) _ _
    refine exq_b (P := ¬ (b2 (0 ≤ f ∧ f < cel c 107)) = 0) (ct := (cod m8_ferryOf 7, [some (.inl 21), some (.inr f), some (.inr w)], [.inl 21], τ)) (cf := (cod m8_ferryOf 5, [some (.inl 21), some (.inr f), some (.inr w)], [.inl 21], τ)) rfl b2_rng (fun h1 => ?_) (fun h1 => ?_)
    · first
      | (exfalso; have h1 := b2_n0 h1; omega)
      | (
          have h1 := b2_n0 h1
          refine exq_k 3 (P := none) (g := (cod m8_ferryOf 10, [some (.inl 21), some (.inr f), some (.inr w)], [.inr 5, .inr 0, .inr w, .inl 21], τ)) rfl trivial ?_
          refine exq_c (m_in (τ := τ) (v := w) (a := 0) (b := 5) ⟨by omega, by omega⟩ ⟨by omega, by omega⟩ ⟨by omega, by omega⟩) (is := cod m8_ferryOf 11) (L := [some (.inl 21), some (.inr f), some (.inr w)]) (st := [.inl 21]) rfl rfl rfl ?_
          show Exq _ _ (cod m8_ferryOf 11, [some (.inl 21), some (.inr f), some (.inr w)], [.inr (b2 (0 ≤ w ∧ w ≤ 5)), .inl 21], τ) _ _
          refine exq_b (P := ¬ (b2 (0 ≤ w ∧ w ≤ 5)) = 0) (ct := (cod m8_ferryOf 14, [some (.inl 21), some (.inr f), some (.inr w)], [.inl 21], τ)) (cf := (cod m8_ferryOf 12, [some (.inl 21), some (.inr f), some (.inr w)], [.inl 21], τ)) rfl b2_rng (fun h2 => ?_) (fun h2 => ?_)
          · first
            | (exfalso; have h2 := b2_n0 h2; omega)
            | (
                have h2 := b2_n0 h2
                refine exq_k 2 (P := none) (g := (cod m8_ferryOf 16, [some (.inl 21), some (.inr f), some (.inr w)], [], (zr τ 21 (zu (τ 21) 7 0)))) rfl trivial ?_
                refine exq_k 2 (P := none) (g := (cod m8_ferryOf 18, [some (.inl 21), some (.inr f), some (.inr w)], [.inr 0], (zr τ 21 (zu (τ 21) 7 0)))) rfl trivial ?_
                refine exq_b (P := 0 ≤ 0) (ct := (cod m8_ferryOf 21, [some (.inl 21), some (.inr f), some (.inr w)], [], (zr τ 21 (zu (τ 21) 7 0)))) (cf := (cod m8_ferryOf 19, [some (.inl 21), some (.inr f), some (.inr w)], [], (zr τ 21 (zu (τ 21) 7 0)))) rfl ⟨by decide, by decide⟩ (fun _ => ?_) (fun hh => absurd (by decide) hh)
                refine exq_k 3 (P := none) (g := (cod m8_ferryOf 24, [some (.inl 21), some (.inr f), some (.inr w)], [.inr w, .inr f, .inl 21], (zr τ 21 (zu (τ 21) 7 0)))) rfl trivial ?_
                refine exq_c (m_of (τ := (zr τ 21 (zu (τ 21) 7 0))) (f := f) (w := w) hI hR (by omega) (by omega)) (is := cod m8_ferryOf 25) (L := [some (.inl 21), some (.inr f), some (.inr w)]) (st := []) rfl rfl rfl ?_
                show Exq _ _ (cod m8_ferryOf 25, [some (.inl 21), some (.inr f), some (.inr w)], [.inr (cel c (0 + f * 6 + w))], (zr τ 21 (zu (τ 21) 7 0))) _ _
                exact exq_r rfl trivial rfl (⟨_, rI2 (by (repeat (first | rw [if_pos (by omega)] | rw [if_neg (by omega)])); first | done | rfl | omega) (tt_3 (by (repeat (first | rw [if_pos (by omega)] | rw [if_neg (by omega)])); first | done | rfl | omega))⟩))
          · first
            | (exfalso; have h2 := b2_nn0 h2; omega)
            | (
                have h2 := b2_nn0 h2
                refine exq_k 3 (P := none) (g := (cod m8_ferryOf 16, [some (.inl 21), some (.inr f), some (.inr w)], [], (zr τ 21 (zu (τ 21) 7 2)))) rfl trivial ?_
                refine exq_k 2 (P := none) (g := (cod m8_ferryOf 18, [some (.inl 21), some (.inr f), some (.inr w)], [.inr 2], (zr τ 21 (zu (τ 21) 7 2)))) rfl trivial ?_
                refine exq_b (P := 2 ≤ 0) (ct := (cod m8_ferryOf 21, [some (.inl 21), some (.inr f), some (.inr w)], [], (zr τ 21 (zu (τ 21) 7 2)))) (cf := (cod m8_ferryOf 19, [some (.inl 21), some (.inr f), some (.inr w)], [], (zr τ 21 (zu (τ 21) 7 2)))) rfl ⟨by decide, by decide⟩ (fun hh => absurd hh (by decide)) (fun _ => ?_)
                refine exq_k 2 (P := none) (g := (cod m8_ferryOf 25, [some (.inl 21), some (.inr f), some (.inr w)], [.inr 0], (zr τ 21 (zu (τ 21) 7 2)))) rfl trivial ?_
                exact exq_r rfl trivial rfl (⟨_, rI2 (by (repeat (first | rw [if_pos (by omega)] | rw [if_neg (by omega)])); first | done | rfl | omega) (tt_3 (by (repeat (first | rw [if_pos (by omega)] | rw [if_neg (by omega)])); first | done | rfl | omega))⟩)))
    · first
      | (exfalso; have h1 := b2_nn0 h1; omega)
      | (
          have h1 := b2_nn0 h1
          refine exq_k 3 (P := none) (g := (cod m8_ferryOf 16, [some (.inl 21), some (.inr f), some (.inr w)], [], (zr τ 21 (zu (τ 21) 7 1)))) rfl trivial ?_
          refine exq_k 2 (P := none) (g := (cod m8_ferryOf 18, [some (.inl 21), some (.inr f), some (.inr w)], [.inr 1], (zr τ 21 (zu (τ 21) 7 1)))) rfl trivial ?_
          refine exq_b (P := 1 ≤ 0) (ct := (cod m8_ferryOf 21, [some (.inl 21), some (.inr f), some (.inr w)], [], (zr τ 21 (zu (τ 21) 7 1)))) (cf := (cod m8_ferryOf 19, [some (.inl 21), some (.inr f), some (.inr w)], [], (zr τ 21 (zu (τ 21) 7 1)))) rfl ⟨by decide, by decide⟩ (fun hh => absurd hh (by decide)) (fun _ => ?_)
          refine exq_k 2 (P := none) (g := (cod m8_ferryOf 25, [some (.inl 21), some (.inr f), some (.inr w)], [.inr 0], (zr τ 21 (zu (τ 21) 7 1)))) rfl trivial ?_
          exact exq_r rfl trivial rfl (⟨_, rI2 (by (repeat (first | rw [if_pos (by omega)] | rw [if_neg (by omega)])); first | done | rfl | omega) (tt_3 (by (repeat (first | rw [if_pos (by omega)] | rw [if_neg (by omega)])); first | done | rfl | omega))⟩))
  obtain ⟨q, ⟨e, rfl⟩, h⟩ := q
  exact ⟨e, h⟩
theorem d_at {r p : Int} {τ : SZ} {c : Nat → Int} {B : Int} (hI : Iv B c) (hR : Rs c (τ 22)) (hr : Rng r) (hp : Rng p) : ∃ e, RZ 5 m8_at [.inl 21, .inr r, .inr p] τ (.inl (some (.inr (if (0 ≤ r ∧ r < 2) ∧ (0 ≤ p ∧ p < 12) then whz c r p else 0)), tt τ (if (0 ≤ r ∧ r < 2) ∧ (0 ≤ p ∧ p < 12) then 0 else 1) e)) := by
  have hS := hI.1
  have hC := hI.2.1
  have hN := hS.n
  obtain ⟨hr1, hr2⟩ := hr
  obtain ⟨hp1, hp2⟩ := hp
  have q : RZq 5 m8_at [.inl 21, .inr r, .inr p] τ (fun q => ∃ e, q = .inl (some (.inr (if (0 ≤ r ∧ r < 2) ∧ (0 ≤ p ∧ p < 12) then whz c r p else 0)), tt τ (if (0 ≤ r ∧ r < 2) ∧ (0 ≤ p ∧ p < 12) then 0 else 1) e)) := by
    refine Exq.call ?_ rfl rfl
    show Exq _ _ (cod m8_at 0, [some (.inl 21), some (.inr r), some (.inr p)], [], τ) _ _
    refine exq_k 2 (P := none) (g := (cod m8_at 2, [some (.inl 21), some (.inr r), some (.inr p)], [.inr r, .inl 21], τ)) rfl trivial ?_
    refine exq_c (m_isRiver (τ := τ) (v := r) ⟨by omega, by omega⟩) (is := cod m8_at 3) (L := [some (.inl 21), some (.inr r), some (.inr p)]) (st := [.inl 21]) rfl rfl rfl ?_
    show Exq _ _ (cod m8_at 3, [some (.inl 21), some (.inr r), some (.inr p)], [.inr (b2 (0 ≤ r ∧ r < 2)), .inl 21], τ) _ _
    refine exq_b (P := (b2 (0 ≤ r ∧ r < 2)) = 0) (ct := (cod m8_at 9, [some (.inl 21), some (.inr r), some (.inr p)], [.inl 21], τ)) (cf := (cod m8_at 4, [some (.inl 21), some (.inr r), some (.inr p)], [.inl 21], τ)) rfl b2_rng (fun h1 => ?_) (fun h1 => ?_)
    · first
      | (exfalso; have h1 := b2_e0 h1; omega)
      | (
          have h1 := b2_e0 h1
          refine exq_k 2 (P := none) (g := (cod m8_at 11, [some (.inl 21), some (.inr r), some (.inr p)], [], (zr τ 21 (zu (τ 21) 7 1)))) rfl trivial ?_
          refine exq_k 2 (P := none) (g := (cod m8_at 13, [some (.inl 21), some (.inr r), some (.inr p)], [.inr 1], (zr τ 21 (zu (τ 21) 7 1)))) rfl trivial ?_
          refine exq_b (P := 1 ≤ 0) (ct := (cod m8_at 16, [some (.inl 21), some (.inr r), some (.inr p)], [], (zr τ 21 (zu (τ 21) 7 1)))) (cf := (cod m8_at 14, [some (.inl 21), some (.inr r), some (.inr p)], [], (zr τ 21 (zu (τ 21) 7 1)))) rfl ⟨by decide, by decide⟩ (fun hh => absurd hh (by decide)) (fun _ => ?_)
          refine exq_k 2 (P := none) (g := (cod m8_at 20, [some (.inl 21), some (.inr r), some (.inr p)], [.inr 0], (zr τ 21 (zu (τ 21) 7 1)))) rfl trivial ?_
          exact exq_r rfl trivial rfl (⟨_, rI2 (by (repeat (first | rw [if_pos (by omega)] | rw [if_neg (by omega)])); first | done | rfl | omega) (tt_3 (by (repeat (first | rw [if_pos (by omega)] | rw [if_neg (by omega)])); first | done | rfl | omega))⟩))
    · first
      | (exfalso; have h1 := b2_n0 h1; omega)
      | (
          have h1 := b2_n0 h1
          refine exq_k 1 (P := none) (g := (cod m8_at 5, [some (.inl 21), some (.inr r), some (.inr p)], [.inr p, .inl 21], τ)) rfl trivial ?_
          refine exq_c (m_isPlace (τ := τ) (v := p) ⟨by omega, by omega⟩) (is := cod m8_at 6) (L := [some (.inl 21), some (.inr r), some (.inr p)]) (st := [.inl 21]) rfl rfl rfl ?_
          show Exq _ _ (cod m8_at 6, [some (.inl 21), some (.inr r), some (.inr p)], [.inr (b2 (0 ≤ p ∧ p < 12)), .inl 21], τ) _ _
          refine exq_b (P := (b2 (0 ≤ p ∧ p < 12)) = 0) (ct := (cod m8_at 9, [some (.inl 21), some (.inr r), some (.inr p)], [.inl 21], τ)) (cf := (cod m8_at 7, [some (.inl 21), some (.inr r), some (.inr p)], [.inl 21], τ)) rfl b2_rng (fun h3 => ?_) (fun h3 => ?_)
          · first
            | (exfalso; have h3 := b2_e0 h3; omega)
            | (
                have h3 := b2_e0 h3
                refine exq_k 2 (P := none) (g := (cod m8_at 11, [some (.inl 21), some (.inr r), some (.inr p)], [], (zr τ 21 (zu (τ 21) 7 1)))) rfl trivial ?_
                refine exq_k 2 (P := none) (g := (cod m8_at 13, [some (.inl 21), some (.inr r), some (.inr p)], [.inr 1], (zr τ 21 (zu (τ 21) 7 1)))) rfl trivial ?_
                refine exq_b (P := 1 ≤ 0) (ct := (cod m8_at 16, [some (.inl 21), some (.inr r), some (.inr p)], [], (zr τ 21 (zu (τ 21) 7 1)))) (cf := (cod m8_at 14, [some (.inl 21), some (.inr r), some (.inr p)], [], (zr τ 21 (zu (τ 21) 7 1)))) rfl ⟨by decide, by decide⟩ (fun hh => absurd hh (by decide)) (fun _ => ?_)
                refine exq_k 2 (P := none) (g := (cod m8_at 20, [some (.inl 21), some (.inr r), some (.inr p)], [.inr 0], (zr τ 21 (zu (τ 21) 7 1)))) rfl trivial ?_
                exact exq_r rfl trivial rfl (⟨_, rI2 (by (repeat (first | rw [if_pos (by omega)] | rw [if_neg (by omega)])); first | done | rfl | omega) (tt_3 (by (repeat (first | rw [if_pos (by omega)] | rw [if_neg (by omega)])); first | done | rfl | omega))⟩))
          · first
            | (exfalso; have h3 := b2_n0 h3; omega)
            | (
                have h3 := b2_n0 h3
                refine exq_k 3 (P := none) (g := (cod m8_at 11, [some (.inl 21), some (.inr r), some (.inr p)], [], (zr τ 21 (zu (τ 21) 7 0)))) rfl trivial ?_
                refine exq_k 2 (P := none) (g := (cod m8_at 13, [some (.inl 21), some (.inr r), some (.inr p)], [.inr 0], (zr τ 21 (zu (τ 21) 7 0)))) rfl trivial ?_
                refine exq_b (P := 0 ≤ 0) (ct := (cod m8_at 16, [some (.inl 21), some (.inr r), some (.inr p)], [], (zr τ 21 (zu (τ 21) 7 0)))) (cf := (cod m8_at 14, [some (.inl 21), some (.inr r), some (.inr p)], [], (zr τ 21 (zu (τ 21) 7 0)))) rfl ⟨by decide, by decide⟩ (fun _ => ?_) (fun hh => absurd (by decide) hh)
                refine exq_k 3 (P := none) (g := (cod m8_at 19, [some (.inl 21), some (.inr r), some (.inr p)], [.inr p, .inr r, .inl 21], (zr τ 21 (zu (τ 21) 7 0)))) rfl trivial ?_
                refine exq_c (m_there (τ := (zr τ 21 (zu (τ 21) 7 0))) (r := r) (p := p) hI hR (by omega) (by omega)) (is := cod m8_at 20) (L := [some (.inl 21), some (.inr r), some (.inr p)]) (st := []) rfl rfl rfl ?_
                show Exq _ _ (cod m8_at 20, [some (.inl 21), some (.inr r), some (.inr p)], [.inr (whz c r p)], (zr τ 21 (zu (τ 21) 7 0))) _ _
                exact exq_r rfl trivial rfl (⟨_, rI2 (by (repeat (first | rw [if_pos (by omega)] | rw [if_neg (by omega)])); first | done | rfl | omega) (tt_3 (by (repeat (first | rw [if_pos (by omega)] | rw [if_neg (by omega)])); first | done | rfl | omega))⟩)))
  obtain ⟨q, ⟨e, rfl⟩, h⟩ := q
  exact ⟨e, h⟩
theorem d_lockAt {r p : Int} {τ : SZ} {c : Nat → Int} {B : Int} (hI : Iv B c) (hR : Rs c (τ 22)) (hr : Rng r) (hp : Rng p) : ∃ e, RZ 5 m8_lockAt [.inl 21, .inr r, .inr p] τ (.inl (some (.inr (if (0 ≤ r ∧ r < 2) ∧ (0 ≤ p ∧ p < 12) then usz c r p else 0)), tt τ (if (0 ≤ r ∧ r < 2) ∧ (0 ≤ p ∧ p < 12) then 0 else 1) e)) := by
  have hS := hI.1
  have hC := hI.2.1
  have hN := hS.n
  obtain ⟨hr1, hr2⟩ := hr
  obtain ⟨hp1, hp2⟩ := hp
  have q : RZq 5 m8_lockAt [.inl 21, .inr r, .inr p] τ (fun q => ∃ e, q = .inl (some (.inr (if (0 ≤ r ∧ r < 2) ∧ (0 ≤ p ∧ p < 12) then usz c r p else 0)), tt τ (if (0 ≤ r ∧ r < 2) ∧ (0 ≤ p ∧ p < 12) then 0 else 1) e)) := by
    refine Exq.call ?_ rfl rfl
    show Exq _ _ (cod m8_lockAt 0, [some (.inl 21), some (.inr r), some (.inr p)], [], τ) _ _
    refine exq_k 2 (P := none) (g := (cod m8_lockAt 2, [some (.inl 21), some (.inr r), some (.inr p)], [.inr r, .inl 21], τ)) rfl trivial ?_
    refine exq_c (m_isRiver (τ := τ) (v := r) ⟨by omega, by omega⟩) (is := cod m8_lockAt 3) (L := [some (.inl 21), some (.inr r), some (.inr p)]) (st := [.inl 21]) rfl rfl rfl ?_
    show Exq _ _ (cod m8_lockAt 3, [some (.inl 21), some (.inr r), some (.inr p)], [.inr (b2 (0 ≤ r ∧ r < 2)), .inl 21], τ) _ _
    refine exq_b (P := (b2 (0 ≤ r ∧ r < 2)) = 0) (ct := (cod m8_lockAt 9, [some (.inl 21), some (.inr r), some (.inr p)], [.inl 21], τ)) (cf := (cod m8_lockAt 4, [some (.inl 21), some (.inr r), some (.inr p)], [.inl 21], τ)) rfl b2_rng (fun h1 => ?_) (fun h1 => ?_)
    · first
      | (exfalso; have h1 := b2_e0 h1; omega)
      | (
          have h1 := b2_e0 h1
          refine exq_k 2 (P := none) (g := (cod m8_lockAt 11, [some (.inl 21), some (.inr r), some (.inr p)], [], (zr τ 21 (zu (τ 21) 7 1)))) rfl trivial ?_
          refine exq_k 2 (P := none) (g := (cod m8_lockAt 13, [some (.inl 21), some (.inr r), some (.inr p)], [.inr 1], (zr τ 21 (zu (τ 21) 7 1)))) rfl trivial ?_
          refine exq_b (P := 1 ≤ 0) (ct := (cod m8_lockAt 16, [some (.inl 21), some (.inr r), some (.inr p)], [], (zr τ 21 (zu (τ 21) 7 1)))) (cf := (cod m8_lockAt 14, [some (.inl 21), some (.inr r), some (.inr p)], [], (zr τ 21 (zu (τ 21) 7 1)))) rfl ⟨by decide, by decide⟩ (fun hh => absurd hh (by decide)) (fun _ => ?_)
          refine exq_k 2 (P := none) (g := (cod m8_lockAt 22, [some (.inl 21), some (.inr r), some (.inr p)], [.inr 0], (zr τ 21 (zu (τ 21) 7 1)))) rfl trivial ?_
          exact exq_r rfl trivial rfl (⟨_, rI2 (by (repeat (first | rw [if_pos (by omega)] | rw [if_neg (by omega)])); first | done | rfl | omega) (tt_3 (by (repeat (first | rw [if_pos (by omega)] | rw [if_neg (by omega)])); first | done | rfl | omega))⟩))
    · first
      | (exfalso; have h1 := b2_n0 h1; omega)
      | (
          have h1 := b2_n0 h1
          refine exq_k 1 (P := none) (g := (cod m8_lockAt 5, [some (.inl 21), some (.inr r), some (.inr p)], [.inr p, .inl 21], τ)) rfl trivial ?_
          refine exq_c (m_isPlace (τ := τ) (v := p) ⟨by omega, by omega⟩) (is := cod m8_lockAt 6) (L := [some (.inl 21), some (.inr r), some (.inr p)]) (st := [.inl 21]) rfl rfl rfl ?_
          show Exq _ _ (cod m8_lockAt 6, [some (.inl 21), some (.inr r), some (.inr p)], [.inr (b2 (0 ≤ p ∧ p < 12)), .inl 21], τ) _ _
          refine exq_b (P := (b2 (0 ≤ p ∧ p < 12)) = 0) (ct := (cod m8_lockAt 9, [some (.inl 21), some (.inr r), some (.inr p)], [.inl 21], τ)) (cf := (cod m8_lockAt 7, [some (.inl 21), some (.inr r), some (.inr p)], [.inl 21], τ)) rfl b2_rng (fun h3 => ?_) (fun h3 => ?_)
          · first
            | (exfalso; have h3 := b2_e0 h3; omega)
            | (
                have h3 := b2_e0 h3
                refine exq_k 2 (P := none) (g := (cod m8_lockAt 11, [some (.inl 21), some (.inr r), some (.inr p)], [], (zr τ 21 (zu (τ 21) 7 1)))) rfl trivial ?_
                refine exq_k 2 (P := none) (g := (cod m8_lockAt 13, [some (.inl 21), some (.inr r), some (.inr p)], [.inr 1], (zr τ 21 (zu (τ 21) 7 1)))) rfl trivial ?_
                refine exq_b (P := 1 ≤ 0) (ct := (cod m8_lockAt 16, [some (.inl 21), some (.inr r), some (.inr p)], [], (zr τ 21 (zu (τ 21) 7 1)))) (cf := (cod m8_lockAt 14, [some (.inl 21), some (.inr r), some (.inr p)], [], (zr τ 21 (zu (τ 21) 7 1)))) rfl ⟨by decide, by decide⟩ (fun hh => absurd hh (by decide)) (fun _ => ?_)
                refine exq_k 2 (P := none) (g := (cod m8_lockAt 22, [some (.inl 21), some (.inr r), some (.inr p)], [.inr 0], (zr τ 21 (zu (τ 21) 7 1)))) rfl trivial ?_
                exact exq_r rfl trivial rfl (⟨_, rI2 (by (repeat (first | rw [if_pos (by omega)] | rw [if_neg (by omega)])); first | done | rfl | omega) (tt_3 (by (repeat (first | rw [if_pos (by omega)] | rw [if_neg (by omega)])); first | done | rfl | omega))⟩))
          · first
            | (exfalso; have h3 := b2_n0 h3; omega)
            | (
                have h3 := b2_n0 h3
                refine exq_k 3 (P := none) (g := (cod m8_lockAt 11, [some (.inl 21), some (.inr r), some (.inr p)], [], (zr τ 21 (zu (τ 21) 7 0)))) rfl trivial ?_
                refine exq_k 2 (P := none) (g := (cod m8_lockAt 13, [some (.inl 21), some (.inr r), some (.inr p)], [.inr 0], (zr τ 21 (zu (τ 21) 7 0)))) rfl trivial ?_
                refine exq_b (P := 0 ≤ 0) (ct := (cod m8_lockAt 16, [some (.inl 21), some (.inr r), some (.inr p)], [], (zr τ 21 (zu (τ 21) 7 0)))) (cf := (cod m8_lockAt 14, [some (.inl 21), some (.inr r), some (.inr p)], [], (zr τ 21 (zu (τ 21) 7 0)))) rfl ⟨by decide, by decide⟩ (fun _ => ?_) (fun hh => absurd (by decide) hh)
                refine exq_k 5 (P := none) (g := (cod m8_lockAt 21, [some (.inl 21), some (.inr r), some (.inr p)], [.inr (2 + p), .inr r, .inl 21], (zr τ 21 (zu (τ 21) 7 0)))) rfl trivial ?_
                refine exq_c (m_ol (τ := (zr τ 21 (zu (τ 21) 7 0))) (r := r) (p := p) hI hR (by omega) (by omega)) (is := cod m8_lockAt 22) (L := [some (.inl 21), some (.inr r), some (.inr p)]) (st := []) rfl rfl rfl ?_
                show Exq _ _ (cod m8_lockAt 22, [some (.inl 21), some (.inr r), some (.inr p)], [.inr (usz c r p)], (zr τ 21 (zu (τ 21) 7 0))) _ _
                exact exq_r rfl trivial rfl (⟨_, rI2 (by (repeat (first | rw [if_pos (by omega)] | rw [if_neg (by omega)])); first | done | rfl | omega) (tt_3 (by (repeat (first | rw [if_pos (by omega)] | rw [if_neg (by omega)])); first | done | rfl | omega))⟩)))
  obtain ⟨q, ⟨e, rfl⟩, h⟩ := q
  exact ⟨e, h⟩
theorem d_isFog {r p : Int} {τ : SZ} {c : Nat → Int} {B : Int} (hI : Iv B c) (hR : Rs c (τ 22)) (hr : Rng r) (hp : Rng p) : ∃ e, RZ 5 m8_isFog [.inl 21, .inr r, .inr p] τ (.inl (some (.inr (if (0 ≤ r ∧ r < 2) ∧ (0 ≤ p ∧ p < 12) then b2 (fgd c r p) else 0)), tt τ (if (0 ≤ r ∧ r < 2) ∧ (0 ≤ p ∧ p < 12) then 0 else 1) e)) := by
  have hS := hI.1
  have hC := hI.2.1
  have hN := hS.n
  obtain ⟨hr1, hr2⟩ := hr
  obtain ⟨hp1, hp2⟩ := hp
  have hfb : 0 ≤ r → r < 2 → 0 ≤ cel c (96 + r) ∧ cel c (96 + r) ≤ 11 := fun q1 q2 => hS.fb ⟨q1, q2⟩
  have hfw : 0 ≤ r → r < 2 → 0 ≤ cel c (98 + r) ∧ cel c (98 + r) ≤ 4 := fun q1 q2 => hS.fw ⟨q1, q2⟩
  have q : RZq 5 m8_isFog [.inl 21, .inr r, .inr p] τ (fun q => ∃ e, q = .inl (some (.inr (if (0 ≤ r ∧ r < 2) ∧ (0 ≤ p ∧ p < 12) then b2 (fgd c r p) else 0)), tt τ (if (0 ≤ r ∧ r < 2) ∧ (0 ≤ p ∧ p < 12) then 0 else 1) e)) := by
    refine Exq.call ?_ rfl rfl
    show Exq _ _ (cod m8_isFog 0, [some (.inl 21), some (.inr r), some (.inr p)], [], τ) _ _
    refine exq_k 2 (P := none) (g := (cod m8_isFog 2, [some (.inl 21), some (.inr r), some (.inr p)], [.inr r, .inl 21], τ)) rfl trivial ?_
    refine exq_c (m_isRiver (τ := τ) (v := r) ⟨by omega, by omega⟩) (is := cod m8_isFog 3) (L := [some (.inl 21), some (.inr r), some (.inr p)]) (st := [.inl 21]) rfl rfl rfl ?_
    show Exq _ _ (cod m8_isFog 3, [some (.inl 21), some (.inr r), some (.inr p)], [.inr (b2 (0 ≤ r ∧ r < 2)), .inl 21], τ) _ _
    refine exq_b (P := (b2 (0 ≤ r ∧ r < 2)) = 0) (ct := (cod m8_isFog 9, [some (.inl 21), some (.inr r), some (.inr p)], [.inl 21], τ)) (cf := (cod m8_isFog 4, [some (.inl 21), some (.inr r), some (.inr p)], [.inl 21], τ)) rfl b2_rng (fun h1 => ?_) (fun h1 => ?_)
    · first
      | (exfalso; have h1 := b2_e0 h1; omega)
      | (
          have h1 := b2_e0 h1
          refine exq_k 2 (P := none) (g := (cod m8_isFog 11, [some (.inl 21), some (.inr r), some (.inr p)], [], (zr τ 21 (zu (τ 21) 7 1)))) rfl trivial ?_
          refine exq_k 2 (P := none) (g := (cod m8_isFog 13, [some (.inl 21), some (.inr r), some (.inr p)], [.inr 1], (zr τ 21 (zu (τ 21) 7 1)))) rfl trivial ?_
          refine exq_b (P := ¬ 1 = 0) (ct := (cod m8_isFog 21, [some (.inl 21), some (.inr r), some (.inr p)], [], (zr τ 21 (zu (τ 21) 7 1)))) (cf := (cod m8_isFog 14, [some (.inl 21), some (.inr r), some (.inr p)], [], (zr τ 21 (zu (τ 21) 7 1)))) rfl ⟨by decide, by decide⟩ (fun _ => ?_) (fun hh => absurd (by decide) hh)
          refine exq_k 1 (P := none) (g := (cod m8_isFog 22, [some (.inl 21), some (.inr r), some (.inr p)], [.inr 0], (zr τ 21 (zu (τ 21) 7 1)))) rfl trivial ?_
          exact exq_r rfl (by first | exact Or.inl rfl | exact Or.inr rfl | (show 0 = 0 ∨ 0 = 1; omega)) rfl (⟨_, rI2 (by (repeat (first | rw [if_pos (by omega)] | rw [if_neg (by omega)])); first | done | rfl | (unfold fgd; rw [b2_t (by omega)]; done) | (unfold fgd; rw [b2_f (by omega)]; done)) (tt_3 (by (repeat (first | rw [if_pos (by omega)] | rw [if_neg (by omega)])); first | done | rfl | omega))⟩))
    · first
      | (exfalso; have h1 := b2_n0 h1; omega)
      | (
          have h1 := b2_n0 h1
          refine exq_k 1 (P := none) (g := (cod m8_isFog 5, [some (.inl 21), some (.inr r), some (.inr p)], [.inr p, .inl 21], τ)) rfl trivial ?_
          refine exq_c (m_isPlace (τ := τ) (v := p) ⟨by omega, by omega⟩) (is := cod m8_isFog 6) (L := [some (.inl 21), some (.inr r), some (.inr p)]) (st := [.inl 21]) rfl rfl rfl ?_
          show Exq _ _ (cod m8_isFog 6, [some (.inl 21), some (.inr r), some (.inr p)], [.inr (b2 (0 ≤ p ∧ p < 12)), .inl 21], τ) _ _
          refine exq_b (P := (b2 (0 ≤ p ∧ p < 12)) = 0) (ct := (cod m8_isFog 9, [some (.inl 21), some (.inr r), some (.inr p)], [.inl 21], τ)) (cf := (cod m8_isFog 7, [some (.inl 21), some (.inr r), some (.inr p)], [.inl 21], τ)) rfl b2_rng (fun h3 => ?_) (fun h3 => ?_)
          · first
            | (exfalso; have h3 := b2_e0 h3; omega)
            | (
                have h3 := b2_e0 h3
                refine exq_k 2 (P := none) (g := (cod m8_isFog 11, [some (.inl 21), some (.inr r), some (.inr p)], [], (zr τ 21 (zu (τ 21) 7 1)))) rfl trivial ?_
                refine exq_k 2 (P := none) (g := (cod m8_isFog 13, [some (.inl 21), some (.inr r), some (.inr p)], [.inr 1], (zr τ 21 (zu (τ 21) 7 1)))) rfl trivial ?_
                refine exq_b (P := ¬ 1 = 0) (ct := (cod m8_isFog 21, [some (.inl 21), some (.inr r), some (.inr p)], [], (zr τ 21 (zu (τ 21) 7 1)))) (cf := (cod m8_isFog 14, [some (.inl 21), some (.inr r), some (.inr p)], [], (zr τ 21 (zu (τ 21) 7 1)))) rfl ⟨by decide, by decide⟩ (fun _ => ?_) (fun hh => absurd (by decide) hh)
                refine exq_k 1 (P := none) (g := (cod m8_isFog 22, [some (.inl 21), some (.inr r), some (.inr p)], [.inr 0], (zr τ 21 (zu (τ 21) 7 1)))) rfl trivial ?_
                exact exq_r rfl (by first | exact Or.inl rfl | exact Or.inr rfl | (show 0 = 0 ∨ 0 = 1; omega)) rfl (⟨_, rI2 (by (repeat (first | rw [if_pos (by omega)] | rw [if_neg (by omega)])); first | done | rfl | (unfold fgd; rw [b2_t (by omega)]; done) | (unfold fgd; rw [b2_f (by omega)]; done)) (tt_3 (by (repeat (first | rw [if_pos (by omega)] | rw [if_neg (by omega)])); first | done | rfl | omega))⟩))
          · first
            | (exfalso; have h3 := b2_n0 h3; omega)
            | (
                have h3 := b2_n0 h3
                refine exq_k 3 (P := none) (g := (cod m8_isFog 11, [some (.inl 21), some (.inr r), some (.inr p)], [], (zr τ 21 (zu (τ 21) 7 0)))) rfl trivial ?_
                refine exq_k 2 (P := none) (g := (cod m8_isFog 13, [some (.inl 21), some (.inr r), some (.inr p)], [.inr 0], (zr τ 21 (zu (τ 21) 7 0)))) rfl trivial ?_
                refine exq_b (P := ¬ 0 = 0) (ct := (cod m8_isFog 21, [some (.inl 21), some (.inr r), some (.inr p)], [], (zr τ 21 (zu (τ 21) 7 0)))) (cf := (cod m8_isFog 14, [some (.inl 21), some (.inr r), some (.inr p)], [], (zr τ 21 (zu (τ 21) 7 0)))) rfl ⟨by decide, by decide⟩ (fun hh => absurd hh (by decide)) (fun _ => ?_)
                refine exq_k 3 (P := none) (g := (cod m8_isFog 17, [some (.inl 21), some (.inr r), some (.inr p)], [.inr p, .inr r, .inl 21], (zr τ 21 (zu (τ 21) 7 0)))) rfl trivial ?_
                refine exq_c (m_inFog (τ := (zr τ 21 (zu (τ 21) 7 0))) (r := r) (p := p) hI hR (by omega) (by omega)) (is := cod m8_isFog 18) (L := [some (.inl 21), some (.inr r), some (.inr p)]) (st := []) rfl rfl rfl ?_
                show Exq _ _ (cod m8_isFog 18, [some (.inl 21), some (.inr r), some (.inr p)], [.inr (b2 ((p - cel c (96 + r) + 12) % 12 < cel c (98 + r)))], (zr τ 21 (zu (τ 21) 7 0))) _ _
                refine exq_b (P := (b2 ((p - cel c (96 + r) + 12) % 12 < cel c (98 + r))) = 0) (ct := (cod m8_isFog 21, [some (.inl 21), some (.inr r), some (.inr p)], [], (zr τ 21 (zu (τ 21) 7 0)))) (cf := (cod m8_isFog 19, [some (.inl 21), some (.inr r), some (.inr p)], [], (zr τ 21 (zu (τ 21) 7 0)))) rfl b2_rng (fun h6 => ?_) (fun h6 => ?_)
                · first
                  | (exfalso; have h6 := b2_e0 h6; omega)
                  | (
                      have h6 := b2_e0 h6
                      refine exq_k 1 (P := none) (g := (cod m8_isFog 22, [some (.inl 21), some (.inr r), some (.inr p)], [.inr 0], (zr τ 21 (zu (τ 21) 7 0)))) rfl trivial ?_
                      exact exq_r rfl (by first | exact Or.inl rfl | exact Or.inr rfl | (show 0 = 0 ∨ 0 = 1; omega)) rfl (⟨_, rI2 (by (repeat (first | rw [if_pos (by omega)] | rw [if_neg (by omega)])); first | done | rfl | (unfold fgd; rw [b2_t (by omega)]; done) | (unfold fgd; rw [b2_f (by omega)]; done)) (tt_3 (by (repeat (first | rw [if_pos (by omega)] | rw [if_neg (by omega)])); first | done | rfl | omega))⟩))
                · first
                  | (exfalso; have h6 := b2_n0 h6; omega)
                  | (
                      have h6 := b2_n0 h6
                      refine exq_k 2 (P := none) (g := (cod m8_isFog 22, [some (.inl 21), some (.inr r), some (.inr p)], [.inr 1], (zr τ 21 (zu (τ 21) 7 0)))) rfl trivial ?_
                      exact exq_r rfl (by first | exact Or.inl rfl | exact Or.inr rfl | (show 1 = 0 ∨ 1 = 1; omega)) rfl (⟨_, rI2 (by (repeat (first | rw [if_pos (by omega)] | rw [if_neg (by omega)])); first | done | rfl | (unfold fgd; rw [b2_t (by omega)]; done) | (unfold fgd; rw [b2_f (by omega)]; done)) (tt_3 (by (repeat (first | rw [if_pos (by omega)] | rw [if_neg (by omega)])); first | done | rfl | omega))⟩))))
  obtain ⟨q, ⟨e, rfl⟩, h⟩ := q
  exact ⟨e, h⟩
theorem d_turn {τ : SZ} {c : Nat → Int} {B : Int} (hI : Iv B c) (hR : Rs c (τ 22)) : ∃ e, RZ 3 m8_turn [.inl 21] τ (.inl (some (.inr (cel c 108)), tt τ (0) e)) := by
  have hS := hI.1
  have hC := hI.2.1
  have hN := hS.n
  have h1 := hR.tu hN.1
  have q : RZq 3 m8_turn [.inl 21] τ (fun q => ∃ e, q = .inl (some (.inr (cel c 108)), tt τ (0) e)) := by
    refine Exq.call ?_ rfl rfl
    show Exq _ _ (cod m8_turn 0, [some (.inl 21)], [], τ) _ _
    refine exq_k 3 (P := none) (g := (cod m8_turn 3, [some (.inl 21)], [], (zr τ 21 (zu (τ 21) 7 0)))) rfl trivial ?_
    refine exq_k 4 (P := some (0 ≤ 1 ∧ 1 < ((109 : Nat) : Int))) (g := (cod m8_turn 7, [some (.inl 21)], [.inr ((τ 22) 1)], (zr τ 21 (zu (τ 21) 7 0)))) rfl (by show 0 ≤ 1 ∧ 1 < ((109 : Nat) : Int); omega) ?_
    exact exq_r rfl trivial rfl (⟨_, rI2 (by omega) (tt_3 rfl)⟩)
  obtain ⟨q, ⟨e, rfl⟩, h⟩ := q
  exact ⟨e, h⟩
theorem d_isWell {τ : SZ} : ∃ e, RZ 3 m8_isWell [.inl 21] τ (.inl (some (.inr (1)), tt τ (0) e)) := by
  have q : RZq 3 m8_isWell [.inl 21] τ (fun q => ∃ e, q = .inl (some (.inr (1)), tt τ (0) e)) := by
    refine Exq.call ?_ rfl rfl
    show Exq _ _ (cod m8_isWell 0, [some (.inl 21)], [], τ) _ _
    refine exq_k 3 (P := none) (g := (cod m8_isWell 3, [some (.inl 21)], [], (zr τ 21 (zu (τ 21) 7 0)))) rfl trivial ?_
    refine exq_k 1 (P := none) (g := (cod m8_isWell 4, [some (.inl 21)], [.inr 1], (zr τ 21 (zu (τ 21) 7 0)))) rfl trivial ?_
    exact exq_r rfl (by first | exact Or.inl rfl | exact Or.inr rfl | (show 1 = 0 ∨ 1 = 1; omega)) rfl (⟨_, rI2 rfl (tt_3 rfl)⟩)
  obtain ⟨q, ⟨e, rfl⟩, h⟩ := q
  exact ⟨e, h⟩
theorem d_errorPosition {τ : SZ} : ∃ e, RZ 3 m8_errorPosition [.inl 21] τ (.inl (some (.inr (τ 21 17)), tt τ (0) e)) := by
  have q : RZq 3 m8_errorPosition [.inl 21] τ (fun q => ∃ e, q = .inl (some (.inr (τ 21 17)), tt τ (0) e)) := by
    refine Exq.call ?_ rfl rfl
    show Exq _ _ (cod m8_errorPosition 0, [some (.inl 21)], [], τ) _ _
    refine exq_k 3 (P := none) (g := (cod m8_errorPosition 3, [some (.inl 21)], [], (zr τ 21 (zu (τ 21) 7 0)))) rfl trivial ?_
    refine exq_k 2 (P := none) (g := (cod m8_errorPosition 5, [some (.inl 21)], [.inr ((τ 21) 17)], (zr τ 21 (zu (τ 21) 7 0)))) rfl trivial ?_
    exact exq_r rfl trivial rfl (⟨_, rI2 rfl (tt_3 rfl)⟩)
  obtain ⟨q, ⟨e, rfl⟩, h⟩ := q
  exact ⟨e, h⟩
theorem d_would_0 {f r : Int} {τ : SZ} {c : Nat → Int} {B : Int} (hI : Iv B c) (hR : Rs c (τ 22)) (hf : Rng f) (hr : Rng r) : ∃ e, RZ 7 m8_would [.inl 21, .inr f, .inr r, .inr 0] τ (.inl (some (.inr (if (0 ≤ f ∧ f < cel c 107) ∧ (0 ≤ r ∧ r < 2) then (if (ocn c f r (-1) = 1 ∨ ocn c f r (-1) = 2 ∨ ocn c f r (-1) = 3) then ocn c f r (-1) else 0) else 0)), tt τ (if (0 ≤ f ∧ f < cel c 107) ∧ (0 ≤ r ∧ r < 2) then 0 else 1) e)) := by
  have hS := hI.1
  have hC := hI.2.1
  have hN := hS.n
  obtain ⟨hf1, hf2⟩ := hf
  obtain ⟨hr1, hr2⟩ := hr
  have hh := hnt_in c f r (-1)
  have hm : (ocn c f r (-1) = 1 ∨ ocn c f r (-1) = 2 ∨ ocn c f r (-1) = 3) → oco c f r (-1) = ocn c f r (-1) := fun h => by unfold ocn at h ⊢; split at h; rw [if_pos (by assumption)]; omega
  have q : RZq 7 m8_would [.inl 21, .inr f, .inr r, .inr 0] τ (fun q => ∃ e, q = .inl (some (.inr (if (0 ≤ f ∧ f < cel c 107) ∧ (0 ≤ r ∧ r < 2) then (if (ocn c f r (-1) = 1 ∨ ocn c f r (-1) = 2 ∨ ocn c f r (-1) = 3) then ocn c f r (-1) else 0) else 0)), tt τ (if (0 ≤ f ∧ f < cel c 107) ∧ (0 ≤ r ∧ r < 2) then 0 else 1) e)) := by
    refine Exq.call ?_ rfl rfl
    show Exq _ _ (cod m8_would 0, [some (.inl 21), some (.inr f), some (.inr r), some (.inr 0), none], [], τ) _ _
    refine exq_k 1 (P := none) (g := (cod m8_would 1, [some (.inl 21), some (.inr f), some (.inr r), some (.inr 0), none], [.inr 0], τ)) rfl trivial ?_
    refine exq_b (P := 0 = 0) (ct := (cod m8_would 4, [some (.inl 21), some (.inr f), some (.inr r), some (.inr 0), none], [], τ)) (cf := (cod m8_would 2, [some (.inl 21), some (.inr f), some (.inr r), some (.inr 0), none], [], τ)) rfl ⟨by decide, by decide⟩ (fun _ => ?_) (fun hh => absurd (by decide) hh)
    refine exq_k 5 (P := none) (g := (cod m8_would 9, [some (.inl 21), some (.inr f), some (.inr r), some (.inr 0), some (.inr (-1))], [.inr f, .inl 21, .inl 21], τ)) rfl trivial ?_
    refine exq_c (m_isFerry (τ := τ) (f := f) hI hR ⟨by omega, by omega⟩) (is := cod m8_would 10) (L := [some (.inl 21), some (.inr f), some (.inr r), some (.inr 0), some (.inr (-1))]) (st := [.inl 21]) rfl rfl rfl ?_
    show Exq _ _ (cod m8_would 10, [some (.inl 21), some (.inr f), some (.inr r), some (.inr 0), some (.inr (-1))], [.inr (b2 (0 ≤ f ∧ f < cel c 107)), .inl 21], τ) _ _
    refine exq_b (P := (b2 (0 ≤ f ∧ f < cel c 107)) = 0) (ct := (cod m8_would 16, [some (.inl 21), some (.inr f), some (.inr r), some (.inr 0), some (.inr (-1))], [.inl 21], τ)) (cf := (cod m8_would 11, [some (.inl 21), some (.inr f), some (.inr r), some (.inr 0), some (.inr (-1))], [.inl 21], τ)) rfl b2_rng (fun h2 => ?_) (fun h2 => ?_)
    · first
      | (exfalso; have h2 := b2_e0 h2; omega)
      | (
          have h2 := b2_e0 h2
          refine exq_k 2 (P := none) (g := (cod m8_would 18, [some (.inl 21), some (.inr f), some (.inr r), some (.inr 0), some (.inr (-1))], [], (zr τ 21 (zu (τ 21) 7 1)))) rfl trivial ?_
          refine exq_k 2 (P := none) (g := (cod m8_would 20, [some (.inl 21), some (.inr f), some (.inr r), some (.inr 0), some (.inr (-1))], [.inr 1], (zr τ 21 (zu (τ 21) 7 1)))) rfl trivial ?_
          refine exq_b (P := 0 < 1) (ct := (cod m8_would 27, [some (.inl 21), some (.inr f), some (.inr r), some (.inr 0), some (.inr (-1))], [], (zr τ 21 (zu (τ 21) 7 1)))) (cf := (cod m8_would 21, [some (.inl 21), some (.inr f), some (.inr r), some (.inr 0), some (.inr (-1))], [], (zr τ 21 (zu (τ 21) 7 1)))) rfl ⟨by decide, by decide⟩ (fun _ => ?_) (fun hh => absurd (by decide) hh)
          refine exq_k 2 (P := none) (g := (cod m8_would 34, [some (.inl 21), some (.inr f), some (.inr r), some (.inr 0), some (.inr (-1))], [.inr 0], (zr τ 21 (zu (τ 21) 7 1)))) rfl trivial ?_
          exact exq_r rfl trivial rfl (⟨_, rI2 (by (repeat (first | rw [if_pos (by omega)] | rw [if_neg (by omega)])); first | done | rfl | omega) (tt_3 (by (repeat (first | rw [if_pos (by omega)] | rw [if_neg (by omega)])); first | done | rfl | omega))⟩))
    · first
      | (exfalso; have h2 := b2_n0 h2; omega)
      | (
          have h2 := b2_n0 h2
          refine exq_k 1 (P := none) (g := (cod m8_would 12, [some (.inl 21), some (.inr f), some (.inr r), some (.inr 0), some (.inr (-1))], [.inr r, .inl 21], τ)) rfl trivial ?_
          refine exq_c (m_isRiver (τ := τ) (v := r) ⟨by omega, by omega⟩) (is := cod m8_would 13) (L := [some (.inl 21), some (.inr f), some (.inr r), some (.inr 0), some (.inr (-1))]) (st := [.inl 21]) rfl rfl rfl ?_
          show Exq _ _ (cod m8_would 13, [some (.inl 21), some (.inr f), some (.inr r), some (.inr 0), some (.inr (-1))], [.inr (b2 (0 ≤ r ∧ r < 2)), .inl 21], τ) _ _
          refine exq_b (P := (b2 (0 ≤ r ∧ r < 2)) = 0) (ct := (cod m8_would 16, [some (.inl 21), some (.inr f), some (.inr r), some (.inr 0), some (.inr (-1))], [.inl 21], τ)) (cf := (cod m8_would 14, [some (.inl 21), some (.inr f), some (.inr r), some (.inr 0), some (.inr (-1))], [.inl 21], τ)) rfl b2_rng (fun h4 => ?_) (fun h4 => ?_)
          · first
            | (exfalso; have h4 := b2_e0 h4; omega)
            | (
                have h4 := b2_e0 h4
                refine exq_k 2 (P := none) (g := (cod m8_would 18, [some (.inl 21), some (.inr f), some (.inr r), some (.inr 0), some (.inr (-1))], [], (zr τ 21 (zu (τ 21) 7 1)))) rfl trivial ?_
                refine exq_k 2 (P := none) (g := (cod m8_would 20, [some (.inl 21), some (.inr f), some (.inr r), some (.inr 0), some (.inr (-1))], [.inr 1], (zr τ 21 (zu (τ 21) 7 1)))) rfl trivial ?_
                refine exq_b (P := 0 < 1) (ct := (cod m8_would 27, [some (.inl 21), some (.inr f), some (.inr r), some (.inr 0), some (.inr (-1))], [], (zr τ 21 (zu (τ 21) 7 1)))) (cf := (cod m8_would 21, [some (.inl 21), some (.inr f), some (.inr r), some (.inr 0), some (.inr (-1))], [], (zr τ 21 (zu (τ 21) 7 1)))) rfl ⟨by decide, by decide⟩ (fun _ => ?_) (fun hh => absurd (by decide) hh)
                refine exq_k 2 (P := none) (g := (cod m8_would 34, [some (.inl 21), some (.inr f), some (.inr r), some (.inr 0), some (.inr (-1))], [.inr 0], (zr τ 21 (zu (τ 21) 7 1)))) rfl trivial ?_
                exact exq_r rfl trivial rfl (⟨_, rI2 (by (repeat (first | rw [if_pos (by omega)] | rw [if_neg (by omega)])); first | done | rfl | omega) (tt_3 (by (repeat (first | rw [if_pos (by omega)] | rw [if_neg (by omega)])); first | done | rfl | omega))⟩))
          · first
            | (exfalso; have h4 := b2_n0 h4; omega)
            | (
                have h4 := b2_n0 h4
                refine exq_k 3 (P := none) (g := (cod m8_would 18, [some (.inl 21), some (.inr f), some (.inr r), some (.inr 0), some (.inr (-1))], [], (zr τ 21 (zu (τ 21) 7 0)))) rfl trivial ?_
                refine exq_k 2 (P := none) (g := (cod m8_would 20, [some (.inl 21), some (.inr f), some (.inr r), some (.inr 0), some (.inr (-1))], [.inr 0], (zr τ 21 (zu (τ 21) 7 0)))) rfl trivial ?_
                refine exq_b (P := 0 < 0) (ct := (cod m8_would 27, [some (.inl 21), some (.inr f), some (.inr r), some (.inr 0), some (.inr (-1))], [], (zr τ 21 (zu (τ 21) 7 0)))) (cf := (cod m8_would 21, [some (.inl 21), some (.inr f), some (.inr r), some (.inr 0), some (.inr (-1))], [], (zr τ 21 (zu (τ 21) 7 0)))) rfl ⟨by decide, by decide⟩ (fun hh => absurd hh (by decide)) (fun _ => ?_)
                refine exq_k 4 (P := none) (g := (cod m8_would 25, [some (.inl 21), some (.inr f), some (.inr r), some (.inr 0), some (.inr (-1))], [.inr (-1), .inr r, .inr f, .inl 21], (zr τ 21 (zu (τ 21) 7 0)))) rfl trivial ?_
                obtain ⟨e29, he29, hc29⟩ := m_hindersInTurn (τ := (zr τ 21 (zu (τ 21) 7 0))) (f := f) (r := r) (s := (-1)) hI hR (by omega) (by omega) (by omega)
                refine exq_c hc29 (is := cod m8_would 26) (L := [some (.inl 21), some (.inr f), some (.inr r), some (.inr 0), some (.inr (-1))]) (st := []) rfl rfl rfl ?_
                show Exq _ _ (cod m8_would 26, [some (.inl 21), some (.inr f), some (.inr r), some (.inr 0), some (.inr (-1))], [.inr (hnt c f r (-1))], (zr (zr τ 21 (zu (τ 21) 7 0)) 21 (zu (zu (τ 21) 7 0) 10 e29))) _ _
                rw [zr_zr]
                refine exq_b (P := (hnt c f r (-1)) ≤ 0) (ct := (cod m8_would 29, [some (.inl 21), some (.inr f), some (.inr r), some (.inr 0), some (.inr (-1))], [], (zr τ 21 (zu (zu (τ 21) 7 0) 10 e29)))) (cf := (cod m8_would 27, [some (.inl 21), some (.inr f), some (.inr r), some (.inr 0), some (.inr (-1))], [], (zr τ 21 (zu (zu (τ 21) 7 0) 10 e29)))) rfl ⟨by omega, by omega⟩ (fun h7 => ?_) (fun h7 => ?_)
                · first
                  | (exfalso; omega)
                  | (
                      refine exq_k 4 (P := none) (g := (cod m8_would 33, [some (.inl 21), some (.inr f), some (.inr r), some (.inr 0), some (.inr (-1))], [.inr (-1), .inr r, .inr f, .inl 21], (zr τ 21 (zu (zu (τ 21) 7 0) 10 e29)))) rfl trivial ?_
                      refine exq_c (m_kind (τ := (zr τ 21 (zu (zu (τ 21) 7 0) 10 e29))) (f := f) (r := r) (s := (-1)) hI hR (by omega) (by omega) (show oco c f r (-1) = 1 ∨ oco c f r (-1) = 2 ∨ oco c f r (-1) = 3 by omega)) (is := cod m8_would 34) (L := [some (.inl 21), some (.inr f), some (.inr r), some (.inr 0), some (.inr (-1))]) (st := []) rfl rfl rfl ?_
                      show Exq _ _ (cod m8_would 34, [some (.inl 21), some (.inr f), some (.inr r), some (.inr 0), some (.inr (-1))], [.inr (oco c f r (-1))], (zr τ 21 (zu (zu (τ 21) 7 0) 10 e29))) _ _
                      exact exq_r rfl trivial rfl (⟨_, rI2 (by (repeat (first | rw [if_pos (by omega)] | rw [if_neg (by omega)])); first | done | rfl | omega) (tt_1 (by (repeat (first | rw [if_pos (by omega)] | rw [if_neg (by omega)])); first | done | rfl | omega)).symm.symm⟩))
                · first
                  | (exfalso; omega)
                  | (
                      refine exq_k 2 (P := none) (g := (cod m8_would 34, [some (.inl 21), some (.inr f), some (.inr r), some (.inr 0), some (.inr (-1))], [.inr 0], (zr τ 21 (zu (zu (τ 21) 7 0) 10 e29)))) rfl trivial ?_
                      exact exq_r rfl trivial rfl (⟨_, rI2 (by (repeat (first | rw [if_pos (by omega)] | rw [if_neg (by omega)])); first | done | rfl | omega) (tt_1 (by (repeat (first | rw [if_pos (by omega)] | rw [if_neg (by omega)])); first | done | rfl | omega)).symm.symm⟩))))
  obtain ⟨q, ⟨e, rfl⟩, h⟩ := q
  exact ⟨e, h⟩
theorem d_why_0_0 {f r : Int} {τ : SZ} {c : Nat → Int} {B : Int} (hI : Iv B c) (hR : Rs c (τ 22)) (hf : Rng f) (hr : Rng r) : ∃ e, RZ 7 m8_why [.inl 21, .inr f, .inr r, .inr 0, .inr 0] τ (.inl (some (.inr (if (0 ≤ f ∧ f < cel c 107) ∧ (0 ≤ r ∧ r < 2) then (if (ocn c f r (-1) = 1 ∨ ocn c f r (-1) = 2 ∨ ocn c f r (-1) = 3) then 0 else ocn c f r (-1)) else 0)), tt τ (if (0 ≤ f ∧ f < cel c 107) ∧ (0 ≤ r ∧ r < 2) then (if (ocn c f r (-1) = 1 ∨ ocn c f r (-1) = 2 ∨ ocn c f r (-1) = 3) then 2 else 0) else 1) e)) := by
  have hS := hI.1
  have hC := hI.2.1
  have hN := hS.n
  obtain ⟨hf1, hf2⟩ := hf
  obtain ⟨hr1, hr2⟩ := hr
  have hh := hnt_in c f r (-1)
  have hm : (ocn c f r (-1) = 1 ∨ ocn c f r (-1) = 2 ∨ ocn c f r (-1) = 3) → oco c f r (-1) = ocn c f r (-1) := fun h => by unfold ocn at h ⊢; split at h; rw [if_pos (by assumption)]; omega
  have q : RZq 7 m8_why [.inl 21, .inr f, .inr r, .inr 0, .inr 0] τ (fun q => ∃ e, q = .inl (some (.inr (if (0 ≤ f ∧ f < cel c 107) ∧ (0 ≤ r ∧ r < 2) then (if (ocn c f r (-1) = 1 ∨ ocn c f r (-1) = 2 ∨ ocn c f r (-1) = 3) then 0 else ocn c f r (-1)) else 0)), tt τ (if (0 ≤ f ∧ f < cel c 107) ∧ (0 ≤ r ∧ r < 2) then (if (ocn c f r (-1) = 1 ∨ ocn c f r (-1) = 2 ∨ ocn c f r (-1) = 3) then 2 else 0) else 1) e)) := by
    refine Exq.call ?_ rfl rfl
    show Exq _ _ (cod m8_why 0, [some (.inl 21), some (.inr f), some (.inr r), some (.inr 0), some (.inr 0), none], [], τ) _ _
    refine exq_k 2 (P := none) (g := (cod m8_why 2, [some (.inl 21), some (.inr f), some (.inr r), some (.inr 0), some (.inr 0), none], [.inr f, .inl 21], τ)) rfl trivial ?_
    refine exq_c (m_isFerry (τ := τ) (f := f) hI hR ⟨by omega, by omega⟩) (is := cod m8_why 3) (L := [some (.inl 21), some (.inr f), some (.inr r), some (.inr 0), some (.inr 0), none]) (st := []) rfl rfl rfl ?_
    show Exq _ _ (cod m8_why 3, [some (.inl 21), some (.inr f), some (.inr r), some (.inr 0), some (.inr 0), none], [.inr (b2 (0 ≤ f ∧ f < cel c 107))], τ) _ _
    refine exq_b (P := (b2 (0 ≤ f ∧ f < cel c 107)) = 0) (ct := (cod m8_why 7, [some (.inl 21), some (.inr f), some (.inr r), some (.inr 0), some (.inr 0), none], [], τ)) (cf := (cod m8_why 4, [some (.inl 21), some (.inr f), some (.inr r), some (.inr 0), some (.inr 0), none], [], τ)) rfl b2_rng (fun h1 => ?_) (fun h1 => ?_)
    · first
      | (exfalso; have h1 := b2_e0 h1; omega)
      | (
          have h1 := b2_e0 h1
          refine exq_k 2 (P := none) (g := (cod m8_why 9, [some (.inl 21), some (.inr f), some (.inr r), some (.inr 0), some (.inr 0), none], [.inr 1, .inl 21], τ)) rfl trivial ?_
          refine exq_c (m_fails (τ := τ) (k := 1)) (is := cod m8_why 10) (L := [some (.inl 21), some (.inr f), some (.inr r), some (.inr 0), some (.inr 0), none]) (st := []) rfl rfl rfl ?_
          show Exq _ _ (cod m8_why 10, [some (.inl 21), some (.inr f), some (.inr r), some (.inr 0), some (.inr 0), none], [.inr 0], (zr τ 21 (zu (τ 21) 7 1))) _ _
          exact exq_r rfl trivial rfl (⟨_, rI2 (by (repeat (first | rw [if_pos (by omega)] | rw [if_neg (by omega)])); first | done | rfl | omega) (tt_3 (by (repeat (first | rw [if_pos (by omega)] | rw [if_neg (by omega)])); first | done | rfl | omega))⟩))
    · first
      | (exfalso; have h1 := b2_n0 h1; omega)
      | (
          have h1 := b2_n0 h1
          refine exq_k 1 (P := none) (g := (cod m8_why 5, [some (.inl 21), some (.inr f), some (.inr r), some (.inr 0), some (.inr 0), none], [.inr r], τ)) rfl trivial ?_
          refine exq_c (m_isRiver (τ := τ) (v := r) ⟨by omega, by omega⟩) (is := cod m8_why 6) (L := [some (.inl 21), some (.inr f), some (.inr r), some (.inr 0), some (.inr 0), none]) (st := []) rfl rfl rfl ?_
          show Exq _ _ (cod m8_why 6, [some (.inl 21), some (.inr f), some (.inr r), some (.inr 0), some (.inr 0), none], [.inr (b2 (0 ≤ r ∧ r < 2))], τ) _ _
          refine exq_b (P := ¬ (b2 (0 ≤ r ∧ r < 2)) = 0) (ct := (cod m8_why 11, [some (.inl 21), some (.inr f), some (.inr r), some (.inr 0), some (.inr 0), none], [], τ)) (cf := (cod m8_why 7, [some (.inl 21), some (.inr f), some (.inr r), some (.inr 0), some (.inr 0), none], [], τ)) rfl b2_rng (fun h2 => ?_) (fun h2 => ?_)
          · first
            | (exfalso; have h2 := b2_n0 h2; omega)
            | (
                have h2 := b2_n0 h2
                refine exq_k 4 (P := none) (g := (cod m8_why 15, [some (.inl 21), some (.inr f), some (.inr r), some (.inr 0), some (.inr 0), none], [.inr 0, .inr r, .inr f, .inl 21], τ)) rfl trivial ?_
                refine exq_b (P := 0 = 0) (ct := (cod m8_why 18, [some (.inl 21), some (.inr f), some (.inr r), some (.inr 0), some (.inr 0), none], [.inr r, .inr f, .inl 21], τ)) (cf := (cod m8_why 16, [some (.inl 21), some (.inr f), some (.inr r), some (.inr 0), some (.inr 0), none], [.inr r, .inr f, .inl 21], τ)) rfl ⟨by decide, by decide⟩ (fun _ => ?_) (fun hh => absurd (by decide) hh)
                refine exq_k 1 (P := none) (g := (cod m8_why 19, [some (.inl 21), some (.inr f), some (.inr r), some (.inr 0), some (.inr 0), none], [.inr (-1), .inr r, .inr f, .inl 21], τ)) rfl trivial ?_
                obtain ⟨e30, he30, hc30⟩ := m_hindersInTurn (τ := τ) (f := f) (r := r) (s := (-1)) hI hR (by omega) (by omega) (by omega)
                refine exq_c hc30 (is := cod m8_why 20) (L := [some (.inl 21), some (.inr f), some (.inr r), some (.inr 0), some (.inr 0), none]) (st := []) rfl rfl rfl ?_
                show Exq _ _ (cod m8_why 20, [some (.inl 21), some (.inr f), some (.inr r), some (.inr 0), some (.inr 0), none], [.inr (hnt c f r (-1))], (zr τ 21 (zu (τ 21) 10 e30))) _ _
                refine exq_k 3 (P := none) (g := (cod m8_why 23, [some (.inl 21), some (.inr f), some (.inr r), some (.inr 0), some (.inr 0), some (.inr (hnt c f r (-1)))], [.inr (hnt c f r (-1)), .inl 21], (zr τ 21 (zu (τ 21) 10 e30)))) rfl trivial ?_
                refine exq_b (P := ¬ (hnt c f r (-1)) = 0) (ct := (cod m8_why 26, [some (.inl 21), some (.inr f), some (.inr r), some (.inr 0), some (.inr 0), some (.inr (hnt c f r (-1)))], [.inl 21], (zr τ 21 (zu (τ 21) 10 e30)))) (cf := (cod m8_why 24, [some (.inl 21), some (.inr f), some (.inr r), some (.inr 0), some (.inr 0), some (.inr (hnt c f r (-1)))], [.inl 21], (zr τ 21 (zu (τ 21) 10 e30)))) rfl ⟨by omega, by omega⟩ (fun h4 => ?_) (fun h4 => ?_)
                · first
                  | (exfalso; omega)
                  | (
                      refine exq_k 2 (P := none) (g := (cod m8_why 28, [some (.inl 21), some (.inr f), some (.inr r), some (.inr 0), some (.inr 0), some (.inr (hnt c f r (-1)))], [], (zr (zr τ 21 (zu (τ 21) 10 e30)) 21 (zu (zu (τ 21) 10 e30) 7 0)))) rfl trivial ?_
                      rw [zr_zr]
                      refine exq_k 2 (P := none) (g := (cod m8_why 30, [some (.inl 21), some (.inr f), some (.inr r), some (.inr 0), some (.inr 0), some (.inr (hnt c f r (-1)))], [.inr 0], (zr τ 21 (zu (zu (τ 21) 10 e30) 7 0)))) rfl trivial ?_
                      refine exq_b (P := 0 ≤ 0) (ct := (cod m8_why 33, [some (.inl 21), some (.inr f), some (.inr r), some (.inr 0), some (.inr 0), some (.inr (hnt c f r (-1)))], [], (zr τ 21 (zu (zu (τ 21) 10 e30) 7 0)))) (cf := (cod m8_why 31, [some (.inl 21), some (.inr f), some (.inr r), some (.inr 0), some (.inr 0), some (.inr (hnt c f r (-1)))], [], (zr τ 21 (zu (zu (τ 21) 10 e30) 7 0)))) rfl ⟨by decide, by decide⟩ (fun _ => ?_) (fun hh => absurd (by decide) hh)
                      refine exq_k 1 (P := none) (g := (cod m8_why 34, [some (.inl 21), some (.inr f), some (.inr r), some (.inr 0), some (.inr 0), some (.inr (hnt c f r (-1)))], [.inr 0], (zr τ 21 (zu (zu (τ 21) 10 e30) 7 0)))) rfl trivial ?_
                      refine exq_b (P := 0 = 0) (ct := (cod m8_why 38, [some (.inl 21), some (.inr f), some (.inr r), some (.inr 0), some (.inr 0), some (.inr (hnt c f r (-1)))], [], (zr τ 21 (zu (zu (τ 21) 10 e30) 7 0)))) (cf := (cod m8_why 35, [some (.inl 21), some (.inr f), some (.inr r), some (.inr 0), some (.inr 0), some (.inr (hnt c f r (-1)))], [], (zr τ 21 (zu (zu (τ 21) 10 e30) 7 0)))) rfl ⟨by decide, by decide⟩ (fun _ => ?_) (fun hh => absurd (by decide) hh)
                      refine exq_k 1 (P := none) (g := (cod m8_why 39, [some (.inl 21), some (.inr f), some (.inr r), some (.inr 0), some (.inr 0), some (.inr (hnt c f r (-1)))], [.inr (hnt c f r (-1))], (zr τ 21 (zu (zu (τ 21) 10 e30) 7 0)))) rfl trivial ?_
                      exact exq_r rfl trivial rfl (⟨_, rI2 (by (repeat (first | rw [if_pos (by omega)] | rw [if_neg (by omega)])); first | done | rfl | omega) (tt_2 (by (repeat (first | rw [if_pos (by omega)] | rw [if_neg (by omega)])); first | done | rfl | omega))⟩))
                · first
                  | (exfalso; omega)
                  | (
                      refine exq_k 3 (P := none) (g := (cod m8_why 28, [some (.inl 21), some (.inr f), some (.inr r), some (.inr 0), some (.inr 0), some (.inr (hnt c f r (-1)))], [], (zr (zr τ 21 (zu (τ 21) 10 e30)) 21 (zu (zu (τ 21) 10 e30) 7 2)))) rfl trivial ?_
                      rw [zr_zr]
                      refine exq_k 2 (P := none) (g := (cod m8_why 30, [some (.inl 21), some (.inr f), some (.inr r), some (.inr 0), some (.inr 0), some (.inr (hnt c f r (-1)))], [.inr 2], (zr τ 21 (zu (zu (τ 21) 10 e30) 7 2)))) rfl trivial ?_
                      refine exq_b (P := 2 ≤ 0) (ct := (cod m8_why 33, [some (.inl 21), some (.inr f), some (.inr r), some (.inr 0), some (.inr 0), some (.inr (hnt c f r (-1)))], [], (zr τ 21 (zu (zu (τ 21) 10 e30) 7 2)))) (cf := (cod m8_why 31, [some (.inl 21), some (.inr f), some (.inr r), some (.inr 0), some (.inr 0), some (.inr (hnt c f r (-1)))], [], (zr τ 21 (zu (zu (τ 21) 10 e30) 7 2)))) rfl ⟨by decide, by decide⟩ (fun hh => absurd hh (by decide)) (fun _ => ?_)
                      refine exq_k 2 (P := none) (g := (cod m8_why 39, [some (.inl 21), some (.inr f), some (.inr r), some (.inr 0), some (.inr 0), some (.inr (hnt c f r (-1)))], [.inr 0], (zr τ 21 (zu (zu (τ 21) 10 e30) 7 2)))) rfl trivial ?_
                      exact exq_r rfl trivial rfl (⟨_, rI2 (by (repeat (first | rw [if_pos (by omega)] | rw [if_neg (by omega)])); first | done | rfl | omega) (tt_2 (by (repeat (first | rw [if_pos (by omega)] | rw [if_neg (by omega)])); first | done | rfl | omega))⟩)))
          · first
            | (exfalso; have h2 := b2_nn0 h2; omega)
            | (
                have h2 := b2_nn0 h2
                refine exq_k 2 (P := none) (g := (cod m8_why 9, [some (.inl 21), some (.inr f), some (.inr r), some (.inr 0), some (.inr 0), none], [.inr 1, .inl 21], τ)) rfl trivial ?_
                refine exq_c (m_fails (τ := τ) (k := 1)) (is := cod m8_why 10) (L := [some (.inl 21), some (.inr f), some (.inr r), some (.inr 0), some (.inr 0), none]) (st := []) rfl rfl rfl ?_
                show Exq _ _ (cod m8_why 10, [some (.inl 21), some (.inr f), some (.inr r), some (.inr 0), some (.inr 0), none], [.inr 0], (zr τ 21 (zu (τ 21) 7 1))) _ _
                exact exq_r rfl trivial rfl (⟨_, rI2 (by (repeat (first | rw [if_pos (by omega)] | rw [if_neg (by omega)])); first | done | rfl | omega) (tt_3 (by (repeat (first | rw [if_pos (by omega)] | rw [if_neg (by omega)])); first | done | rfl | omega))⟩)))
  obtain ⟨q, ⟨e, rfl⟩, h⟩ := q
  exact ⟨e, h⟩
theorem d_why_0_1 {f r : Int} {τ : SZ} {c : Nat → Int} {B : Int} (hI : Iv B c) (hR : Rs c (τ 22)) (hf : Rng f) (hr : Rng r) : ∃ e, RZ 7 m8_why [.inl 21, .inr f, .inr r, .inr 0, .inr 1] τ (.inl (some (.inr (if (0 ≤ f ∧ f < cel c 107) ∧ (0 ≤ r ∧ r < 2) then (if (ocn c f r (-1) = 1 ∨ ocn c f r (-1) = 2 ∨ ocn c f r (-1) = 3) then 0 else dtl c (ocn c f r (-1)) f r (-1)) else 0)), tt τ (if (0 ≤ f ∧ f < cel c 107) ∧ (0 ≤ r ∧ r < 2) then (if (ocn c f r (-1) = 1 ∨ ocn c f r (-1) = 2 ∨ ocn c f r (-1) = 3) then 2 else 0) else 1) e)) := by
  have hS := hI.1
  have hC := hI.2.1
  have hN := hS.n
  obtain ⟨hf1, hf2⟩ := hf
  obtain ⟨hr1, hr2⟩ := hr
  have hh := hnt_in c f r (-1)
  have hm : (ocn c f r (-1) = 1 ∨ ocn c f r (-1) = 2 ∨ ocn c f r (-1) = 3) → oco c f r (-1) = ocn c f r (-1) := fun h => by unfold ocn at h ⊢; split at h; rw [if_pos (by assumption)]; omega
  have q : RZq 7 m8_why [.inl 21, .inr f, .inr r, .inr 0, .inr 1] τ (fun q => ∃ e, q = .inl (some (.inr (if (0 ≤ f ∧ f < cel c 107) ∧ (0 ≤ r ∧ r < 2) then (if (ocn c f r (-1) = 1 ∨ ocn c f r (-1) = 2 ∨ ocn c f r (-1) = 3) then 0 else dtl c (ocn c f r (-1)) f r (-1)) else 0)), tt τ (if (0 ≤ f ∧ f < cel c 107) ∧ (0 ≤ r ∧ r < 2) then (if (ocn c f r (-1) = 1 ∨ ocn c f r (-1) = 2 ∨ ocn c f r (-1) = 3) then 2 else 0) else 1) e)) := by
    refine Exq.call ?_ rfl rfl
    show Exq _ _ (cod m8_why 0, [some (.inl 21), some (.inr f), some (.inr r), some (.inr 0), some (.inr 1), none], [], τ) _ _
    refine exq_k 2 (P := none) (g := (cod m8_why 2, [some (.inl 21), some (.inr f), some (.inr r), some (.inr 0), some (.inr 1), none], [.inr f, .inl 21], τ)) rfl trivial ?_
    refine exq_c (m_isFerry (τ := τ) (f := f) hI hR ⟨by omega, by omega⟩) (is := cod m8_why 3) (L := [some (.inl 21), some (.inr f), some (.inr r), some (.inr 0), some (.inr 1), none]) (st := []) rfl rfl rfl ?_
    show Exq _ _ (cod m8_why 3, [some (.inl 21), some (.inr f), some (.inr r), some (.inr 0), some (.inr 1), none], [.inr (b2 (0 ≤ f ∧ f < cel c 107))], τ) _ _
    refine exq_b (P := (b2 (0 ≤ f ∧ f < cel c 107)) = 0) (ct := (cod m8_why 7, [some (.inl 21), some (.inr f), some (.inr r), some (.inr 0), some (.inr 1), none], [], τ)) (cf := (cod m8_why 4, [some (.inl 21), some (.inr f), some (.inr r), some (.inr 0), some (.inr 1), none], [], τ)) rfl b2_rng (fun h1 => ?_) (fun h1 => ?_)
    · first
      | (exfalso; have h1 := b2_e0 h1; omega)
      | (
          have h1 := b2_e0 h1
          refine exq_k 2 (P := none) (g := (cod m8_why 9, [some (.inl 21), some (.inr f), some (.inr r), some (.inr 0), some (.inr 1), none], [.inr 1, .inl 21], τ)) rfl trivial ?_
          refine exq_c (m_fails (τ := τ) (k := 1)) (is := cod m8_why 10) (L := [some (.inl 21), some (.inr f), some (.inr r), some (.inr 0), some (.inr 1), none]) (st := []) rfl rfl rfl ?_
          show Exq _ _ (cod m8_why 10, [some (.inl 21), some (.inr f), some (.inr r), some (.inr 0), some (.inr 1), none], [.inr 0], (zr τ 21 (zu (τ 21) 7 1))) _ _
          exact exq_r rfl trivial rfl (⟨_, rI2 (by (repeat (first | rw [if_pos (by omega)] | rw [if_neg (by omega)])); first | done | rfl | omega | exact (id (by omega)).symm) (tt_3 (by (repeat (first | rw [if_pos (by omega)] | rw [if_neg (by omega)])); first | done | rfl | omega))⟩))
    · first
      | (exfalso; have h1 := b2_n0 h1; omega)
      | (
          have h1 := b2_n0 h1
          refine exq_k 1 (P := none) (g := (cod m8_why 5, [some (.inl 21), some (.inr f), some (.inr r), some (.inr 0), some (.inr 1), none], [.inr r], τ)) rfl trivial ?_
          refine exq_c (m_isRiver (τ := τ) (v := r) ⟨by omega, by omega⟩) (is := cod m8_why 6) (L := [some (.inl 21), some (.inr f), some (.inr r), some (.inr 0), some (.inr 1), none]) (st := []) rfl rfl rfl ?_
          show Exq _ _ (cod m8_why 6, [some (.inl 21), some (.inr f), some (.inr r), some (.inr 0), some (.inr 1), none], [.inr (b2 (0 ≤ r ∧ r < 2))], τ) _ _
          refine exq_b (P := ¬ (b2 (0 ≤ r ∧ r < 2)) = 0) (ct := (cod m8_why 11, [some (.inl 21), some (.inr f), some (.inr r), some (.inr 0), some (.inr 1), none], [], τ)) (cf := (cod m8_why 7, [some (.inl 21), some (.inr f), some (.inr r), some (.inr 0), some (.inr 1), none], [], τ)) rfl b2_rng (fun h2 => ?_) (fun h2 => ?_)
          · first
            | (exfalso; have h2 := b2_n0 h2; omega)
            | (
                have h2 := b2_n0 h2
                refine exq_k 4 (P := none) (g := (cod m8_why 15, [some (.inl 21), some (.inr f), some (.inr r), some (.inr 0), some (.inr 1), none], [.inr 0, .inr r, .inr f, .inl 21], τ)) rfl trivial ?_
                refine exq_b (P := 0 = 0) (ct := (cod m8_why 18, [some (.inl 21), some (.inr f), some (.inr r), some (.inr 0), some (.inr 1), none], [.inr r, .inr f, .inl 21], τ)) (cf := (cod m8_why 16, [some (.inl 21), some (.inr f), some (.inr r), some (.inr 0), some (.inr 1), none], [.inr r, .inr f, .inl 21], τ)) rfl ⟨by decide, by decide⟩ (fun _ => ?_) (fun hh => absurd (by decide) hh)
                refine exq_k 1 (P := none) (g := (cod m8_why 19, [some (.inl 21), some (.inr f), some (.inr r), some (.inr 0), some (.inr 1), none], [.inr (-1), .inr r, .inr f, .inl 21], τ)) rfl trivial ?_
                obtain ⟨e31, he31, hc31⟩ := m_hindersInTurn (τ := τ) (f := f) (r := r) (s := (-1)) hI hR (by omega) (by omega) (by omega)
                refine exq_c hc31 (is := cod m8_why 20) (L := [some (.inl 21), some (.inr f), some (.inr r), some (.inr 0), some (.inr 1), none]) (st := []) rfl rfl rfl ?_
                show Exq _ _ (cod m8_why 20, [some (.inl 21), some (.inr f), some (.inr r), some (.inr 0), some (.inr 1), none], [.inr (hnt c f r (-1))], (zr τ 21 (zu (τ 21) 10 e31))) _ _
                refine exq_k 3 (P := none) (g := (cod m8_why 23, [some (.inl 21), some (.inr f), some (.inr r), some (.inr 0), some (.inr 1), some (.inr (hnt c f r (-1)))], [.inr (hnt c f r (-1)), .inl 21], (zr τ 21 (zu (τ 21) 10 e31)))) rfl trivial ?_
                refine exq_b (P := ¬ (hnt c f r (-1)) = 0) (ct := (cod m8_why 26, [some (.inl 21), some (.inr f), some (.inr r), some (.inr 0), some (.inr 1), some (.inr (hnt c f r (-1)))], [.inl 21], (zr τ 21 (zu (τ 21) 10 e31)))) (cf := (cod m8_why 24, [some (.inl 21), some (.inr f), some (.inr r), some (.inr 0), some (.inr 1), some (.inr (hnt c f r (-1)))], [.inl 21], (zr τ 21 (zu (τ 21) 10 e31)))) rfl ⟨by omega, by omega⟩ (fun h4 => ?_) (fun h4 => ?_)
                · first
                  | (exfalso; omega)
                  | (
                      refine exq_k 2 (P := none) (g := (cod m8_why 28, [some (.inl 21), some (.inr f), some (.inr r), some (.inr 0), some (.inr 1), some (.inr (hnt c f r (-1)))], [], (zr (zr τ 21 (zu (τ 21) 10 e31)) 21 (zu (zu (τ 21) 10 e31) 7 0)))) rfl trivial ?_
                      rw [zr_zr]
                      refine exq_k 2 (P := none) (g := (cod m8_why 30, [some (.inl 21), some (.inr f), some (.inr r), some (.inr 0), some (.inr 1), some (.inr (hnt c f r (-1)))], [.inr 0], (zr τ 21 (zu (zu (τ 21) 10 e31) 7 0)))) rfl trivial ?_
                      refine exq_b (P := 0 ≤ 0) (ct := (cod m8_why 33, [some (.inl 21), some (.inr f), some (.inr r), some (.inr 0), some (.inr 1), some (.inr (hnt c f r (-1)))], [], (zr τ 21 (zu (zu (τ 21) 10 e31) 7 0)))) (cf := (cod m8_why 31, [some (.inl 21), some (.inr f), some (.inr r), some (.inr 0), some (.inr 1), some (.inr (hnt c f r (-1)))], [], (zr τ 21 (zu (zu (τ 21) 10 e31) 7 0)))) rfl ⟨by decide, by decide⟩ (fun _ => ?_) (fun hh => absurd (by decide) hh)
                      refine exq_k 1 (P := none) (g := (cod m8_why 34, [some (.inl 21), some (.inr f), some (.inr r), some (.inr 0), some (.inr 1), some (.inr (hnt c f r (-1)))], [.inr 1], (zr τ 21 (zu (zu (τ 21) 10 e31) 7 0)))) rfl trivial ?_
                      refine exq_b (P := 1 = 0) (ct := (cod m8_why 38, [some (.inl 21), some (.inr f), some (.inr r), some (.inr 0), some (.inr 1), some (.inr (hnt c f r (-1)))], [], (zr τ 21 (zu (zu (τ 21) 10 e31) 7 0)))) (cf := (cod m8_why 35, [some (.inl 21), some (.inr f), some (.inr r), some (.inr 0), some (.inr 1), some (.inr (hnt c f r (-1)))], [], (zr τ 21 (zu (zu (τ 21) 10 e31) 7 0)))) rfl ⟨by decide, by decide⟩ (fun hh => absurd hh (by decide)) (fun _ => ?_)
                      refine exq_k 3 (P := none) (g := (cod m8_why 39, [some (.inl 21), some (.inr f), some (.inr r), some (.inr 0), some (.inr 1), some (.inr (hnt c f r (-1)))], [.inr e31], (zr τ 21 (zu (zu (τ 21) 10 e31) 7 0)))) rfl trivial ?_
                      exact exq_r rfl trivial rfl (⟨_, rI2 (by (repeat (first | rw [if_pos (by omega)] | rw [if_neg (by omega)])); first | done | rfl | omega | exact (he31 (by omega)).symm) (tt_2 (by (repeat (first | rw [if_pos (by omega)] | rw [if_neg (by omega)])); first | done | rfl | omega))⟩))
                · first
                  | (exfalso; omega)
                  | (
                      refine exq_k 3 (P := none) (g := (cod m8_why 28, [some (.inl 21), some (.inr f), some (.inr r), some (.inr 0), some (.inr 1), some (.inr (hnt c f r (-1)))], [], (zr (zr τ 21 (zu (τ 21) 10 e31)) 21 (zu (zu (τ 21) 10 e31) 7 2)))) rfl trivial ?_
                      rw [zr_zr]
                      refine exq_k 2 (P := none) (g := (cod m8_why 30, [some (.inl 21), some (.inr f), some (.inr r), some (.inr 0), some (.inr 1), some (.inr (hnt c f r (-1)))], [.inr 2], (zr τ 21 (zu (zu (τ 21) 10 e31) 7 2)))) rfl trivial ?_
                      refine exq_b (P := 2 ≤ 0) (ct := (cod m8_why 33, [some (.inl 21), some (.inr f), some (.inr r), some (.inr 0), some (.inr 1), some (.inr (hnt c f r (-1)))], [], (zr τ 21 (zu (zu (τ 21) 10 e31) 7 2)))) (cf := (cod m8_why 31, [some (.inl 21), some (.inr f), some (.inr r), some (.inr 0), some (.inr 1), some (.inr (hnt c f r (-1)))], [], (zr τ 21 (zu (zu (τ 21) 10 e31) 7 2)))) rfl ⟨by decide, by decide⟩ (fun hh => absurd hh (by decide)) (fun _ => ?_)
                      refine exq_k 2 (P := none) (g := (cod m8_why 39, [some (.inl 21), some (.inr f), some (.inr r), some (.inr 0), some (.inr 1), some (.inr (hnt c f r (-1)))], [.inr 0], (zr τ 21 (zu (zu (τ 21) 10 e31) 7 2)))) rfl trivial ?_
                      exact exq_r rfl trivial rfl (⟨_, rI2 (by (repeat (first | rw [if_pos (by omega)] | rw [if_neg (by omega)])); first | done | rfl | omega | exact (id (by omega)).symm) (tt_2 (by (repeat (first | rw [if_pos (by omega)] | rw [if_neg (by omega)])); first | done | rfl | omega))⟩)))
          · first
            | (exfalso; have h2 := b2_nn0 h2; omega)
            | (
                have h2 := b2_nn0 h2
                refine exq_k 2 (P := none) (g := (cod m8_why 9, [some (.inl 21), some (.inr f), some (.inr r), some (.inr 0), some (.inr 1), none], [.inr 1, .inl 21], τ)) rfl trivial ?_
                refine exq_c (m_fails (τ := τ) (k := 1)) (is := cod m8_why 10) (L := [some (.inl 21), some (.inr f), some (.inr r), some (.inr 0), some (.inr 1), none]) (st := []) rfl rfl rfl ?_
                show Exq _ _ (cod m8_why 10, [some (.inl 21), some (.inr f), some (.inr r), some (.inr 0), some (.inr 1), none], [.inr 0], (zr τ 21 (zu (τ 21) 7 1))) _ _
                exact exq_r rfl trivial rfl (⟨_, rI2 (by (repeat (first | rw [if_pos (by omega)] | rw [if_neg (by omega)])); first | done | rfl | omega | exact (id (by omega)).symm) (tt_3 (by (repeat (first | rw [if_pos (by omega)] | rw [if_neg (by omega)])); first | done | rfl | omega))⟩)))
  obtain ⟨q, ⟨e, rfl⟩, h⟩ := q
  exact ⟨e, h⟩
theorem gol_k {c : Nat → Int} {f r s : Int} (h : oco c f r s = 1 ∨ oco c f r s = 2 ∨ oco c f r s = 3) : gol c f r s = cel c (0 + f * 6 + (1 + r)) + (if oco c f r s = 1 then s else 2 * s) := by
  have hk := oco_k h
  have hw : whz c r (cel c (0 + f * 6 + (1 + r)) + s) = cel c (48 + r * 12 + (cel c (0 + f * 6 + (1 + r)) + s)) := by unfold whz; rw [if_pos hk.1]
  unfold gol
  by_cases q : oco c f r s = 1
  · rw [if_pos q, if_pos ⟨hk.1, by omega⟩]
  · rw [if_neg q, if_neg (fun w => by omega)]
    omega
theorem d_to_0 {f r : Int} {τ : SZ} {c : Nat → Int} {B : Int} (hI : Iv B c) (hR : Rs c (τ 22)) (hf : Rng f) (hr : Rng r) : ∃ e, RZ 7 m8_to [.inl 21, .inr f, .inr r, .inr 0] τ (.inl (some (.inr (if (0 ≤ f ∧ f < cel c 107) ∧ (0 ≤ r ∧ r < 2) then (if (ocn c f r (-1) = 1 ∨ ocn c f r (-1) = 2 ∨ ocn c f r (-1) = 3) then gol c f r (-1) else 0) else 0)), tt τ (if (0 ≤ f ∧ f < cel c 107) ∧ (0 ≤ r ∧ r < 2) then (if (ocn c f r (-1) = 1 ∨ ocn c f r (-1) = 2 ∨ ocn c f r (-1) = 3) then 0 else 2) else 1) e)) := by
  have hS := hI.1
  have hC := hI.2.1
  have hN := hS.n
  obtain ⟨hf1, hf2⟩ := hf
  obtain ⟨hr1, hr2⟩ := hr
  have hh := hnt_in c f r (-1)
  have hm : (ocn c f r (-1) = 1 ∨ ocn c f r (-1) = 2 ∨ ocn c f r (-1) = 3) → oco c f r (-1) = ocn c f r (-1) := fun h => by unfold ocn at h ⊢; split at h; rw [if_pos (by assumption)]; omega
  have hg : (ocn c f r (-1) = 1 ∨ ocn c f r (-1) = 2 ∨ ocn c f r (-1) = 3) → gol c f r (-1) = cel c (0 + f * 6 + (1 + r)) + (if oco c f r (-1) = 1 then (-1) else 2 * (-1)) := fun h => gol_k (by omega)
  have q : RZq 7 m8_to [.inl 21, .inr f, .inr r, .inr 0] τ (fun q => ∃ e, q = .inl (some (.inr (if (0 ≤ f ∧ f < cel c 107) ∧ (0 ≤ r ∧ r < 2) then (if (ocn c f r (-1) = 1 ∨ ocn c f r (-1) = 2 ∨ ocn c f r (-1) = 3) then gol c f r (-1) else 0) else 0)), tt τ (if (0 ≤ f ∧ f < cel c 107) ∧ (0 ≤ r ∧ r < 2) then (if (ocn c f r (-1) = 1 ∨ ocn c f r (-1) = 2 ∨ ocn c f r (-1) = 3) then 0 else 2) else 1) e)) := by
    refine Exq.call ?_ rfl rfl
    show Exq _ _ (cod m8_to 0, [some (.inl 21), some (.inr f), some (.inr r), some (.inr 0), none], [], τ) _ _
    refine exq_k 1 (P := none) (g := (cod m8_to 1, [some (.inl 21), some (.inr f), some (.inr r), some (.inr 0), none], [.inr 0], τ)) rfl trivial ?_
    refine exq_b (P := 0 = 0) (ct := (cod m8_to 4, [some (.inl 21), some (.inr f), some (.inr r), some (.inr 0), none], [], τ)) (cf := (cod m8_to 2, [some (.inl 21), some (.inr f), some (.inr r), some (.inr 0), none], [], τ)) rfl ⟨by decide, by decide⟩ (fun _ => ?_) (fun hh => absurd (by decide) hh)
    refine exq_k 4 (P := none) (g := (cod m8_to 8, [some (.inl 21), some (.inr f), some (.inr r), some (.inr 0), some (.inr (-1))], [.inr f, .inl 21], τ)) rfl trivial ?_
    refine exq_c (m_isFerry (τ := τ) (f := f) hI hR ⟨by omega, by omega⟩) (is := cod m8_to 9) (L := [some (.inl 21), some (.inr f), some (.inr r), some (.inr 0), some (.inr (-1))]) (st := []) rfl rfl rfl ?_
    show Exq _ _ (cod m8_to 9, [some (.inl 21), some (.inr f), some (.inr r), some (.inr 0), some (.inr (-1))], [.inr (b2 (0 ≤ f ∧ f < cel c 107))], τ) _ _
    refine exq_b (P := (b2 (0 ≤ f ∧ f < cel c 107)) = 0) (ct := (cod m8_to 13, [some (.inl 21), some (.inr f), some (.inr r), some (.inr 0), some (.inr (-1))], [], τ)) (cf := (cod m8_to 10, [some (.inl 21), some (.inr f), some (.inr r), some (.inr 0), some (.inr (-1))], [], τ)) rfl b2_rng (fun h2 => ?_) (fun h2 => ?_)
    · first
      | (exfalso; have h2 := b2_e0 h2; omega)
      | (
          have h2 := b2_e0 h2
          refine exq_k 2 (P := none) (g := (cod m8_to 15, [some (.inl 21), some (.inr f), some (.inr r), some (.inr 0), some (.inr (-1))], [.inr 1, .inl 21], τ)) rfl trivial ?_
          refine exq_c (m_fails (τ := τ) (k := 1)) (is := cod m8_to 16) (L := [some (.inl 21), some (.inr f), some (.inr r), some (.inr 0), some (.inr (-1))]) (st := []) rfl rfl rfl ?_
          show Exq _ _ (cod m8_to 16, [some (.inl 21), some (.inr f), some (.inr r), some (.inr 0), some (.inr (-1))], [.inr 0], (zr τ 21 (zu (τ 21) 7 1))) _ _
          exact exq_r rfl trivial rfl (⟨_, rI2 (by (repeat (first | rw [if_pos (by omega)] | rw [if_neg (by omega)])); first | done | rfl | (rw [hg (by omega)]; (repeat (first | rw [if_pos (by omega)] | rw [if_neg (by omega)])); first | done | rfl | omega) | omega) (tt_3 (by (repeat (first | rw [if_pos (by omega)] | rw [if_neg (by omega)])); first | done | rfl | omega))⟩))
    · first
      | (exfalso; have h2 := b2_n0 h2; omega)
      | (
          have h2 := b2_n0 h2
          refine exq_k 1 (P := none) (g := (cod m8_to 11, [some (.inl 21), some (.inr f), some (.inr r), some (.inr 0), some (.inr (-1))], [.inr r], τ)) rfl trivial ?_
          refine exq_c (m_isRiver (τ := τ) (v := r) ⟨by omega, by omega⟩) (is := cod m8_to 12) (L := [some (.inl 21), some (.inr f), some (.inr r), some (.inr 0), some (.inr (-1))]) (st := []) rfl rfl rfl ?_
          show Exq _ _ (cod m8_to 12, [some (.inl 21), some (.inr f), some (.inr r), some (.inr 0), some (.inr (-1))], [.inr (b2 (0 ≤ r ∧ r < 2))], τ) _ _
          refine exq_b (P := ¬ (b2 (0 ≤ r ∧ r < 2)) = 0) (ct := (cod m8_to 17, [some (.inl 21), some (.inr f), some (.inr r), some (.inr 0), some (.inr (-1))], [], τ)) (cf := (cod m8_to 13, [some (.inl 21), some (.inr f), some (.inr r), some (.inr 0), some (.inr (-1))], [], τ)) rfl b2_rng (fun h3 => ?_) (fun h3 => ?_)
          · first
            | (exfalso; have h3 := b2_n0 h3; omega)
            | (
                have h3 := b2_n0 h3
                refine exq_k 5 (P := none) (g := (cod m8_to 22, [some (.inl 21), some (.inr f), some (.inr r), some (.inr 0), some (.inr (-1))], [.inr (-1), .inr r, .inr f, .inl 21, .inl 21], τ)) rfl trivial ?_
                obtain ⟨e32, he32, hc32⟩ := m_hindersInTurn (τ := τ) (f := f) (r := r) (s := (-1)) hI hR (by omega) (by omega) (by omega)
                refine exq_c hc32 (is := cod m8_to 23) (L := [some (.inl 21), some (.inr f), some (.inr r), some (.inr 0), some (.inr (-1))]) (st := [.inl 21]) rfl rfl rfl ?_
                show Exq _ _ (cod m8_to 23, [some (.inl 21), some (.inr f), some (.inr r), some (.inr 0), some (.inr (-1))], [.inr (hnt c f r (-1)), .inl 21], (zr τ 21 (zu (τ 21) 10 e32))) _ _
                refine exq_b (P := (hnt c f r (-1)) ≤ 0) (ct := (cod m8_to 26, [some (.inl 21), some (.inr f), some (.inr r), some (.inr 0), some (.inr (-1))], [.inl 21], (zr τ 21 (zu (τ 21) 10 e32)))) (cf := (cod m8_to 24, [some (.inl 21), some (.inr f), some (.inr r), some (.inr 0), some (.inr (-1))], [.inl 21], (zr τ 21 (zu (τ 21) 10 e32)))) rfl ⟨by omega, by omega⟩ (fun h4 => ?_) (fun h4 => ?_)
                · first
                  | (exfalso; omega)
                  | (
                      refine exq_k 2 (P := none) (g := (cod m8_to 28, [some (.inl 21), some (.inr f), some (.inr r), some (.inr 0), some (.inr (-1))], [], (zr (zr τ 21 (zu (τ 21) 10 e32)) 21 (zu (zu (τ 21) 10 e32) 7 0)))) rfl trivial ?_
                      rw [zr_zr]
                      refine exq_k 2 (P := none) (g := (cod m8_to 30, [some (.inl 21), some (.inr f), some (.inr r), some (.inr 0), some (.inr (-1))], [.inr 0], (zr τ 21 (zu (zu (τ 21) 10 e32) 7 0)))) rfl trivial ?_
                      refine exq_b (P := 0 ≤ 0) (ct := (cod m8_to 33, [some (.inl 21), some (.inr f), some (.inr r), some (.inr 0), some (.inr (-1))], [], (zr τ 21 (zu (zu (τ 21) 10 e32) 7 0)))) (cf := (cod m8_to 31, [some (.inl 21), some (.inr f), some (.inr r), some (.inr 0), some (.inr (-1))], [], (zr τ 21 (zu (zu (τ 21) 10 e32) 7 0)))) rfl ⟨by decide, by decide⟩ (fun _ => ?_) (fun hh => absurd (by decide) hh)
                      refine exq_k 5 (P := none) (g := (cod m8_to 38, [some (.inl 21), some (.inr f), some (.inr r), some (.inr 0), some (.inr (-1))], [.inr (1 + r), .inr f, .inl 21], (zr τ 21 (zu (zu (τ 21) 10 e32) 7 0)))) rfl trivial ?_
                      refine exq_c (m_of (τ := (zr τ 21 (zu (zu (τ 21) 10 e32) 7 0))) (f := f) (w := 1 + r) hI hR (by omega) (by omega)) (is := cod m8_to 39) (L := [some (.inl 21), some (.inr f), some (.inr r), some (.inr 0), some (.inr (-1))]) (st := []) rfl rfl rfl ?_
                      show Exq _ _ (cod m8_to 39, [some (.inl 21), some (.inr f), some (.inr r), some (.inr 0), some (.inr (-1))], [.inr (cel c (0 + f * 6 + (1 + r)))], (zr τ 21 (zu (zu (τ 21) 10 e32) 7 0))) _ _
                      refine exq_k 4 (P := none) (g := (cod m8_to 43, [some (.inl 21), some (.inr f), some (.inr r), some (.inr 0), some (.inr (-1))], [.inr (-1), .inr r, .inr f, .inl 21, .inr (cel c (0 + f * 6 + (1 + r)))], (zr τ 21 (zu (zu (τ 21) 10 e32) 7 0)))) rfl trivial ?_
                      refine exq_c (m_kind (τ := (zr τ 21 (zu (zu (τ 21) 10 e32) 7 0))) (f := f) (r := r) (s := (-1)) hI hR (by omega) (by omega) (show oco c f r (-1) = 1 ∨ oco c f r (-1) = 2 ∨ oco c f r (-1) = 3 by omega)) (is := cod m8_to 44) (L := [some (.inl 21), some (.inr f), some (.inr r), some (.inr 0), some (.inr (-1))]) (st := [.inr (cel c (0 + f * 6 + (1 + r)))]) rfl rfl rfl ?_
                      show Exq _ _ (cod m8_to 44, [some (.inl 21), some (.inr f), some (.inr r), some (.inr 0), some (.inr (-1))], [.inr (oco c f r (-1)), .inr (cel c (0 + f * 6 + (1 + r)))], (zr τ 21 (zu (zu (τ 21) 10 e32) 7 0))) _ _
                      refine exq_k 1 (P := none) (g := (cod m8_to 45, [some (.inl 21), some (.inr f), some (.inr r), some (.inr 0), some (.inr (-1))], [.inr 1, .inr (oco c f r (-1)), .inr (cel c (0 + f * 6 + (1 + r)))], (zr τ 21 (zu (zu (τ 21) 10 e32) 7 0)))) rfl trivial ?_
                      refine exq_b (P := ¬ (oco c f r (-1)) = 1) (ct := (cod m8_to 48, [some (.inl 21), some (.inr f), some (.inr r), some (.inr 0), some (.inr (-1))], [.inr (cel c (0 + f * 6 + (1 + r)))], (zr τ 21 (zu (zu (τ 21) 10 e32) 7 0)))) (cf := (cod m8_to 46, [some (.inl 21), some (.inr f), some (.inr r), some (.inr 0), some (.inr (-1))], [.inr (cel c (0 + f * 6 + (1 + r)))], (zr τ 21 (zu (zu (τ 21) 10 e32) 7 0)))) rfl ⟨⟨by omega, by omega⟩, ⟨by decide, by decide⟩⟩ (fun h6 => ?_) (fun h6 => ?_)
                      · first
                        | (exfalso; omega)
                        | (
                            refine exq_k 4 (P := none) (g := (cod m8_to 52, [some (.inl 21), some (.inr f), some (.inr r), some (.inr 0), some (.inr (-1))], [.inr ((cel c (0 + f * 6 + (1 + r))) + (-2))], (zr τ 21 (zu (zu (τ 21) 10 e32) 7 0)))) rfl trivial ?_
                            exact exq_r rfl trivial rfl (⟨_, rI2 (by (repeat (first | rw [if_pos (by omega)] | rw [if_neg (by omega)])); first | done | rfl | (rw [hg (by omega)]; (repeat (first | rw [if_pos (by omega)] | rw [if_neg (by omega)])); first | done | rfl | omega) | omega) (tt_2 (by (repeat (first | rw [if_pos (by omega)] | rw [if_neg (by omega)])); first | done | rfl | omega))⟩))
                      · first
                        | (exfalso; omega)
                        | (
                            refine exq_k 3 (P := none) (g := (cod m8_to 52, [some (.inl 21), some (.inr f), some (.inr r), some (.inr 0), some (.inr (-1))], [.inr ((cel c (0 + f * 6 + (1 + r))) + (-1))], (zr τ 21 (zu (zu (τ 21) 10 e32) 7 0)))) rfl trivial ?_
                            exact exq_r rfl trivial rfl (⟨_, rI2 (by (repeat (first | rw [if_pos (by omega)] | rw [if_neg (by omega)])); first | done | rfl | (rw [hg (by omega)]; (repeat (first | rw [if_pos (by omega)] | rw [if_neg (by omega)])); first | done | rfl | omega) | omega) (tt_2 (by (repeat (first | rw [if_pos (by omega)] | rw [if_neg (by omega)])); first | done | rfl | omega))⟩)))
                · first
                  | (exfalso; omega)
                  | (
                      refine exq_k 3 (P := none) (g := (cod m8_to 28, [some (.inl 21), some (.inr f), some (.inr r), some (.inr 0), some (.inr (-1))], [], (zr (zr τ 21 (zu (τ 21) 10 e32)) 21 (zu (zu (τ 21) 10 e32) 7 2)))) rfl trivial ?_
                      rw [zr_zr]
                      refine exq_k 2 (P := none) (g := (cod m8_to 30, [some (.inl 21), some (.inr f), some (.inr r), some (.inr 0), some (.inr (-1))], [.inr 2], (zr τ 21 (zu (zu (τ 21) 10 e32) 7 2)))) rfl trivial ?_
                      refine exq_b (P := 2 ≤ 0) (ct := (cod m8_to 33, [some (.inl 21), some (.inr f), some (.inr r), some (.inr 0), some (.inr (-1))], [], (zr τ 21 (zu (zu (τ 21) 10 e32) 7 2)))) (cf := (cod m8_to 31, [some (.inl 21), some (.inr f), some (.inr r), some (.inr 0), some (.inr (-1))], [], (zr τ 21 (zu (zu (τ 21) 10 e32) 7 2)))) rfl ⟨by decide, by decide⟩ (fun hh => absurd hh (by decide)) (fun _ => ?_)
                      refine exq_k 2 (P := none) (g := (cod m8_to 52, [some (.inl 21), some (.inr f), some (.inr r), some (.inr 0), some (.inr (-1))], [.inr 0], (zr τ 21 (zu (zu (τ 21) 10 e32) 7 2)))) rfl trivial ?_
                      exact exq_r rfl trivial rfl (⟨_, rI2 (by (repeat (first | rw [if_pos (by omega)] | rw [if_neg (by omega)])); first | done | rfl | (rw [hg (by omega)]; (repeat (first | rw [if_pos (by omega)] | rw [if_neg (by omega)])); first | done | rfl | omega) | omega) (tt_2 (by (repeat (first | rw [if_pos (by omega)] | rw [if_neg (by omega)])); first | done | rfl | omega))⟩)))
          · first
            | (exfalso; have h3 := b2_nn0 h3; omega)
            | (
                have h3 := b2_nn0 h3
                refine exq_k 2 (P := none) (g := (cod m8_to 15, [some (.inl 21), some (.inr f), some (.inr r), some (.inr 0), some (.inr (-1))], [.inr 1, .inl 21], τ)) rfl trivial ?_
                refine exq_c (m_fails (τ := τ) (k := 1)) (is := cod m8_to 16) (L := [some (.inl 21), some (.inr f), some (.inr r), some (.inr 0), some (.inr (-1))]) (st := []) rfl rfl rfl ?_
                show Exq _ _ (cod m8_to 16, [some (.inl 21), some (.inr f), some (.inr r), some (.inr 0), some (.inr (-1))], [.inr 0], (zr τ 21 (zu (τ 21) 7 1))) _ _
                exact exq_r rfl trivial rfl (⟨_, rI2 (by (repeat (first | rw [if_pos (by omega)] | rw [if_neg (by omega)])); first | done | rfl | (rw [hg (by omega)]; (repeat (first | rw [if_pos (by omega)] | rw [if_neg (by omega)])); first | done | rfl | omega) | omega) (tt_3 (by (repeat (first | rw [if_pos (by omega)] | rw [if_neg (by omega)])); first | done | rfl | omega))⟩)))
  obtain ⟨q, ⟨e, rfl⟩, h⟩ := q
  exact ⟨e, h⟩
theorem d_would_1 {f r : Int} {τ : SZ} {c : Nat → Int} {B : Int} (hI : Iv B c) (hR : Rs c (τ 22)) (hf : Rng f) (hr : Rng r) : ∃ e, RZ 7 m8_would [.inl 21, .inr f, .inr r, .inr 1] τ (.inl (some (.inr (if (0 ≤ f ∧ f < cel c 107) ∧ (0 ≤ r ∧ r < 2) then (if (ocn c f r 1 = 1 ∨ ocn c f r 1 = 2 ∨ ocn c f r 1 = 3) then ocn c f r 1 else 0) else 0)), tt τ (if (0 ≤ f ∧ f < cel c 107) ∧ (0 ≤ r ∧ r < 2) then 0 else 1) e)) := by
  have hS := hI.1
  have hC := hI.2.1
  have hN := hS.n
  obtain ⟨hf1, hf2⟩ := hf
  obtain ⟨hr1, hr2⟩ := hr
  have hh := hnt_in c f r 1
  have hm : (ocn c f r 1 = 1 ∨ ocn c f r 1 = 2 ∨ ocn c f r 1 = 3) → oco c f r 1 = ocn c f r 1 := fun h => by unfold ocn at h ⊢; split at h; rw [if_pos (by assumption)]; omega
  have q : RZq 7 m8_would [.inl 21, .inr f, .inr r, .inr 1] τ (fun q => ∃ e, q = .inl (some (.inr (if (0 ≤ f ∧ f < cel c 107) ∧ (0 ≤ r ∧ r < 2) then (if (ocn c f r 1 = 1 ∨ ocn c f r 1 = 2 ∨ ocn c f r 1 = 3) then ocn c f r 1 else 0) else 0)), tt τ (if (0 ≤ f ∧ f < cel c 107) ∧ (0 ≤ r ∧ r < 2) then 0 else 1) e)) := by
    refine Exq.call ?_ rfl rfl
    show Exq _ _ (cod m8_would 0, [some (.inl 21), some (.inr f), some (.inr r), some (.inr 1), none], [], τ) _ _
    refine exq_k 1 (P := none) (g := (cod m8_would 1, [some (.inl 21), some (.inr f), some (.inr r), some (.inr 1), none], [.inr 1], τ)) rfl trivial ?_
    refine exq_b (P := 1 = 0) (ct := (cod m8_would 4, [some (.inl 21), some (.inr f), some (.inr r), some (.inr 1), none], [], τ)) (cf := (cod m8_would 2, [some (.inl 21), some (.inr f), some (.inr r), some (.inr 1), none], [], τ)) rfl ⟨by decide, by decide⟩ (fun hh => absurd hh (by decide)) (fun _ => ?_)
    refine exq_k 6 (P := none) (g := (cod m8_would 9, [some (.inl 21), some (.inr f), some (.inr r), some (.inr 1), some (.inr 1)], [.inr f, .inl 21, .inl 21], τ)) rfl trivial ?_
    refine exq_c (m_isFerry (τ := τ) (f := f) hI hR ⟨by omega, by omega⟩) (is := cod m8_would 10) (L := [some (.inl 21), some (.inr f), some (.inr r), some (.inr 1), some (.inr 1)]) (st := [.inl 21]) rfl rfl rfl ?_
    show Exq _ _ (cod m8_would 10, [some (.inl 21), some (.inr f), some (.inr r), some (.inr 1), some (.inr 1)], [.inr (b2 (0 ≤ f ∧ f < cel c 107)), .inl 21], τ) _ _
    refine exq_b (P := (b2 (0 ≤ f ∧ f < cel c 107)) = 0) (ct := (cod m8_would 16, [some (.inl 21), some (.inr f), some (.inr r), some (.inr 1), some (.inr 1)], [.inl 21], τ)) (cf := (cod m8_would 11, [some (.inl 21), some (.inr f), some (.inr r), some (.inr 1), some (.inr 1)], [.inl 21], τ)) rfl b2_rng (fun h2 => ?_) (fun h2 => ?_)
    · first
      | (exfalso; have h2 := b2_e0 h2; omega)
      | (
          have h2 := b2_e0 h2
          refine exq_k 2 (P := none) (g := (cod m8_would 18, [some (.inl 21), some (.inr f), some (.inr r), some (.inr 1), some (.inr 1)], [], (zr τ 21 (zu (τ 21) 7 1)))) rfl trivial ?_
          refine exq_k 2 (P := none) (g := (cod m8_would 20, [some (.inl 21), some (.inr f), some (.inr r), some (.inr 1), some (.inr 1)], [.inr 1], (zr τ 21 (zu (τ 21) 7 1)))) rfl trivial ?_
          refine exq_b (P := 0 < 1) (ct := (cod m8_would 27, [some (.inl 21), some (.inr f), some (.inr r), some (.inr 1), some (.inr 1)], [], (zr τ 21 (zu (τ 21) 7 1)))) (cf := (cod m8_would 21, [some (.inl 21), some (.inr f), some (.inr r), some (.inr 1), some (.inr 1)], [], (zr τ 21 (zu (τ 21) 7 1)))) rfl ⟨by decide, by decide⟩ (fun _ => ?_) (fun hh => absurd (by decide) hh)
          refine exq_k 2 (P := none) (g := (cod m8_would 34, [some (.inl 21), some (.inr f), some (.inr r), some (.inr 1), some (.inr 1)], [.inr 0], (zr τ 21 (zu (τ 21) 7 1)))) rfl trivial ?_
          exact exq_r rfl trivial rfl (⟨_, rI2 (by (repeat (first | rw [if_pos (by omega)] | rw [if_neg (by omega)])); first | done | rfl | omega) (tt_3 (by (repeat (first | rw [if_pos (by omega)] | rw [if_neg (by omega)])); first | done | rfl | omega))⟩))
    · first
      | (exfalso; have h2 := b2_n0 h2; omega)
      | (
          have h2 := b2_n0 h2
          refine exq_k 1 (P := none) (g := (cod m8_would 12, [some (.inl 21), some (.inr f), some (.inr r), some (.inr 1), some (.inr 1)], [.inr r, .inl 21], τ)) rfl trivial ?_
          refine exq_c (m_isRiver (τ := τ) (v := r) ⟨by omega, by omega⟩) (is := cod m8_would 13) (L := [some (.inl 21), some (.inr f), some (.inr r), some (.inr 1), some (.inr 1)]) (st := [.inl 21]) rfl rfl rfl ?_
          show Exq _ _ (cod m8_would 13, [some (.inl 21), some (.inr f), some (.inr r), some (.inr 1), some (.inr 1)], [.inr (b2 (0 ≤ r ∧ r < 2)), .inl 21], τ) _ _
          refine exq_b (P := (b2 (0 ≤ r ∧ r < 2)) = 0) (ct := (cod m8_would 16, [some (.inl 21), some (.inr f), some (.inr r), some (.inr 1), some (.inr 1)], [.inl 21], τ)) (cf := (cod m8_would 14, [some (.inl 21), some (.inr f), some (.inr r), some (.inr 1), some (.inr 1)], [.inl 21], τ)) rfl b2_rng (fun h4 => ?_) (fun h4 => ?_)
          · first
            | (exfalso; have h4 := b2_e0 h4; omega)
            | (
                have h4 := b2_e0 h4
                refine exq_k 2 (P := none) (g := (cod m8_would 18, [some (.inl 21), some (.inr f), some (.inr r), some (.inr 1), some (.inr 1)], [], (zr τ 21 (zu (τ 21) 7 1)))) rfl trivial ?_
                refine exq_k 2 (P := none) (g := (cod m8_would 20, [some (.inl 21), some (.inr f), some (.inr r), some (.inr 1), some (.inr 1)], [.inr 1], (zr τ 21 (zu (τ 21) 7 1)))) rfl trivial ?_
                refine exq_b (P := 0 < 1) (ct := (cod m8_would 27, [some (.inl 21), some (.inr f), some (.inr r), some (.inr 1), some (.inr 1)], [], (zr τ 21 (zu (τ 21) 7 1)))) (cf := (cod m8_would 21, [some (.inl 21), some (.inr f), some (.inr r), some (.inr 1), some (.inr 1)], [], (zr τ 21 (zu (τ 21) 7 1)))) rfl ⟨by decide, by decide⟩ (fun _ => ?_) (fun hh => absurd (by decide) hh)
                refine exq_k 2 (P := none) (g := (cod m8_would 34, [some (.inl 21), some (.inr f), some (.inr r), some (.inr 1), some (.inr 1)], [.inr 0], (zr τ 21 (zu (τ 21) 7 1)))) rfl trivial ?_
                exact exq_r rfl trivial rfl (⟨_, rI2 (by (repeat (first | rw [if_pos (by omega)] | rw [if_neg (by omega)])); first | done | rfl | omega) (tt_3 (by (repeat (first | rw [if_pos (by omega)] | rw [if_neg (by omega)])); first | done | rfl | omega))⟩))
          · first
            | (exfalso; have h4 := b2_n0 h4; omega)
            | (
                have h4 := b2_n0 h4
                refine exq_k 3 (P := none) (g := (cod m8_would 18, [some (.inl 21), some (.inr f), some (.inr r), some (.inr 1), some (.inr 1)], [], (zr τ 21 (zu (τ 21) 7 0)))) rfl trivial ?_
                refine exq_k 2 (P := none) (g := (cod m8_would 20, [some (.inl 21), some (.inr f), some (.inr r), some (.inr 1), some (.inr 1)], [.inr 0], (zr τ 21 (zu (τ 21) 7 0)))) rfl trivial ?_
                refine exq_b (P := 0 < 0) (ct := (cod m8_would 27, [some (.inl 21), some (.inr f), some (.inr r), some (.inr 1), some (.inr 1)], [], (zr τ 21 (zu (τ 21) 7 0)))) (cf := (cod m8_would 21, [some (.inl 21), some (.inr f), some (.inr r), some (.inr 1), some (.inr 1)], [], (zr τ 21 (zu (τ 21) 7 0)))) rfl ⟨by decide, by decide⟩ (fun hh => absurd hh (by decide)) (fun _ => ?_)
                refine exq_k 4 (P := none) (g := (cod m8_would 25, [some (.inl 21), some (.inr f), some (.inr r), some (.inr 1), some (.inr 1)], [.inr 1, .inr r, .inr f, .inl 21], (zr τ 21 (zu (τ 21) 7 0)))) rfl trivial ?_
                obtain ⟨e33, he33, hc33⟩ := m_hindersInTurn (τ := (zr τ 21 (zu (τ 21) 7 0))) (f := f) (r := r) (s := 1) hI hR (by omega) (by omega) (by omega)
                refine exq_c hc33 (is := cod m8_would 26) (L := [some (.inl 21), some (.inr f), some (.inr r), some (.inr 1), some (.inr 1)]) (st := []) rfl rfl rfl ?_
                show Exq _ _ (cod m8_would 26, [some (.inl 21), some (.inr f), some (.inr r), some (.inr 1), some (.inr 1)], [.inr (hnt c f r 1)], (zr (zr τ 21 (zu (τ 21) 7 0)) 21 (zu (zu (τ 21) 7 0) 10 e33))) _ _
                rw [zr_zr]
                refine exq_b (P := (hnt c f r 1) ≤ 0) (ct := (cod m8_would 29, [some (.inl 21), some (.inr f), some (.inr r), some (.inr 1), some (.inr 1)], [], (zr τ 21 (zu (zu (τ 21) 7 0) 10 e33)))) (cf := (cod m8_would 27, [some (.inl 21), some (.inr f), some (.inr r), some (.inr 1), some (.inr 1)], [], (zr τ 21 (zu (zu (τ 21) 7 0) 10 e33)))) rfl ⟨by omega, by omega⟩ (fun h7 => ?_) (fun h7 => ?_)
                · first
                  | (exfalso; omega)
                  | (
                      refine exq_k 4 (P := none) (g := (cod m8_would 33, [some (.inl 21), some (.inr f), some (.inr r), some (.inr 1), some (.inr 1)], [.inr 1, .inr r, .inr f, .inl 21], (zr τ 21 (zu (zu (τ 21) 7 0) 10 e33)))) rfl trivial ?_
                      refine exq_c (m_kind (τ := (zr τ 21 (zu (zu (τ 21) 7 0) 10 e33))) (f := f) (r := r) (s := 1) hI hR (by omega) (by omega) (show oco c f r 1 = 1 ∨ oco c f r 1 = 2 ∨ oco c f r 1 = 3 by omega)) (is := cod m8_would 34) (L := [some (.inl 21), some (.inr f), some (.inr r), some (.inr 1), some (.inr 1)]) (st := []) rfl rfl rfl ?_
                      show Exq _ _ (cod m8_would 34, [some (.inl 21), some (.inr f), some (.inr r), some (.inr 1), some (.inr 1)], [.inr (oco c f r 1)], (zr τ 21 (zu (zu (τ 21) 7 0) 10 e33))) _ _
                      exact exq_r rfl trivial rfl (⟨_, rI2 (by (repeat (first | rw [if_pos (by omega)] | rw [if_neg (by omega)])); first | done | rfl | omega) (tt_1 (by (repeat (first | rw [if_pos (by omega)] | rw [if_neg (by omega)])); first | done | rfl | omega)).symm.symm⟩))
                · first
                  | (exfalso; omega)
                  | (
                      refine exq_k 2 (P := none) (g := (cod m8_would 34, [some (.inl 21), some (.inr f), some (.inr r), some (.inr 1), some (.inr 1)], [.inr 0], (zr τ 21 (zu (zu (τ 21) 7 0) 10 e33)))) rfl trivial ?_
                      exact exq_r rfl trivial rfl (⟨_, rI2 (by (repeat (first | rw [if_pos (by omega)] | rw [if_neg (by omega)])); first | done | rfl | omega) (tt_1 (by (repeat (first | rw [if_pos (by omega)] | rw [if_neg (by omega)])); first | done | rfl | omega)).symm.symm⟩))))
  obtain ⟨q, ⟨e, rfl⟩, h⟩ := q
  exact ⟨e, h⟩
theorem d_why_1_0 {f r : Int} {τ : SZ} {c : Nat → Int} {B : Int} (hI : Iv B c) (hR : Rs c (τ 22)) (hf : Rng f) (hr : Rng r) : ∃ e, RZ 7 m8_why [.inl 21, .inr f, .inr r, .inr 1, .inr 0] τ (.inl (some (.inr (if (0 ≤ f ∧ f < cel c 107) ∧ (0 ≤ r ∧ r < 2) then (if (ocn c f r 1 = 1 ∨ ocn c f r 1 = 2 ∨ ocn c f r 1 = 3) then 0 else ocn c f r 1) else 0)), tt τ (if (0 ≤ f ∧ f < cel c 107) ∧ (0 ≤ r ∧ r < 2) then (if (ocn c f r 1 = 1 ∨ ocn c f r 1 = 2 ∨ ocn c f r 1 = 3) then 2 else 0) else 1) e)) := by
  have hS := hI.1
  have hC := hI.2.1
  have hN := hS.n
  obtain ⟨hf1, hf2⟩ := hf
  obtain ⟨hr1, hr2⟩ := hr
  have hh := hnt_in c f r 1
  have hm : (ocn c f r 1 = 1 ∨ ocn c f r 1 = 2 ∨ ocn c f r 1 = 3) → oco c f r 1 = ocn c f r 1 := fun h => by unfold ocn at h ⊢; split at h; rw [if_pos (by assumption)]; omega
  have q : RZq 7 m8_why [.inl 21, .inr f, .inr r, .inr 1, .inr 0] τ (fun q => ∃ e, q = .inl (some (.inr (if (0 ≤ f ∧ f < cel c 107) ∧ (0 ≤ r ∧ r < 2) then (if (ocn c f r 1 = 1 ∨ ocn c f r 1 = 2 ∨ ocn c f r 1 = 3) then 0 else ocn c f r 1) else 0)), tt τ (if (0 ≤ f ∧ f < cel c 107) ∧ (0 ≤ r ∧ r < 2) then (if (ocn c f r 1 = 1 ∨ ocn c f r 1 = 2 ∨ ocn c f r 1 = 3) then 2 else 0) else 1) e)) := by
    refine Exq.call ?_ rfl rfl
    show Exq _ _ (cod m8_why 0, [some (.inl 21), some (.inr f), some (.inr r), some (.inr 1), some (.inr 0), none], [], τ) _ _
    refine exq_k 2 (P := none) (g := (cod m8_why 2, [some (.inl 21), some (.inr f), some (.inr r), some (.inr 1), some (.inr 0), none], [.inr f, .inl 21], τ)) rfl trivial ?_
    refine exq_c (m_isFerry (τ := τ) (f := f) hI hR ⟨by omega, by omega⟩) (is := cod m8_why 3) (L := [some (.inl 21), some (.inr f), some (.inr r), some (.inr 1), some (.inr 0), none]) (st := []) rfl rfl rfl ?_
    show Exq _ _ (cod m8_why 3, [some (.inl 21), some (.inr f), some (.inr r), some (.inr 1), some (.inr 0), none], [.inr (b2 (0 ≤ f ∧ f < cel c 107))], τ) _ _
    refine exq_b (P := (b2 (0 ≤ f ∧ f < cel c 107)) = 0) (ct := (cod m8_why 7, [some (.inl 21), some (.inr f), some (.inr r), some (.inr 1), some (.inr 0), none], [], τ)) (cf := (cod m8_why 4, [some (.inl 21), some (.inr f), some (.inr r), some (.inr 1), some (.inr 0), none], [], τ)) rfl b2_rng (fun h1 => ?_) (fun h1 => ?_)
    · first
      | (exfalso; have h1 := b2_e0 h1; omega)
      | (
          have h1 := b2_e0 h1
          refine exq_k 2 (P := none) (g := (cod m8_why 9, [some (.inl 21), some (.inr f), some (.inr r), some (.inr 1), some (.inr 0), none], [.inr 1, .inl 21], τ)) rfl trivial ?_
          refine exq_c (m_fails (τ := τ) (k := 1)) (is := cod m8_why 10) (L := [some (.inl 21), some (.inr f), some (.inr r), some (.inr 1), some (.inr 0), none]) (st := []) rfl rfl rfl ?_
          show Exq _ _ (cod m8_why 10, [some (.inl 21), some (.inr f), some (.inr r), some (.inr 1), some (.inr 0), none], [.inr 0], (zr τ 21 (zu (τ 21) 7 1))) _ _
          exact exq_r rfl trivial rfl (⟨_, rI2 (by (repeat (first | rw [if_pos (by omega)] | rw [if_neg (by omega)])); first | done | rfl | omega) (tt_3 (by (repeat (first | rw [if_pos (by omega)] | rw [if_neg (by omega)])); first | done | rfl | omega))⟩))
    · first
      | (exfalso; have h1 := b2_n0 h1; omega)
      | (
          have h1 := b2_n0 h1
          refine exq_k 1 (P := none) (g := (cod m8_why 5, [some (.inl 21), some (.inr f), some (.inr r), some (.inr 1), some (.inr 0), none], [.inr r], τ)) rfl trivial ?_
          refine exq_c (m_isRiver (τ := τ) (v := r) ⟨by omega, by omega⟩) (is := cod m8_why 6) (L := [some (.inl 21), some (.inr f), some (.inr r), some (.inr 1), some (.inr 0), none]) (st := []) rfl rfl rfl ?_
          show Exq _ _ (cod m8_why 6, [some (.inl 21), some (.inr f), some (.inr r), some (.inr 1), some (.inr 0), none], [.inr (b2 (0 ≤ r ∧ r < 2))], τ) _ _
          refine exq_b (P := ¬ (b2 (0 ≤ r ∧ r < 2)) = 0) (ct := (cod m8_why 11, [some (.inl 21), some (.inr f), some (.inr r), some (.inr 1), some (.inr 0), none], [], τ)) (cf := (cod m8_why 7, [some (.inl 21), some (.inr f), some (.inr r), some (.inr 1), some (.inr 0), none], [], τ)) rfl b2_rng (fun h2 => ?_) (fun h2 => ?_)
          · first
            | (exfalso; have h2 := b2_n0 h2; omega)
            | (
                have h2 := b2_n0 h2
                refine exq_k 4 (P := none) (g := (cod m8_why 15, [some (.inl 21), some (.inr f), some (.inr r), some (.inr 1), some (.inr 0), none], [.inr 1, .inr r, .inr f, .inl 21], τ)) rfl trivial ?_
                refine exq_b (P := 1 = 0) (ct := (cod m8_why 18, [some (.inl 21), some (.inr f), some (.inr r), some (.inr 1), some (.inr 0), none], [.inr r, .inr f, .inl 21], τ)) (cf := (cod m8_why 16, [some (.inl 21), some (.inr f), some (.inr r), some (.inr 1), some (.inr 0), none], [.inr r, .inr f, .inl 21], τ)) rfl ⟨by decide, by decide⟩ (fun hh => absurd hh (by decide)) (fun _ => ?_)
                refine exq_k 2 (P := none) (g := (cod m8_why 19, [some (.inl 21), some (.inr f), some (.inr r), some (.inr 1), some (.inr 0), none], [.inr 1, .inr r, .inr f, .inl 21], τ)) rfl trivial ?_
                obtain ⟨e34, he34, hc34⟩ := m_hindersInTurn (τ := τ) (f := f) (r := r) (s := 1) hI hR (by omega) (by omega) (by omega)
                refine exq_c hc34 (is := cod m8_why 20) (L := [some (.inl 21), some (.inr f), some (.inr r), some (.inr 1), some (.inr 0), none]) (st := []) rfl rfl rfl ?_
                show Exq _ _ (cod m8_why 20, [some (.inl 21), some (.inr f), some (.inr r), some (.inr 1), some (.inr 0), none], [.inr (hnt c f r 1)], (zr τ 21 (zu (τ 21) 10 e34))) _ _
                refine exq_k 3 (P := none) (g := (cod m8_why 23, [some (.inl 21), some (.inr f), some (.inr r), some (.inr 1), some (.inr 0), some (.inr (hnt c f r 1))], [.inr (hnt c f r 1), .inl 21], (zr τ 21 (zu (τ 21) 10 e34)))) rfl trivial ?_
                refine exq_b (P := ¬ (hnt c f r 1) = 0) (ct := (cod m8_why 26, [some (.inl 21), some (.inr f), some (.inr r), some (.inr 1), some (.inr 0), some (.inr (hnt c f r 1))], [.inl 21], (zr τ 21 (zu (τ 21) 10 e34)))) (cf := (cod m8_why 24, [some (.inl 21), some (.inr f), some (.inr r), some (.inr 1), some (.inr 0), some (.inr (hnt c f r 1))], [.inl 21], (zr τ 21 (zu (τ 21) 10 e34)))) rfl ⟨by omega, by omega⟩ (fun h4 => ?_) (fun h4 => ?_)
                · first
                  | (exfalso; omega)
                  | (
                      refine exq_k 2 (P := none) (g := (cod m8_why 28, [some (.inl 21), some (.inr f), some (.inr r), some (.inr 1), some (.inr 0), some (.inr (hnt c f r 1))], [], (zr (zr τ 21 (zu (τ 21) 10 e34)) 21 (zu (zu (τ 21) 10 e34) 7 0)))) rfl trivial ?_
                      rw [zr_zr]
                      refine exq_k 2 (P := none) (g := (cod m8_why 30, [some (.inl 21), some (.inr f), some (.inr r), some (.inr 1), some (.inr 0), some (.inr (hnt c f r 1))], [.inr 0], (zr τ 21 (zu (zu (τ 21) 10 e34) 7 0)))) rfl trivial ?_
                      refine exq_b (P := 0 ≤ 0) (ct := (cod m8_why 33, [some (.inl 21), some (.inr f), some (.inr r), some (.inr 1), some (.inr 0), some (.inr (hnt c f r 1))], [], (zr τ 21 (zu (zu (τ 21) 10 e34) 7 0)))) (cf := (cod m8_why 31, [some (.inl 21), some (.inr f), some (.inr r), some (.inr 1), some (.inr 0), some (.inr (hnt c f r 1))], [], (zr τ 21 (zu (zu (τ 21) 10 e34) 7 0)))) rfl ⟨by decide, by decide⟩ (fun _ => ?_) (fun hh => absurd (by decide) hh)
                      refine exq_k 1 (P := none) (g := (cod m8_why 34, [some (.inl 21), some (.inr f), some (.inr r), some (.inr 1), some (.inr 0), some (.inr (hnt c f r 1))], [.inr 0], (zr τ 21 (zu (zu (τ 21) 10 e34) 7 0)))) rfl trivial ?_
                      refine exq_b (P := 0 = 0) (ct := (cod m8_why 38, [some (.inl 21), some (.inr f), some (.inr r), some (.inr 1), some (.inr 0), some (.inr (hnt c f r 1))], [], (zr τ 21 (zu (zu (τ 21) 10 e34) 7 0)))) (cf := (cod m8_why 35, [some (.inl 21), some (.inr f), some (.inr r), some (.inr 1), some (.inr 0), some (.inr (hnt c f r 1))], [], (zr τ 21 (zu (zu (τ 21) 10 e34) 7 0)))) rfl ⟨by decide, by decide⟩ (fun _ => ?_) (fun hh => absurd (by decide) hh)
                      refine exq_k 1 (P := none) (g := (cod m8_why 39, [some (.inl 21), some (.inr f), some (.inr r), some (.inr 1), some (.inr 0), some (.inr (hnt c f r 1))], [.inr (hnt c f r 1)], (zr τ 21 (zu (zu (τ 21) 10 e34) 7 0)))) rfl trivial ?_
                      exact exq_r rfl trivial rfl (⟨_, rI2 (by (repeat (first | rw [if_pos (by omega)] | rw [if_neg (by omega)])); first | done | rfl | omega) (tt_2 (by (repeat (first | rw [if_pos (by omega)] | rw [if_neg (by omega)])); first | done | rfl | omega))⟩))
                · first
                  | (exfalso; omega)
                  | (
                      refine exq_k 3 (P := none) (g := (cod m8_why 28, [some (.inl 21), some (.inr f), some (.inr r), some (.inr 1), some (.inr 0), some (.inr (hnt c f r 1))], [], (zr (zr τ 21 (zu (τ 21) 10 e34)) 21 (zu (zu (τ 21) 10 e34) 7 2)))) rfl trivial ?_
                      rw [zr_zr]
                      refine exq_k 2 (P := none) (g := (cod m8_why 30, [some (.inl 21), some (.inr f), some (.inr r), some (.inr 1), some (.inr 0), some (.inr (hnt c f r 1))], [.inr 2], (zr τ 21 (zu (zu (τ 21) 10 e34) 7 2)))) rfl trivial ?_
                      refine exq_b (P := 2 ≤ 0) (ct := (cod m8_why 33, [some (.inl 21), some (.inr f), some (.inr r), some (.inr 1), some (.inr 0), some (.inr (hnt c f r 1))], [], (zr τ 21 (zu (zu (τ 21) 10 e34) 7 2)))) (cf := (cod m8_why 31, [some (.inl 21), some (.inr f), some (.inr r), some (.inr 1), some (.inr 0), some (.inr (hnt c f r 1))], [], (zr τ 21 (zu (zu (τ 21) 10 e34) 7 2)))) rfl ⟨by decide, by decide⟩ (fun hh => absurd hh (by decide)) (fun _ => ?_)
                      refine exq_k 2 (P := none) (g := (cod m8_why 39, [some (.inl 21), some (.inr f), some (.inr r), some (.inr 1), some (.inr 0), some (.inr (hnt c f r 1))], [.inr 0], (zr τ 21 (zu (zu (τ 21) 10 e34) 7 2)))) rfl trivial ?_
                      exact exq_r rfl trivial rfl (⟨_, rI2 (by (repeat (first | rw [if_pos (by omega)] | rw [if_neg (by omega)])); first | done | rfl | omega) (tt_2 (by (repeat (first | rw [if_pos (by omega)] | rw [if_neg (by omega)])); first | done | rfl | omega))⟩)))
          · first
            | (exfalso; have h2 := b2_nn0 h2; omega)
            | (
                have h2 := b2_nn0 h2
                refine exq_k 2 (P := none) (g := (cod m8_why 9, [some (.inl 21), some (.inr f), some (.inr r), some (.inr 1), some (.inr 0), none], [.inr 1, .inl 21], τ)) rfl trivial ?_
                refine exq_c (m_fails (τ := τ) (k := 1)) (is := cod m8_why 10) (L := [some (.inl 21), some (.inr f), some (.inr r), some (.inr 1), some (.inr 0), none]) (st := []) rfl rfl rfl ?_
                show Exq _ _ (cod m8_why 10, [some (.inl 21), some (.inr f), some (.inr r), some (.inr 1), some (.inr 0), none], [.inr 0], (zr τ 21 (zu (τ 21) 7 1))) _ _
                exact exq_r rfl trivial rfl (⟨_, rI2 (by (repeat (first | rw [if_pos (by omega)] | rw [if_neg (by omega)])); first | done | rfl | omega) (tt_3 (by (repeat (first | rw [if_pos (by omega)] | rw [if_neg (by omega)])); first | done | rfl | omega))⟩)))
  obtain ⟨q, ⟨e, rfl⟩, h⟩ := q
  exact ⟨e, h⟩
theorem d_why_1_1 {f r : Int} {τ : SZ} {c : Nat → Int} {B : Int} (hI : Iv B c) (hR : Rs c (τ 22)) (hf : Rng f) (hr : Rng r) : ∃ e, RZ 7 m8_why [.inl 21, .inr f, .inr r, .inr 1, .inr 1] τ (.inl (some (.inr (if (0 ≤ f ∧ f < cel c 107) ∧ (0 ≤ r ∧ r < 2) then (if (ocn c f r 1 = 1 ∨ ocn c f r 1 = 2 ∨ ocn c f r 1 = 3) then 0 else dtl c (ocn c f r 1) f r 1) else 0)), tt τ (if (0 ≤ f ∧ f < cel c 107) ∧ (0 ≤ r ∧ r < 2) then (if (ocn c f r 1 = 1 ∨ ocn c f r 1 = 2 ∨ ocn c f r 1 = 3) then 2 else 0) else 1) e)) := by
  have hS := hI.1
  have hC := hI.2.1
  have hN := hS.n
  obtain ⟨hf1, hf2⟩ := hf
  obtain ⟨hr1, hr2⟩ := hr
  have hh := hnt_in c f r 1
  have hm : (ocn c f r 1 = 1 ∨ ocn c f r 1 = 2 ∨ ocn c f r 1 = 3) → oco c f r 1 = ocn c f r 1 := fun h => by unfold ocn at h ⊢; split at h; rw [if_pos (by assumption)]; omega
  have q : RZq 7 m8_why [.inl 21, .inr f, .inr r, .inr 1, .inr 1] τ (fun q => ∃ e, q = .inl (some (.inr (if (0 ≤ f ∧ f < cel c 107) ∧ (0 ≤ r ∧ r < 2) then (if (ocn c f r 1 = 1 ∨ ocn c f r 1 = 2 ∨ ocn c f r 1 = 3) then 0 else dtl c (ocn c f r 1) f r 1) else 0)), tt τ (if (0 ≤ f ∧ f < cel c 107) ∧ (0 ≤ r ∧ r < 2) then (if (ocn c f r 1 = 1 ∨ ocn c f r 1 = 2 ∨ ocn c f r 1 = 3) then 2 else 0) else 1) e)) := by
    refine Exq.call ?_ rfl rfl
    show Exq _ _ (cod m8_why 0, [some (.inl 21), some (.inr f), some (.inr r), some (.inr 1), some (.inr 1), none], [], τ) _ _
    refine exq_k 2 (P := none) (g := (cod m8_why 2, [some (.inl 21), some (.inr f), some (.inr r), some (.inr 1), some (.inr 1), none], [.inr f, .inl 21], τ)) rfl trivial ?_
    refine exq_c (m_isFerry (τ := τ) (f := f) hI hR ⟨by omega, by omega⟩) (is := cod m8_why 3) (L := [some (.inl 21), some (.inr f), some (.inr r), some (.inr 1), some (.inr 1), none]) (st := []) rfl rfl rfl ?_
    show Exq _ _ (cod m8_why 3, [some (.inl 21), some (.inr f), some (.inr r), some (.inr 1), some (.inr 1), none], [.inr (b2 (0 ≤ f ∧ f < cel c 107))], τ) _ _
    refine exq_b (P := (b2 (0 ≤ f ∧ f < cel c 107)) = 0) (ct := (cod m8_why 7, [some (.inl 21), some (.inr f), some (.inr r), some (.inr 1), some (.inr 1), none], [], τ)) (cf := (cod m8_why 4, [some (.inl 21), some (.inr f), some (.inr r), some (.inr 1), some (.inr 1), none], [], τ)) rfl b2_rng (fun h1 => ?_) (fun h1 => ?_)
    · first
      | (exfalso; have h1 := b2_e0 h1; omega)
      | (
          have h1 := b2_e0 h1
          refine exq_k 2 (P := none) (g := (cod m8_why 9, [some (.inl 21), some (.inr f), some (.inr r), some (.inr 1), some (.inr 1), none], [.inr 1, .inl 21], τ)) rfl trivial ?_
          refine exq_c (m_fails (τ := τ) (k := 1)) (is := cod m8_why 10) (L := [some (.inl 21), some (.inr f), some (.inr r), some (.inr 1), some (.inr 1), none]) (st := []) rfl rfl rfl ?_
          show Exq _ _ (cod m8_why 10, [some (.inl 21), some (.inr f), some (.inr r), some (.inr 1), some (.inr 1), none], [.inr 0], (zr τ 21 (zu (τ 21) 7 1))) _ _
          exact exq_r rfl trivial rfl (⟨_, rI2 (by (repeat (first | rw [if_pos (by omega)] | rw [if_neg (by omega)])); first | done | rfl | omega | exact (id (by omega)).symm) (tt_3 (by (repeat (first | rw [if_pos (by omega)] | rw [if_neg (by omega)])); first | done | rfl | omega))⟩))
    · first
      | (exfalso; have h1 := b2_n0 h1; omega)
      | (
          have h1 := b2_n0 h1
          refine exq_k 1 (P := none) (g := (cod m8_why 5, [some (.inl 21), some (.inr f), some (.inr r), some (.inr 1), some (.inr 1), none], [.inr r], τ)) rfl trivial ?_
          refine exq_c (m_isRiver (τ := τ) (v := r) ⟨by omega, by omega⟩) (is := cod m8_why 6) (L := [some (.inl 21), some (.inr f), some (.inr r), some (.inr 1), some (.inr 1), none]) (st := []) rfl rfl rfl ?_
          show Exq _ _ (cod m8_why 6, [some (.inl 21), some (.inr f), some (.inr r), some (.inr 1), some (.inr 1), none], [.inr (b2 (0 ≤ r ∧ r < 2))], τ) _ _
          refine exq_b (P := ¬ (b2 (0 ≤ r ∧ r < 2)) = 0) (ct := (cod m8_why 11, [some (.inl 21), some (.inr f), some (.inr r), some (.inr 1), some (.inr 1), none], [], τ)) (cf := (cod m8_why 7, [some (.inl 21), some (.inr f), some (.inr r), some (.inr 1), some (.inr 1), none], [], τ)) rfl b2_rng (fun h2 => ?_) (fun h2 => ?_)
          · first
            | (exfalso; have h2 := b2_n0 h2; omega)
            | (
                have h2 := b2_n0 h2
                refine exq_k 4 (P := none) (g := (cod m8_why 15, [some (.inl 21), some (.inr f), some (.inr r), some (.inr 1), some (.inr 1), none], [.inr 1, .inr r, .inr f, .inl 21], τ)) rfl trivial ?_
                refine exq_b (P := 1 = 0) (ct := (cod m8_why 18, [some (.inl 21), some (.inr f), some (.inr r), some (.inr 1), some (.inr 1), none], [.inr r, .inr f, .inl 21], τ)) (cf := (cod m8_why 16, [some (.inl 21), some (.inr f), some (.inr r), some (.inr 1), some (.inr 1), none], [.inr r, .inr f, .inl 21], τ)) rfl ⟨by decide, by decide⟩ (fun hh => absurd hh (by decide)) (fun _ => ?_)
                refine exq_k 2 (P := none) (g := (cod m8_why 19, [some (.inl 21), some (.inr f), some (.inr r), some (.inr 1), some (.inr 1), none], [.inr 1, .inr r, .inr f, .inl 21], τ)) rfl trivial ?_
                obtain ⟨e35, he35, hc35⟩ := m_hindersInTurn (τ := τ) (f := f) (r := r) (s := 1) hI hR (by omega) (by omega) (by omega)
                refine exq_c hc35 (is := cod m8_why 20) (L := [some (.inl 21), some (.inr f), some (.inr r), some (.inr 1), some (.inr 1), none]) (st := []) rfl rfl rfl ?_
                show Exq _ _ (cod m8_why 20, [some (.inl 21), some (.inr f), some (.inr r), some (.inr 1), some (.inr 1), none], [.inr (hnt c f r 1)], (zr τ 21 (zu (τ 21) 10 e35))) _ _
                refine exq_k 3 (P := none) (g := (cod m8_why 23, [some (.inl 21), some (.inr f), some (.inr r), some (.inr 1), some (.inr 1), some (.inr (hnt c f r 1))], [.inr (hnt c f r 1), .inl 21], (zr τ 21 (zu (τ 21) 10 e35)))) rfl trivial ?_
                refine exq_b (P := ¬ (hnt c f r 1) = 0) (ct := (cod m8_why 26, [some (.inl 21), some (.inr f), some (.inr r), some (.inr 1), some (.inr 1), some (.inr (hnt c f r 1))], [.inl 21], (zr τ 21 (zu (τ 21) 10 e35)))) (cf := (cod m8_why 24, [some (.inl 21), some (.inr f), some (.inr r), some (.inr 1), some (.inr 1), some (.inr (hnt c f r 1))], [.inl 21], (zr τ 21 (zu (τ 21) 10 e35)))) rfl ⟨by omega, by omega⟩ (fun h4 => ?_) (fun h4 => ?_)
                · first
                  | (exfalso; omega)
                  | (
                      refine exq_k 2 (P := none) (g := (cod m8_why 28, [some (.inl 21), some (.inr f), some (.inr r), some (.inr 1), some (.inr 1), some (.inr (hnt c f r 1))], [], (zr (zr τ 21 (zu (τ 21) 10 e35)) 21 (zu (zu (τ 21) 10 e35) 7 0)))) rfl trivial ?_
                      rw [zr_zr]
                      refine exq_k 2 (P := none) (g := (cod m8_why 30, [some (.inl 21), some (.inr f), some (.inr r), some (.inr 1), some (.inr 1), some (.inr (hnt c f r 1))], [.inr 0], (zr τ 21 (zu (zu (τ 21) 10 e35) 7 0)))) rfl trivial ?_
                      refine exq_b (P := 0 ≤ 0) (ct := (cod m8_why 33, [some (.inl 21), some (.inr f), some (.inr r), some (.inr 1), some (.inr 1), some (.inr (hnt c f r 1))], [], (zr τ 21 (zu (zu (τ 21) 10 e35) 7 0)))) (cf := (cod m8_why 31, [some (.inl 21), some (.inr f), some (.inr r), some (.inr 1), some (.inr 1), some (.inr (hnt c f r 1))], [], (zr τ 21 (zu (zu (τ 21) 10 e35) 7 0)))) rfl ⟨by decide, by decide⟩ (fun _ => ?_) (fun hh => absurd (by decide) hh)
                      refine exq_k 1 (P := none) (g := (cod m8_why 34, [some (.inl 21), some (.inr f), some (.inr r), some (.inr 1), some (.inr 1), some (.inr (hnt c f r 1))], [.inr 1], (zr τ 21 (zu (zu (τ 21) 10 e35) 7 0)))) rfl trivial ?_
                      refine exq_b (P := 1 = 0) (ct := (cod m8_why 38, [some (.inl 21), some (.inr f), some (.inr r), some (.inr 1), some (.inr 1), some (.inr (hnt c f r 1))], [], (zr τ 21 (zu (zu (τ 21) 10 e35) 7 0)))) (cf := (cod m8_why 35, [some (.inl 21), some (.inr f), some (.inr r), some (.inr 1), some (.inr 1), some (.inr (hnt c f r 1))], [], (zr τ 21 (zu (zu (τ 21) 10 e35) 7 0)))) rfl ⟨by decide, by decide⟩ (fun hh => absurd hh (by decide)) (fun _ => ?_)
                      refine exq_k 3 (P := none) (g := (cod m8_why 39, [some (.inl 21), some (.inr f), some (.inr r), some (.inr 1), some (.inr 1), some (.inr (hnt c f r 1))], [.inr e35], (zr τ 21 (zu (zu (τ 21) 10 e35) 7 0)))) rfl trivial ?_
                      exact exq_r rfl trivial rfl (⟨_, rI2 (by (repeat (first | rw [if_pos (by omega)] | rw [if_neg (by omega)])); first | done | rfl | omega | exact (he35 (by omega)).symm) (tt_2 (by (repeat (first | rw [if_pos (by omega)] | rw [if_neg (by omega)])); first | done | rfl | omega))⟩))
                · first
                  | (exfalso; omega)
                  | (
                      refine exq_k 3 (P := none) (g := (cod m8_why 28, [some (.inl 21), some (.inr f), some (.inr r), some (.inr 1), some (.inr 1), some (.inr (hnt c f r 1))], [], (zr (zr τ 21 (zu (τ 21) 10 e35)) 21 (zu (zu (τ 21) 10 e35) 7 2)))) rfl trivial ?_
                      rw [zr_zr]
                      refine exq_k 2 (P := none) (g := (cod m8_why 30, [some (.inl 21), some (.inr f), some (.inr r), some (.inr 1), some (.inr 1), some (.inr (hnt c f r 1))], [.inr 2], (zr τ 21 (zu (zu (τ 21) 10 e35) 7 2)))) rfl trivial ?_
                      refine exq_b (P := 2 ≤ 0) (ct := (cod m8_why 33, [some (.inl 21), some (.inr f), some (.inr r), some (.inr 1), some (.inr 1), some (.inr (hnt c f r 1))], [], (zr τ 21 (zu (zu (τ 21) 10 e35) 7 2)))) (cf := (cod m8_why 31, [some (.inl 21), some (.inr f), some (.inr r), some (.inr 1), some (.inr 1), some (.inr (hnt c f r 1))], [], (zr τ 21 (zu (zu (τ 21) 10 e35) 7 2)))) rfl ⟨by decide, by decide⟩ (fun hh => absurd hh (by decide)) (fun _ => ?_)
                      refine exq_k 2 (P := none) (g := (cod m8_why 39, [some (.inl 21), some (.inr f), some (.inr r), some (.inr 1), some (.inr 1), some (.inr (hnt c f r 1))], [.inr 0], (zr τ 21 (zu (zu (τ 21) 10 e35) 7 2)))) rfl trivial ?_
                      exact exq_r rfl trivial rfl (⟨_, rI2 (by (repeat (first | rw [if_pos (by omega)] | rw [if_neg (by omega)])); first | done | rfl | omega | exact (id (by omega)).symm) (tt_2 (by (repeat (first | rw [if_pos (by omega)] | rw [if_neg (by omega)])); first | done | rfl | omega))⟩)))
          · first
            | (exfalso; have h2 := b2_nn0 h2; omega)
            | (
                have h2 := b2_nn0 h2
                refine exq_k 2 (P := none) (g := (cod m8_why 9, [some (.inl 21), some (.inr f), some (.inr r), some (.inr 1), some (.inr 1), none], [.inr 1, .inl 21], τ)) rfl trivial ?_
                refine exq_c (m_fails (τ := τ) (k := 1)) (is := cod m8_why 10) (L := [some (.inl 21), some (.inr f), some (.inr r), some (.inr 1), some (.inr 1), none]) (st := []) rfl rfl rfl ?_
                show Exq _ _ (cod m8_why 10, [some (.inl 21), some (.inr f), some (.inr r), some (.inr 1), some (.inr 1), none], [.inr 0], (zr τ 21 (zu (τ 21) 7 1))) _ _
                exact exq_r rfl trivial rfl (⟨_, rI2 (by (repeat (first | rw [if_pos (by omega)] | rw [if_neg (by omega)])); first | done | rfl | omega | exact (id (by omega)).symm) (tt_3 (by (repeat (first | rw [if_pos (by omega)] | rw [if_neg (by omega)])); first | done | rfl | omega))⟩)))
  obtain ⟨q, ⟨e, rfl⟩, h⟩ := q
  exact ⟨e, h⟩
theorem d_to_1 {f r : Int} {τ : SZ} {c : Nat → Int} {B : Int} (hI : Iv B c) (hR : Rs c (τ 22)) (hf : Rng f) (hr : Rng r) : ∃ e, RZ 7 m8_to [.inl 21, .inr f, .inr r, .inr 1] τ (.inl (some (.inr (if (0 ≤ f ∧ f < cel c 107) ∧ (0 ≤ r ∧ r < 2) then (if (ocn c f r 1 = 1 ∨ ocn c f r 1 = 2 ∨ ocn c f r 1 = 3) then gol c f r 1 else 0) else 0)), tt τ (if (0 ≤ f ∧ f < cel c 107) ∧ (0 ≤ r ∧ r < 2) then (if (ocn c f r 1 = 1 ∨ ocn c f r 1 = 2 ∨ ocn c f r 1 = 3) then 0 else 2) else 1) e)) := by
  have hS := hI.1
  have hC := hI.2.1
  have hN := hS.n
  obtain ⟨hf1, hf2⟩ := hf
  obtain ⟨hr1, hr2⟩ := hr
  have hh := hnt_in c f r 1
  have hm : (ocn c f r 1 = 1 ∨ ocn c f r 1 = 2 ∨ ocn c f r 1 = 3) → oco c f r 1 = ocn c f r 1 := fun h => by unfold ocn at h ⊢; split at h; rw [if_pos (by assumption)]; omega
  have hg : (ocn c f r 1 = 1 ∨ ocn c f r 1 = 2 ∨ ocn c f r 1 = 3) → gol c f r 1 = cel c (0 + f * 6 + (1 + r)) + (if oco c f r 1 = 1 then 1 else 2 * 1) := fun h => gol_k (by omega)
  have q : RZq 7 m8_to [.inl 21, .inr f, .inr r, .inr 1] τ (fun q => ∃ e, q = .inl (some (.inr (if (0 ≤ f ∧ f < cel c 107) ∧ (0 ≤ r ∧ r < 2) then (if (ocn c f r 1 = 1 ∨ ocn c f r 1 = 2 ∨ ocn c f r 1 = 3) then gol c f r 1 else 0) else 0)), tt τ (if (0 ≤ f ∧ f < cel c 107) ∧ (0 ≤ r ∧ r < 2) then (if (ocn c f r 1 = 1 ∨ ocn c f r 1 = 2 ∨ ocn c f r 1 = 3) then 0 else 2) else 1) e)) := by
    refine Exq.call ?_ rfl rfl
    show Exq _ _ (cod m8_to 0, [some (.inl 21), some (.inr f), some (.inr r), some (.inr 1), none], [], τ) _ _
    refine exq_k 1 (P := none) (g := (cod m8_to 1, [some (.inl 21), some (.inr f), some (.inr r), some (.inr 1), none], [.inr 1], τ)) rfl trivial ?_
    refine exq_b (P := 1 = 0) (ct := (cod m8_to 4, [some (.inl 21), some (.inr f), some (.inr r), some (.inr 1), none], [], τ)) (cf := (cod m8_to 2, [some (.inl 21), some (.inr f), some (.inr r), some (.inr 1), none], [], τ)) rfl ⟨by decide, by decide⟩ (fun hh => absurd hh (by decide)) (fun _ => ?_)
    refine exq_k 5 (P := none) (g := (cod m8_to 8, [some (.inl 21), some (.inr f), some (.inr r), some (.inr 1), some (.inr 1)], [.inr f, .inl 21], τ)) rfl trivial ?_
    refine exq_c (m_isFerry (τ := τ) (f := f) hI hR ⟨by omega, by omega⟩) (is := cod m8_to 9) (L := [some (.inl 21), some (.inr f), some (.inr r), some (.inr 1), some (.inr 1)]) (st := []) rfl rfl rfl ?_
    show Exq _ _ (cod m8_to 9, [some (.inl 21), some (.inr f), some (.inr r), some (.inr 1), some (.inr 1)], [.inr (b2 (0 ≤ f ∧ f < cel c 107))], τ) _ _
    refine exq_b (P := (b2 (0 ≤ f ∧ f < cel c 107)) = 0) (ct := (cod m8_to 13, [some (.inl 21), some (.inr f), some (.inr r), some (.inr 1), some (.inr 1)], [], τ)) (cf := (cod m8_to 10, [some (.inl 21), some (.inr f), some (.inr r), some (.inr 1), some (.inr 1)], [], τ)) rfl b2_rng (fun h2 => ?_) (fun h2 => ?_)
    · first
      | (exfalso; have h2 := b2_e0 h2; omega)
      | (
          have h2 := b2_e0 h2
          refine exq_k 2 (P := none) (g := (cod m8_to 15, [some (.inl 21), some (.inr f), some (.inr r), some (.inr 1), some (.inr 1)], [.inr 1, .inl 21], τ)) rfl trivial ?_
          refine exq_c (m_fails (τ := τ) (k := 1)) (is := cod m8_to 16) (L := [some (.inl 21), some (.inr f), some (.inr r), some (.inr 1), some (.inr 1)]) (st := []) rfl rfl rfl ?_
          show Exq _ _ (cod m8_to 16, [some (.inl 21), some (.inr f), some (.inr r), some (.inr 1), some (.inr 1)], [.inr 0], (zr τ 21 (zu (τ 21) 7 1))) _ _
          exact exq_r rfl trivial rfl (⟨_, rI2 (by (repeat (first | rw [if_pos (by omega)] | rw [if_neg (by omega)])); first | done | rfl | (rw [hg (by omega)]; (repeat (first | rw [if_pos (by omega)] | rw [if_neg (by omega)])); first | done | rfl | omega) | omega) (tt_3 (by (repeat (first | rw [if_pos (by omega)] | rw [if_neg (by omega)])); first | done | rfl | omega))⟩))
    · first
      | (exfalso; have h2 := b2_n0 h2; omega)
      | (
          have h2 := b2_n0 h2
          refine exq_k 1 (P := none) (g := (cod m8_to 11, [some (.inl 21), some (.inr f), some (.inr r), some (.inr 1), some (.inr 1)], [.inr r], τ)) rfl trivial ?_
          refine exq_c (m_isRiver (τ := τ) (v := r) ⟨by omega, by omega⟩) (is := cod m8_to 12) (L := [some (.inl 21), some (.inr f), some (.inr r), some (.inr 1), some (.inr 1)]) (st := []) rfl rfl rfl ?_
          show Exq _ _ (cod m8_to 12, [some (.inl 21), some (.inr f), some (.inr r), some (.inr 1), some (.inr 1)], [.inr (b2 (0 ≤ r ∧ r < 2))], τ) _ _
          refine exq_b (P := ¬ (b2 (0 ≤ r ∧ r < 2)) = 0) (ct := (cod m8_to 17, [some (.inl 21), some (.inr f), some (.inr r), some (.inr 1), some (.inr 1)], [], τ)) (cf := (cod m8_to 13, [some (.inl 21), some (.inr f), some (.inr r), some (.inr 1), some (.inr 1)], [], τ)) rfl b2_rng (fun h3 => ?_) (fun h3 => ?_)
          · first
            | (exfalso; have h3 := b2_n0 h3; omega)
            | (
                have h3 := b2_n0 h3
                refine exq_k 5 (P := none) (g := (cod m8_to 22, [some (.inl 21), some (.inr f), some (.inr r), some (.inr 1), some (.inr 1)], [.inr 1, .inr r, .inr f, .inl 21, .inl 21], τ)) rfl trivial ?_
                obtain ⟨e36, he36, hc36⟩ := m_hindersInTurn (τ := τ) (f := f) (r := r) (s := 1) hI hR (by omega) (by omega) (by omega)
                refine exq_c hc36 (is := cod m8_to 23) (L := [some (.inl 21), some (.inr f), some (.inr r), some (.inr 1), some (.inr 1)]) (st := [.inl 21]) rfl rfl rfl ?_
                show Exq _ _ (cod m8_to 23, [some (.inl 21), some (.inr f), some (.inr r), some (.inr 1), some (.inr 1)], [.inr (hnt c f r 1), .inl 21], (zr τ 21 (zu (τ 21) 10 e36))) _ _
                refine exq_b (P := (hnt c f r 1) ≤ 0) (ct := (cod m8_to 26, [some (.inl 21), some (.inr f), some (.inr r), some (.inr 1), some (.inr 1)], [.inl 21], (zr τ 21 (zu (τ 21) 10 e36)))) (cf := (cod m8_to 24, [some (.inl 21), some (.inr f), some (.inr r), some (.inr 1), some (.inr 1)], [.inl 21], (zr τ 21 (zu (τ 21) 10 e36)))) rfl ⟨by omega, by omega⟩ (fun h4 => ?_) (fun h4 => ?_)
                · first
                  | (exfalso; omega)
                  | (
                      refine exq_k 2 (P := none) (g := (cod m8_to 28, [some (.inl 21), some (.inr f), some (.inr r), some (.inr 1), some (.inr 1)], [], (zr (zr τ 21 (zu (τ 21) 10 e36)) 21 (zu (zu (τ 21) 10 e36) 7 0)))) rfl trivial ?_
                      rw [zr_zr]
                      refine exq_k 2 (P := none) (g := (cod m8_to 30, [some (.inl 21), some (.inr f), some (.inr r), some (.inr 1), some (.inr 1)], [.inr 0], (zr τ 21 (zu (zu (τ 21) 10 e36) 7 0)))) rfl trivial ?_
                      refine exq_b (P := 0 ≤ 0) (ct := (cod m8_to 33, [some (.inl 21), some (.inr f), some (.inr r), some (.inr 1), some (.inr 1)], [], (zr τ 21 (zu (zu (τ 21) 10 e36) 7 0)))) (cf := (cod m8_to 31, [some (.inl 21), some (.inr f), some (.inr r), some (.inr 1), some (.inr 1)], [], (zr τ 21 (zu (zu (τ 21) 10 e36) 7 0)))) rfl ⟨by decide, by decide⟩ (fun _ => ?_) (fun hh => absurd (by decide) hh)
                      refine exq_k 5 (P := none) (g := (cod m8_to 38, [some (.inl 21), some (.inr f), some (.inr r), some (.inr 1), some (.inr 1)], [.inr (1 + r), .inr f, .inl 21], (zr τ 21 (zu (zu (τ 21) 10 e36) 7 0)))) rfl trivial ?_
                      refine exq_c (m_of (τ := (zr τ 21 (zu (zu (τ 21) 10 e36) 7 0))) (f := f) (w := 1 + r) hI hR (by omega) (by omega)) (is := cod m8_to 39) (L := [some (.inl 21), some (.inr f), some (.inr r), some (.inr 1), some (.inr 1)]) (st := []) rfl rfl rfl ?_
                      show Exq _ _ (cod m8_to 39, [some (.inl 21), some (.inr f), some (.inr r), some (.inr 1), some (.inr 1)], [.inr (cel c (0 + f * 6 + (1 + r)))], (zr τ 21 (zu (zu (τ 21) 10 e36) 7 0))) _ _
                      refine exq_k 4 (P := none) (g := (cod m8_to 43, [some (.inl 21), some (.inr f), some (.inr r), some (.inr 1), some (.inr 1)], [.inr 1, .inr r, .inr f, .inl 21, .inr (cel c (0 + f * 6 + (1 + r)))], (zr τ 21 (zu (zu (τ 21) 10 e36) 7 0)))) rfl trivial ?_
                      refine exq_c (m_kind (τ := (zr τ 21 (zu (zu (τ 21) 10 e36) 7 0))) (f := f) (r := r) (s := 1) hI hR (by omega) (by omega) (show oco c f r 1 = 1 ∨ oco c f r 1 = 2 ∨ oco c f r 1 = 3 by omega)) (is := cod m8_to 44) (L := [some (.inl 21), some (.inr f), some (.inr r), some (.inr 1), some (.inr 1)]) (st := [.inr (cel c (0 + f * 6 + (1 + r)))]) rfl rfl rfl ?_
                      show Exq _ _ (cod m8_to 44, [some (.inl 21), some (.inr f), some (.inr r), some (.inr 1), some (.inr 1)], [.inr (oco c f r 1), .inr (cel c (0 + f * 6 + (1 + r)))], (zr τ 21 (zu (zu (τ 21) 10 e36) 7 0))) _ _
                      refine exq_k 1 (P := none) (g := (cod m8_to 45, [some (.inl 21), some (.inr f), some (.inr r), some (.inr 1), some (.inr 1)], [.inr 1, .inr (oco c f r 1), .inr (cel c (0 + f * 6 + (1 + r)))], (zr τ 21 (zu (zu (τ 21) 10 e36) 7 0)))) rfl trivial ?_
                      refine exq_b (P := ¬ (oco c f r 1) = 1) (ct := (cod m8_to 48, [some (.inl 21), some (.inr f), some (.inr r), some (.inr 1), some (.inr 1)], [.inr (cel c (0 + f * 6 + (1 + r)))], (zr τ 21 (zu (zu (τ 21) 10 e36) 7 0)))) (cf := (cod m8_to 46, [some (.inl 21), some (.inr f), some (.inr r), some (.inr 1), some (.inr 1)], [.inr (cel c (0 + f * 6 + (1 + r)))], (zr τ 21 (zu (zu (τ 21) 10 e36) 7 0)))) rfl ⟨⟨by omega, by omega⟩, ⟨by decide, by decide⟩⟩ (fun h6 => ?_) (fun h6 => ?_)
                      · first
                        | (exfalso; omega)
                        | (
                            refine exq_k 4 (P := none) (g := (cod m8_to 52, [some (.inl 21), some (.inr f), some (.inr r), some (.inr 1), some (.inr 1)], [.inr ((cel c (0 + f * 6 + (1 + r))) + 2)], (zr τ 21 (zu (zu (τ 21) 10 e36) 7 0)))) rfl trivial ?_
                            exact exq_r rfl trivial rfl (⟨_, rI2 (by (repeat (first | rw [if_pos (by omega)] | rw [if_neg (by omega)])); first | done | rfl | (rw [hg (by omega)]; (repeat (first | rw [if_pos (by omega)] | rw [if_neg (by omega)])); first | done | rfl | omega) | omega) (tt_2 (by (repeat (first | rw [if_pos (by omega)] | rw [if_neg (by omega)])); first | done | rfl | omega))⟩))
                      · first
                        | (exfalso; omega)
                        | (
                            refine exq_k 3 (P := none) (g := (cod m8_to 52, [some (.inl 21), some (.inr f), some (.inr r), some (.inr 1), some (.inr 1)], [.inr ((cel c (0 + f * 6 + (1 + r))) + 1)], (zr τ 21 (zu (zu (τ 21) 10 e36) 7 0)))) rfl trivial ?_
                            exact exq_r rfl trivial rfl (⟨_, rI2 (by (repeat (first | rw [if_pos (by omega)] | rw [if_neg (by omega)])); first | done | rfl | (rw [hg (by omega)]; (repeat (first | rw [if_pos (by omega)] | rw [if_neg (by omega)])); first | done | rfl | omega) | omega) (tt_2 (by (repeat (first | rw [if_pos (by omega)] | rw [if_neg (by omega)])); first | done | rfl | omega))⟩)))
                · first
                  | (exfalso; omega)
                  | (
                      refine exq_k 3 (P := none) (g := (cod m8_to 28, [some (.inl 21), some (.inr f), some (.inr r), some (.inr 1), some (.inr 1)], [], (zr (zr τ 21 (zu (τ 21) 10 e36)) 21 (zu (zu (τ 21) 10 e36) 7 2)))) rfl trivial ?_
                      rw [zr_zr]
                      refine exq_k 2 (P := none) (g := (cod m8_to 30, [some (.inl 21), some (.inr f), some (.inr r), some (.inr 1), some (.inr 1)], [.inr 2], (zr τ 21 (zu (zu (τ 21) 10 e36) 7 2)))) rfl trivial ?_
                      refine exq_b (P := 2 ≤ 0) (ct := (cod m8_to 33, [some (.inl 21), some (.inr f), some (.inr r), some (.inr 1), some (.inr 1)], [], (zr τ 21 (zu (zu (τ 21) 10 e36) 7 2)))) (cf := (cod m8_to 31, [some (.inl 21), some (.inr f), some (.inr r), some (.inr 1), some (.inr 1)], [], (zr τ 21 (zu (zu (τ 21) 10 e36) 7 2)))) rfl ⟨by decide, by decide⟩ (fun hh => absurd hh (by decide)) (fun _ => ?_)
                      refine exq_k 2 (P := none) (g := (cod m8_to 52, [some (.inl 21), some (.inr f), some (.inr r), some (.inr 1), some (.inr 1)], [.inr 0], (zr τ 21 (zu (zu (τ 21) 10 e36) 7 2)))) rfl trivial ?_
                      exact exq_r rfl trivial rfl (⟨_, rI2 (by (repeat (first | rw [if_pos (by omega)] | rw [if_neg (by omega)])); first | done | rfl | (rw [hg (by omega)]; (repeat (first | rw [if_pos (by omega)] | rw [if_neg (by omega)])); first | done | rfl | omega) | omega) (tt_2 (by (repeat (first | rw [if_pos (by omega)] | rw [if_neg (by omega)])); first | done | rfl | omega))⟩)))
          · first
            | (exfalso; have h3 := b2_nn0 h3; omega)
            | (
                have h3 := b2_nn0 h3
                refine exq_k 2 (P := none) (g := (cod m8_to 15, [some (.inl 21), some (.inr f), some (.inr r), some (.inr 1), some (.inr 1)], [.inr 1, .inl 21], τ)) rfl trivial ?_
                refine exq_c (m_fails (τ := τ) (k := 1)) (is := cod m8_to 16) (L := [some (.inl 21), some (.inr f), some (.inr r), some (.inr 1), some (.inr 1)]) (st := []) rfl rfl rfl ?_
                show Exq _ _ (cod m8_to 16, [some (.inl 21), some (.inr f), some (.inr r), some (.inr 1), some (.inr 1)], [.inr 0], (zr τ 21 (zu (τ 21) 7 1))) _ _
                exact exq_r rfl trivial rfl (⟨_, rI2 (by (repeat (first | rw [if_pos (by omega)] | rw [if_neg (by omega)])); first | done | rfl | (rw [hg (by omega)]; (repeat (first | rw [if_pos (by omega)] | rw [if_neg (by omega)])); first | done | rfl | omega) | omega) (tt_3 (by (repeat (first | rw [if_pos (by omega)] | rw [if_neg (by omega)])); first | done | rfl | omega))⟩)))
  obtain ⟨q, ⟨e, rfl⟩, h⟩ := q
  exact ⟨e, h⟩
theorem d_moves_0 {x : Int} {τ : SZ} {c : Nat → Int} {B : Int} (hI : Iv B c) (hR : Rs c (τ 22)) (hx : Rng x) : ∃ e, RZ 8 m8_moves [.inl 21, .inr x, .inr 0] τ (.inl (some (.inr (if 0 ≤ x ∧ x < 2 then mbf c x (cel c 107).toNat else 0)), tt τ (if 0 ≤ x ∧ x < 2 then 0 else 1) e)) := by
  have hS := hI.1
  have hC := hI.2.1
  have hN := hS.n
  obtain ⟨hx1, hx2⟩ := hx
  have q : RZq 8 m8_moves [.inl 21, .inr x, .inr 0] τ (fun q => ∃ e, q = .inl (some (.inr (if 0 ≤ x ∧ x < 2 then mbf c x (cel c 107).toNat else 0)), tt τ (if 0 ≤ x ∧ x < 2 then 0 else 1) e)) := by
    refine Exq.call ?_ rfl rfl
    show Exq _ _ (cod m8_moves 0, [some (.inl 21), some (.inr x), some (.inr 0)], [], τ) _ _
    refine exq_k 2 (P := none) (g := (cod m8_moves 2, [some (.inl 21), some (.inr x), some (.inr 0)], [.inr x, .inl 21], τ)) rfl trivial ?_
    refine exq_c (m_isRiver (τ := τ) (v := x) ⟨by omega, by omega⟩) (is := cod m8_moves 3) (L := [some (.inl 21), some (.inr x), some (.inr 0)]) (st := [.inl 21]) rfl rfl rfl ?_
    show Exq _ _ (cod m8_moves 3, [some (.inl 21), some (.inr x), some (.inr 0)], [.inr (b2 (0 ≤ x ∧ x < 2)), .inl 21], τ) _ _
    refine exq_b (P := (b2 (0 ≤ x ∧ x < 2)) = 0) (ct := (cod m8_moves 6, [some (.inl 21), some (.inr x), some (.inr 0)], [.inl 21], τ)) (cf := (cod m8_moves 4, [some (.inl 21), some (.inr x), some (.inr 0)], [.inl 21], τ)) rfl b2_rng (fun h1 => ?_) (fun h1 => ?_)
    · first
      | (exfalso; have h1 := b2_e0 h1; omega)
      | (
          have h1 := b2_e0 h1
          refine exq_k 2 (P := none) (g := (cod m8_moves 8, [some (.inl 21), some (.inr x), some (.inr 0)], [], (zr τ 21 (zu (τ 21) 7 1)))) rfl trivial ?_
          refine exq_k 2 (P := none) (g := (cod m8_moves 10, [some (.inl 21), some (.inr x), some (.inr 0)], [.inr 1], (zr τ 21 (zu (τ 21) 7 1)))) rfl trivial ?_
          refine exq_b (P := 1 ≤ 0) (ct := (cod m8_moves 13, [some (.inl 21), some (.inr x), some (.inr 0)], [], (zr τ 21 (zu (τ 21) 7 1)))) (cf := (cod m8_moves 11, [some (.inl 21), some (.inr x), some (.inr 0)], [], (zr τ 21 (zu (τ 21) 7 1)))) rfl ⟨by decide, by decide⟩ (fun hh => absurd hh (by decide)) (fun _ => ?_)
          refine exq_k 2 (P := none) (g := (cod m8_moves 17, [some (.inl 21), some (.inr x), some (.inr 0)], [.inr 0], (zr τ 21 (zu (τ 21) 7 1)))) rfl trivial ?_
          exact exq_r rfl trivial rfl (⟨_, rI2 (by (repeat (first | rw [if_pos (by omega)] | rw [if_neg (by omega)])); first | done | rfl | omega) (tt_3 (by (repeat (first | rw [if_pos (by omega)] | rw [if_neg (by omega)])); first | done | rfl | omega))⟩))
    · first
      | (exfalso; have h1 := b2_n0 h1; omega)
      | (
          have h1 := b2_n0 h1
          refine exq_k 3 (P := none) (g := (cod m8_moves 8, [some (.inl 21), some (.inr x), some (.inr 0)], [], (zr τ 21 (zu (τ 21) 7 0)))) rfl trivial ?_
          refine exq_k 2 (P := none) (g := (cod m8_moves 10, [some (.inl 21), some (.inr x), some (.inr 0)], [.inr 0], (zr τ 21 (zu (τ 21) 7 0)))) rfl trivial ?_
          refine exq_b (P := 0 ≤ 0) (ct := (cod m8_moves 13, [some (.inl 21), some (.inr x), some (.inr 0)], [], (zr τ 21 (zu (τ 21) 7 0)))) (cf := (cod m8_moves 11, [some (.inl 21), some (.inr x), some (.inr 0)], [], (zr τ 21 (zu (τ 21) 7 0)))) rfl ⟨by decide, by decide⟩ (fun _ => ?_) (fun hh => absurd (by decide) hh)
          refine exq_k 3 (P := none) (g := (cod m8_moves 16, [some (.inl 21), some (.inr x), some (.inr 0)], [.inr 0, .inr x, .inl 21], (zr τ 21 (zu (τ 21) 7 0)))) rfl trivial ?_
          obtain ⟨e37, hc37⟩ := m_allMoves_0 (τ := (zr τ 21 (zu (τ 21) 7 0))) (x := x) hI hR (by omega)
          refine exq_c hc37 (is := cod m8_moves 17) (L := [some (.inl 21), some (.inr x), some (.inr 0)]) (st := []) rfl rfl rfl ?_
          show Exq _ _ (cod m8_moves 17, [some (.inl 21), some (.inr x), some (.inr 0)], [.inr (mbf c x (cel c 107).toNat)], (zr (zr τ 21 (zu (τ 21) 7 0)) 21 (zu (zu (τ 21) 7 0) 10 e37))) _ _
          rw [zr_zr]
          exact exq_r rfl trivial rfl (⟨_, rI2 (by (repeat (first | rw [if_pos (by omega)] | rw [if_neg (by omega)])); first | done | rfl | omega) (tt_1 (by (repeat (first | rw [if_pos (by omega)] | rw [if_neg (by omega)])); first | done | rfl | omega)).symm.symm⟩))
  obtain ⟨q, ⟨e, rfl⟩, h⟩ := q
  exact ⟨e, h⟩
theorem d_captures_0 {x : Int} {τ : SZ} {c : Nat → Int} {B : Int} (hI : Iv B c) (hR : Rs c (τ 22)) (hx : Rng x) : ∃ e, RZ 8 m8_captures [.inl 21, .inr x, .inr 0] τ (.inl (some (.inr (if 0 ≤ x ∧ x < 2 then cbj c x (cel c 107).toNat else 0)), tt τ (if 0 ≤ x ∧ x < 2 then 0 else 1) e)) := by
  have hS := hI.1
  have hC := hI.2.1
  have hN := hS.n
  obtain ⟨hx1, hx2⟩ := hx
  have q : RZq 8 m8_captures [.inl 21, .inr x, .inr 0] τ (fun q => ∃ e, q = .inl (some (.inr (if 0 ≤ x ∧ x < 2 then cbj c x (cel c 107).toNat else 0)), tt τ (if 0 ≤ x ∧ x < 2 then 0 else 1) e)) := by
    refine Exq.call ?_ rfl rfl
    show Exq _ _ (cod m8_captures 0, [some (.inl 21), some (.inr x), some (.inr 0)], [], τ) _ _
    refine exq_k 2 (P := none) (g := (cod m8_captures 2, [some (.inl 21), some (.inr x), some (.inr 0)], [.inr x, .inl 21], τ)) rfl trivial ?_
    refine exq_c (m_isRiver (τ := τ) (v := x) ⟨by omega, by omega⟩) (is := cod m8_captures 3) (L := [some (.inl 21), some (.inr x), some (.inr 0)]) (st := [.inl 21]) rfl rfl rfl ?_
    show Exq _ _ (cod m8_captures 3, [some (.inl 21), some (.inr x), some (.inr 0)], [.inr (b2 (0 ≤ x ∧ x < 2)), .inl 21], τ) _ _
    refine exq_b (P := (b2 (0 ≤ x ∧ x < 2)) = 0) (ct := (cod m8_captures 6, [some (.inl 21), some (.inr x), some (.inr 0)], [.inl 21], τ)) (cf := (cod m8_captures 4, [some (.inl 21), some (.inr x), some (.inr 0)], [.inl 21], τ)) rfl b2_rng (fun h1 => ?_) (fun h1 => ?_)
    · first
      | (exfalso; have h1 := b2_e0 h1; omega)
      | (
          have h1 := b2_e0 h1
          refine exq_k 2 (P := none) (g := (cod m8_captures 8, [some (.inl 21), some (.inr x), some (.inr 0)], [], (zr τ 21 (zu (τ 21) 7 1)))) rfl trivial ?_
          refine exq_k 2 (P := none) (g := (cod m8_captures 10, [some (.inl 21), some (.inr x), some (.inr 0)], [.inr 1], (zr τ 21 (zu (τ 21) 7 1)))) rfl trivial ?_
          refine exq_b (P := 1 ≤ 0) (ct := (cod m8_captures 13, [some (.inl 21), some (.inr x), some (.inr 0)], [], (zr τ 21 (zu (τ 21) 7 1)))) (cf := (cod m8_captures 11, [some (.inl 21), some (.inr x), some (.inr 0)], [], (zr τ 21 (zu (τ 21) 7 1)))) rfl ⟨by decide, by decide⟩ (fun hh => absurd hh (by decide)) (fun _ => ?_)
          refine exq_k 2 (P := none) (g := (cod m8_captures 17, [some (.inl 21), some (.inr x), some (.inr 0)], [.inr 0], (zr τ 21 (zu (τ 21) 7 1)))) rfl trivial ?_
          exact exq_r rfl trivial rfl (⟨_, rI2 (by (repeat (first | rw [if_pos (by omega)] | rw [if_neg (by omega)])); first | done | rfl | omega) (tt_3 (by (repeat (first | rw [if_pos (by omega)] | rw [if_neg (by omega)])); first | done | rfl | omega))⟩))
    · first
      | (exfalso; have h1 := b2_n0 h1; omega)
      | (
          have h1 := b2_n0 h1
          refine exq_k 3 (P := none) (g := (cod m8_captures 8, [some (.inl 21), some (.inr x), some (.inr 0)], [], (zr τ 21 (zu (τ 21) 7 0)))) rfl trivial ?_
          refine exq_k 2 (P := none) (g := (cod m8_captures 10, [some (.inl 21), some (.inr x), some (.inr 0)], [.inr 0], (zr τ 21 (zu (τ 21) 7 0)))) rfl trivial ?_
          refine exq_b (P := 0 ≤ 0) (ct := (cod m8_captures 13, [some (.inl 21), some (.inr x), some (.inr 0)], [], (zr τ 21 (zu (τ 21) 7 0)))) (cf := (cod m8_captures 11, [some (.inl 21), some (.inr x), some (.inr 0)], [], (zr τ 21 (zu (τ 21) 7 0)))) rfl ⟨by decide, by decide⟩ (fun _ => ?_) (fun hh => absurd (by decide) hh)
          refine exq_k 3 (P := none) (g := (cod m8_captures 16, [some (.inl 21), some (.inr x), some (.inr 0)], [.inr 1, .inr x, .inl 21], (zr τ 21 (zu (τ 21) 7 0)))) rfl trivial ?_
          obtain ⟨e38, hc38⟩ := m_allMoves_1 (τ := (zr τ 21 (zu (τ 21) 7 0))) (x := x) hI hR (by omega)
          refine exq_c hc38 (is := cod m8_captures 17) (L := [some (.inl 21), some (.inr x), some (.inr 0)]) (st := []) rfl rfl rfl ?_
          show Exq _ _ (cod m8_captures 17, [some (.inl 21), some (.inr x), some (.inr 0)], [.inr (cbj c x (cel c 107).toNat)], (zr (zr τ 21 (zu (τ 21) 7 0)) 21 (zu (zu (τ 21) 7 0) 10 e38))) _ _
          rw [zr_zr]
          exact exq_r rfl trivial rfl (⟨_, rI2 (by (repeat (first | rw [if_pos (by omega)] | rw [if_neg (by omega)])); first | done | rfl | omega) (tt_1 (by (repeat (first | rw [if_pos (by omega)] | rw [if_neg (by omega)])); first | done | rfl | omega)).symm.symm⟩))
  obtain ⟨q, ⟨e, rfl⟩, h⟩ := q
  exact ⟨e, h⟩
theorem d_moves_1 {x : Int} {τ : SZ} {c : Nat → Int} {B : Int} (hI : Iv B c) (hR : Rs c (τ 22)) (hx : Rng x) : ∃ e, RZ 8 m8_moves [.inl 21, .inr x, .inr 1] τ (.inl (some (.inr (if 0 ≤ x ∧ x < 2 then mbf c x (cel c 107).toNat else 0)), tt τ (if 0 ≤ x ∧ x < 2 then 0 else 1) e)) := by
  have hS := hI.1
  have hC := hI.2.1
  have hN := hS.n
  obtain ⟨hx1, hx2⟩ := hx
  have q : RZq 8 m8_moves [.inl 21, .inr x, .inr 1] τ (fun q => ∃ e, q = .inl (some (.inr (if 0 ≤ x ∧ x < 2 then mbf c x (cel c 107).toNat else 0)), tt τ (if 0 ≤ x ∧ x < 2 then 0 else 1) e)) := by
    refine Exq.call ?_ rfl rfl
    show Exq _ _ (cod m8_moves 0, [some (.inl 21), some (.inr x), some (.inr 1)], [], τ) _ _
    refine exq_k 2 (P := none) (g := (cod m8_moves 2, [some (.inl 21), some (.inr x), some (.inr 1)], [.inr x, .inl 21], τ)) rfl trivial ?_
    refine exq_c (m_isRiver (τ := τ) (v := x) ⟨by omega, by omega⟩) (is := cod m8_moves 3) (L := [some (.inl 21), some (.inr x), some (.inr 1)]) (st := [.inl 21]) rfl rfl rfl ?_
    show Exq _ _ (cod m8_moves 3, [some (.inl 21), some (.inr x), some (.inr 1)], [.inr (b2 (0 ≤ x ∧ x < 2)), .inl 21], τ) _ _
    refine exq_b (P := (b2 (0 ≤ x ∧ x < 2)) = 0) (ct := (cod m8_moves 6, [some (.inl 21), some (.inr x), some (.inr 1)], [.inl 21], τ)) (cf := (cod m8_moves 4, [some (.inl 21), some (.inr x), some (.inr 1)], [.inl 21], τ)) rfl b2_rng (fun h1 => ?_) (fun h1 => ?_)
    · first
      | (exfalso; have h1 := b2_e0 h1; omega)
      | (
          have h1 := b2_e0 h1
          refine exq_k 2 (P := none) (g := (cod m8_moves 8, [some (.inl 21), some (.inr x), some (.inr 1)], [], (zr τ 21 (zu (τ 21) 7 1)))) rfl trivial ?_
          refine exq_k 2 (P := none) (g := (cod m8_moves 10, [some (.inl 21), some (.inr x), some (.inr 1)], [.inr 1], (zr τ 21 (zu (τ 21) 7 1)))) rfl trivial ?_
          refine exq_b (P := 1 ≤ 0) (ct := (cod m8_moves 13, [some (.inl 21), some (.inr x), some (.inr 1)], [], (zr τ 21 (zu (τ 21) 7 1)))) (cf := (cod m8_moves 11, [some (.inl 21), some (.inr x), some (.inr 1)], [], (zr τ 21 (zu (τ 21) 7 1)))) rfl ⟨by decide, by decide⟩ (fun hh => absurd hh (by decide)) (fun _ => ?_)
          refine exq_k 2 (P := none) (g := (cod m8_moves 17, [some (.inl 21), some (.inr x), some (.inr 1)], [.inr 0], (zr τ 21 (zu (τ 21) 7 1)))) rfl trivial ?_
          exact exq_r rfl trivial rfl (⟨_, rI2 (by (repeat (first | rw [if_pos (by omega)] | rw [if_neg (by omega)])); first | done | rfl | omega) (tt_3 (by (repeat (first | rw [if_pos (by omega)] | rw [if_neg (by omega)])); first | done | rfl | omega))⟩))
    · first
      | (exfalso; have h1 := b2_n0 h1; omega)
      | (
          have h1 := b2_n0 h1
          refine exq_k 3 (P := none) (g := (cod m8_moves 8, [some (.inl 21), some (.inr x), some (.inr 1)], [], (zr τ 21 (zu (τ 21) 7 0)))) rfl trivial ?_
          refine exq_k 2 (P := none) (g := (cod m8_moves 10, [some (.inl 21), some (.inr x), some (.inr 1)], [.inr 0], (zr τ 21 (zu (τ 21) 7 0)))) rfl trivial ?_
          refine exq_b (P := 0 ≤ 0) (ct := (cod m8_moves 13, [some (.inl 21), some (.inr x), some (.inr 1)], [], (zr τ 21 (zu (τ 21) 7 0)))) (cf := (cod m8_moves 11, [some (.inl 21), some (.inr x), some (.inr 1)], [], (zr τ 21 (zu (τ 21) 7 0)))) rfl ⟨by decide, by decide⟩ (fun _ => ?_) (fun hh => absurd (by decide) hh)
          refine exq_k 3 (P := none) (g := (cod m8_moves 16, [some (.inl 21), some (.inr x), some (.inr 1)], [.inr 0, .inr x, .inl 21], (zr τ 21 (zu (τ 21) 7 0)))) rfl trivial ?_
          obtain ⟨e39, hc39⟩ := m_allMoves_0 (τ := (zr τ 21 (zu (τ 21) 7 0))) (x := x) hI hR (by omega)
          refine exq_c hc39 (is := cod m8_moves 17) (L := [some (.inl 21), some (.inr x), some (.inr 1)]) (st := []) rfl rfl rfl ?_
          show Exq _ _ (cod m8_moves 17, [some (.inl 21), some (.inr x), some (.inr 1)], [.inr (mbf c x (cel c 107).toNat)], (zr (zr τ 21 (zu (τ 21) 7 0)) 21 (zu (zu (τ 21) 7 0) 10 e39))) _ _
          rw [zr_zr]
          exact exq_r rfl trivial rfl (⟨_, rI2 (by (repeat (first | rw [if_pos (by omega)] | rw [if_neg (by omega)])); first | done | rfl | omega) (tt_1 (by (repeat (first | rw [if_pos (by omega)] | rw [if_neg (by omega)])); first | done | rfl | omega)).symm.symm⟩))
  obtain ⟨q, ⟨e, rfl⟩, h⟩ := q
  exact ⟨e, h⟩
theorem d_captures_1 {x : Int} {τ : SZ} {c : Nat → Int} {B : Int} (hI : Iv B c) (hR : Rs c (τ 22)) (hx : Rng x) : ∃ e, RZ 8 m8_captures [.inl 21, .inr x, .inr 1] τ (.inl (some (.inr (if 0 ≤ x ∧ x < 2 then cbj c x (cel c 107).toNat else 0)), tt τ (if 0 ≤ x ∧ x < 2 then 0 else 1) e)) := by
  have hS := hI.1
  have hC := hI.2.1
  have hN := hS.n
  obtain ⟨hx1, hx2⟩ := hx
  have q : RZq 8 m8_captures [.inl 21, .inr x, .inr 1] τ (fun q => ∃ e, q = .inl (some (.inr (if 0 ≤ x ∧ x < 2 then cbj c x (cel c 107).toNat else 0)), tt τ (if 0 ≤ x ∧ x < 2 then 0 else 1) e)) := by
    refine Exq.call ?_ rfl rfl
    show Exq _ _ (cod m8_captures 0, [some (.inl 21), some (.inr x), some (.inr 1)], [], τ) _ _
    refine exq_k 2 (P := none) (g := (cod m8_captures 2, [some (.inl 21), some (.inr x), some (.inr 1)], [.inr x, .inl 21], τ)) rfl trivial ?_
    refine exq_c (m_isRiver (τ := τ) (v := x) ⟨by omega, by omega⟩) (is := cod m8_captures 3) (L := [some (.inl 21), some (.inr x), some (.inr 1)]) (st := [.inl 21]) rfl rfl rfl ?_
    show Exq _ _ (cod m8_captures 3, [some (.inl 21), some (.inr x), some (.inr 1)], [.inr (b2 (0 ≤ x ∧ x < 2)), .inl 21], τ) _ _
    refine exq_b (P := (b2 (0 ≤ x ∧ x < 2)) = 0) (ct := (cod m8_captures 6, [some (.inl 21), some (.inr x), some (.inr 1)], [.inl 21], τ)) (cf := (cod m8_captures 4, [some (.inl 21), some (.inr x), some (.inr 1)], [.inl 21], τ)) rfl b2_rng (fun h1 => ?_) (fun h1 => ?_)
    · first
      | (exfalso; have h1 := b2_e0 h1; omega)
      | (
          have h1 := b2_e0 h1
          refine exq_k 2 (P := none) (g := (cod m8_captures 8, [some (.inl 21), some (.inr x), some (.inr 1)], [], (zr τ 21 (zu (τ 21) 7 1)))) rfl trivial ?_
          refine exq_k 2 (P := none) (g := (cod m8_captures 10, [some (.inl 21), some (.inr x), some (.inr 1)], [.inr 1], (zr τ 21 (zu (τ 21) 7 1)))) rfl trivial ?_
          refine exq_b (P := 1 ≤ 0) (ct := (cod m8_captures 13, [some (.inl 21), some (.inr x), some (.inr 1)], [], (zr τ 21 (zu (τ 21) 7 1)))) (cf := (cod m8_captures 11, [some (.inl 21), some (.inr x), some (.inr 1)], [], (zr τ 21 (zu (τ 21) 7 1)))) rfl ⟨by decide, by decide⟩ (fun hh => absurd hh (by decide)) (fun _ => ?_)
          refine exq_k 2 (P := none) (g := (cod m8_captures 17, [some (.inl 21), some (.inr x), some (.inr 1)], [.inr 0], (zr τ 21 (zu (τ 21) 7 1)))) rfl trivial ?_
          exact exq_r rfl trivial rfl (⟨_, rI2 (by (repeat (first | rw [if_pos (by omega)] | rw [if_neg (by omega)])); first | done | rfl | omega) (tt_3 (by (repeat (first | rw [if_pos (by omega)] | rw [if_neg (by omega)])); first | done | rfl | omega))⟩))
    · first
      | (exfalso; have h1 := b2_n0 h1; omega)
      | (
          have h1 := b2_n0 h1
          refine exq_k 3 (P := none) (g := (cod m8_captures 8, [some (.inl 21), some (.inr x), some (.inr 1)], [], (zr τ 21 (zu (τ 21) 7 0)))) rfl trivial ?_
          refine exq_k 2 (P := none) (g := (cod m8_captures 10, [some (.inl 21), some (.inr x), some (.inr 1)], [.inr 0], (zr τ 21 (zu (τ 21) 7 0)))) rfl trivial ?_
          refine exq_b (P := 0 ≤ 0) (ct := (cod m8_captures 13, [some (.inl 21), some (.inr x), some (.inr 1)], [], (zr τ 21 (zu (τ 21) 7 0)))) (cf := (cod m8_captures 11, [some (.inl 21), some (.inr x), some (.inr 1)], [], (zr τ 21 (zu (τ 21) 7 0)))) rfl ⟨by decide, by decide⟩ (fun _ => ?_) (fun hh => absurd (by decide) hh)
          refine exq_k 3 (P := none) (g := (cod m8_captures 16, [some (.inl 21), some (.inr x), some (.inr 1)], [.inr 1, .inr x, .inl 21], (zr τ 21 (zu (τ 21) 7 0)))) rfl trivial ?_
          obtain ⟨e40, hc40⟩ := m_allMoves_1 (τ := (zr τ 21 (zu (τ 21) 7 0))) (x := x) hI hR (by omega)
          refine exq_c hc40 (is := cod m8_captures 17) (L := [some (.inl 21), some (.inr x), some (.inr 1)]) (st := []) rfl rfl rfl ?_
          show Exq _ _ (cod m8_captures 17, [some (.inl 21), some (.inr x), some (.inr 1)], [.inr (cbj c x (cel c 107).toNat)], (zr (zr τ 21 (zu (τ 21) 7 0)) 21 (zu (zu (τ 21) 7 0) 10 e40))) _ _
          rw [zr_zr]
          exact exq_r rfl trivial rfl (⟨_, rI2 (by (repeat (first | rw [if_pos (by omega)] | rw [if_neg (by omega)])); first | done | rfl | omega) (tt_1 (by (repeat (first | rw [if_pos (by omega)] | rw [if_neg (by omega)])); first | done | rfl | omega)).symm.symm⟩))
  obtain ⟨q, ⟨e, rfl⟩, h⟩ := q
  exact ⟨e, h⟩
theorem d_refusal_0 {z : Int} {τ : SZ} (hz : Rng z) (h27 : ∀ i, -1000 ≤ τ 27 i ∧ τ 27 i ≤ 1000) : ∃ e, RZ 3 m8_refusal [.inl 21, .inr z, .inr 0] τ (.inl (some (.inr (if z < 0 ∨ 2 < z ∨ τ 27 (2 * z).toNat = 0 then 0 else τ 27 (2 * z + 0).toNat)), tt τ (if z < 0 then 1 else if 2 < z ∨ τ 27 (2 * z).toNat = 0 then 2 else 0) e)) := by
  obtain ⟨hz1, hz2⟩ := hz
  have hz27 := h27 (2 * z).toNat
  have q : RZq 3 m8_refusal [.inl 21, .inr z, .inr 0] τ (fun q => ∃ e, q = .inl (some (.inr (if z < 0 ∨ 2 < z ∨ τ 27 (2 * z).toNat = 0 then 0 else τ 27 (2 * z + 0).toNat)), tt τ (if z < 0 then 1 else if 2 < z ∨ τ 27 (2 * z).toNat = 0 then 2 else 0) e)) := by
    refine Exq.call ?_ rfl rfl
    show Exq _ _ (cod m8_refusal 0, [some (.inl 21), some (.inr z), some (.inr 0)], [], τ) _ _
    refine exq_k 2 (P := none) (g := (cod m8_refusal 2, [some (.inl 21), some (.inr z), some (.inr 0)], [.inr z, .inl 21], τ)) rfl trivial ?_
    refine exq_b (P := 0 ≤ z) (ct := (cod m8_refusal 5, [some (.inl 21), some (.inr z), some (.inr 0)], [.inl 21], τ)) (cf := (cod m8_refusal 3, [some (.inl 21), some (.inr z), some (.inr 0)], [.inl 21], τ)) rfl ⟨by omega, by omega⟩ (fun h1 => ?_) (fun h1 => ?_)
    · first
      | (exfalso; omega)
      | (
          refine exq_k 2 (P := none) (g := (cod m8_refusal 7, [some (.inl 21), some (.inr z), some (.inr 0)], [.inr 2, .inr z, .inl 21], τ)) rfl trivial ?_
          refine exq_b (P := 2 < z) (ct := (cod m8_refusal 15, [some (.inl 21), some (.inr z), some (.inr 0)], [.inl 21], τ)) (cf := (cod m8_refusal 8, [some (.inl 21), some (.inr z), some (.inr 0)], [.inl 21], τ)) rfl ⟨⟨by omega, by omega⟩, ⟨by decide, by decide⟩⟩ (fun h2 => ?_) (fun h2 => ?_)
          · first
            | (exfalso; omega)
            | (
                refine exq_k 3 (P := none) (g := (cod m8_refusal 19, [some (.inl 21), some (.inr z), some (.inr 0)], [], (zr τ 21 (zu (τ 21) 7 2)))) rfl trivial ?_
                refine exq_k 2 (P := none) (g := (cod m8_refusal 21, [some (.inl 21), some (.inr z), some (.inr 0)], [.inr 2], (zr τ 21 (zu (τ 21) 7 2)))) rfl trivial ?_
                refine exq_b (P := 2 ≤ 0) (ct := (cod m8_refusal 24, [some (.inl 21), some (.inr z), some (.inr 0)], [], (zr τ 21 (zu (τ 21) 7 2)))) (cf := (cod m8_refusal 22, [some (.inl 21), some (.inr z), some (.inr 0)], [], (zr τ 21 (zu (τ 21) 7 2)))) rfl ⟨by decide, by decide⟩ (fun hh => absurd hh (by decide)) (fun _ => ?_)
                refine exq_k 2 (P := none) (g := (cod m8_refusal 36, [some (.inl 21), some (.inr z), some (.inr 0)], [.inr 0], (zr τ 21 (zu (τ 21) 7 2)))) rfl trivial ?_
                exact exq_r rfl trivial rfl (⟨_, rI2 (by (repeat (first | rw [if_pos (by omega)] | rw [if_neg (by omega)])); first | done | rfl | omega) (tt_3 (by (repeat (first | rw [if_pos (by omega)] | rw [if_neg (by omega)])); first | done | rfl | omega))⟩))
          · first
            | (exfalso; omega)
            | (
                refine exq_k 6 (P := some (0 ≤ (2 * z) ∧ (2 * z) < ((6 : Nat) : Int))) (g := (cod m8_refusal 14, [some (.inl 21), some (.inr z), some (.inr 0)], [.inr ((τ 27) (2 * z).toNat), .inl 21], τ)) rfl (by show 0 ≤ (2 * z) ∧ (2 * z) < ((6 : Nat) : Int); omega) ?_
                refine exq_b (P := ¬ ((τ 27) (2 * z).toNat) = 0) (ct := (cod m8_refusal 17, [some (.inl 21), some (.inr z), some (.inr 0)], [.inl 21], τ)) (cf := (cod m8_refusal 15, [some (.inl 21), some (.inr z), some (.inr 0)], [.inl 21], τ)) rfl ⟨by omega, by omega⟩ (fun h4 => ?_) (fun h4 => ?_)
                · first
                  | (exfalso; omega)
                  | (
                      refine exq_k 2 (P := none) (g := (cod m8_refusal 19, [some (.inl 21), some (.inr z), some (.inr 0)], [], (zr τ 21 (zu (τ 21) 7 0)))) rfl trivial ?_
                      refine exq_k 2 (P := none) (g := (cod m8_refusal 21, [some (.inl 21), some (.inr z), some (.inr 0)], [.inr 0], (zr τ 21 (zu (τ 21) 7 0)))) rfl trivial ?_
                      refine exq_b (P := 0 ≤ 0) (ct := (cod m8_refusal 24, [some (.inl 21), some (.inr z), some (.inr 0)], [], (zr τ 21 (zu (τ 21) 7 0)))) (cf := (cod m8_refusal 22, [some (.inl 21), some (.inr z), some (.inr 0)], [], (zr τ 21 (zu (τ 21) 7 0)))) rfl ⟨by decide, by decide⟩ (fun _ => ?_) (fun hh => absurd (by decide) hh)
                      refine exq_k 6 (P := none) (g := (cod m8_refusal 30, [some (.inl 21), some (.inr z), some (.inr 0)], [.inr 0, .inr (2 * z), .inl 27], (zr τ 21 (zu (τ 21) 7 0)))) rfl trivial ?_
                      refine exq_b (P := 0 = 0) (ct := (cod m8_refusal 33, [some (.inl 21), some (.inr z), some (.inr 0)], [.inr (2 * z), .inl 27], (zr τ 21 (zu (τ 21) 7 0)))) (cf := (cod m8_refusal 31, [some (.inl 21), some (.inr z), some (.inr 0)], [.inr (2 * z), .inl 27], (zr τ 21 (zu (τ 21) 7 0)))) rfl ⟨by decide, by decide⟩ (fun _ => ?_) (fun hh => absurd (by decide) hh)
                      refine exq_k 3 (P := some (0 ≤ ((2 * z) + 0) ∧ ((2 * z) + 0) < ((6 : Nat) : Int))) (g := (cod m8_refusal 36, [some (.inl 21), some (.inr z), some (.inr 0)], [.inr ((τ 27) ((2 * z) + 0).toNat)], (zr τ 21 (zu (τ 21) 7 0)))) rfl (by show 0 ≤ ((2 * z) + 0) ∧ ((2 * z) + 0) < ((6 : Nat) : Int); omega) ?_
                      exact exq_r rfl trivial rfl (⟨_, rI2 (by (repeat (first | rw [if_pos (by omega)] | rw [if_neg (by omega)])); first | done | rfl | omega) (tt_3 (by (repeat (first | rw [if_pos (by omega)] | rw [if_neg (by omega)])); first | done | rfl | omega))⟩))
                · first
                  | (exfalso; omega)
                  | (
                      refine exq_k 3 (P := none) (g := (cod m8_refusal 19, [some (.inl 21), some (.inr z), some (.inr 0)], [], (zr τ 21 (zu (τ 21) 7 2)))) rfl trivial ?_
                      refine exq_k 2 (P := none) (g := (cod m8_refusal 21, [some (.inl 21), some (.inr z), some (.inr 0)], [.inr 2], (zr τ 21 (zu (τ 21) 7 2)))) rfl trivial ?_
                      refine exq_b (P := 2 ≤ 0) (ct := (cod m8_refusal 24, [some (.inl 21), some (.inr z), some (.inr 0)], [], (zr τ 21 (zu (τ 21) 7 2)))) (cf := (cod m8_refusal 22, [some (.inl 21), some (.inr z), some (.inr 0)], [], (zr τ 21 (zu (τ 21) 7 2)))) rfl ⟨by decide, by decide⟩ (fun hh => absurd hh (by decide)) (fun _ => ?_)
                      refine exq_k 2 (P := none) (g := (cod m8_refusal 36, [some (.inl 21), some (.inr z), some (.inr 0)], [.inr 0], (zr τ 21 (zu (τ 21) 7 2)))) rfl trivial ?_
                      exact exq_r rfl trivial rfl (⟨_, rI2 (by (repeat (first | rw [if_pos (by omega)] | rw [if_neg (by omega)])); first | done | rfl | omega) (tt_3 (by (repeat (first | rw [if_pos (by omega)] | rw [if_neg (by omega)])); first | done | rfl | omega))⟩))))
    · first
      | (exfalso; omega)
      | (
          refine exq_k 3 (P := none) (g := (cod m8_refusal 19, [some (.inl 21), some (.inr z), some (.inr 0)], [], (zr τ 21 (zu (τ 21) 7 1)))) rfl trivial ?_
          refine exq_k 2 (P := none) (g := (cod m8_refusal 21, [some (.inl 21), some (.inr z), some (.inr 0)], [.inr 1], (zr τ 21 (zu (τ 21) 7 1)))) rfl trivial ?_
          refine exq_b (P := 1 ≤ 0) (ct := (cod m8_refusal 24, [some (.inl 21), some (.inr z), some (.inr 0)], [], (zr τ 21 (zu (τ 21) 7 1)))) (cf := (cod m8_refusal 22, [some (.inl 21), some (.inr z), some (.inr 0)], [], (zr τ 21 (zu (τ 21) 7 1)))) rfl ⟨by decide, by decide⟩ (fun hh => absurd hh (by decide)) (fun _ => ?_)
          refine exq_k 2 (P := none) (g := (cod m8_refusal 36, [some (.inl 21), some (.inr z), some (.inr 0)], [.inr 0], (zr τ 21 (zu (τ 21) 7 1)))) rfl trivial ?_
          exact exq_r rfl trivial rfl (⟨_, rI2 (by (repeat (first | rw [if_pos (by omega)] | rw [if_neg (by omega)])); first | done | rfl | omega) (tt_3 (by (repeat (first | rw [if_pos (by omega)] | rw [if_neg (by omega)])); first | done | rfl | omega))⟩))
  obtain ⟨q, ⟨e, rfl⟩, h⟩ := q
  exact ⟨e, h⟩
theorem d_refusal_1 {z : Int} {τ : SZ} (hz : Rng z) (h27 : ∀ i, -1000 ≤ τ 27 i ∧ τ 27 i ≤ 1000) : ∃ e, RZ 3 m8_refusal [.inl 21, .inr z, .inr 1] τ (.inl (some (.inr (if z < 0 ∨ 2 < z ∨ τ 27 (2 * z).toNat = 0 then 0 else τ 27 (2 * z + 1).toNat)), tt τ (if z < 0 then 1 else if 2 < z ∨ τ 27 (2 * z).toNat = 0 then 2 else 0) e)) := by
  obtain ⟨hz1, hz2⟩ := hz
  have hz27 := h27 (2 * z).toNat
  have q : RZq 3 m8_refusal [.inl 21, .inr z, .inr 1] τ (fun q => ∃ e, q = .inl (some (.inr (if z < 0 ∨ 2 < z ∨ τ 27 (2 * z).toNat = 0 then 0 else τ 27 (2 * z + 1).toNat)), tt τ (if z < 0 then 1 else if 2 < z ∨ τ 27 (2 * z).toNat = 0 then 2 else 0) e)) := by
    refine Exq.call ?_ rfl rfl
    show Exq _ _ (cod m8_refusal 0, [some (.inl 21), some (.inr z), some (.inr 1)], [], τ) _ _
    refine exq_k 2 (P := none) (g := (cod m8_refusal 2, [some (.inl 21), some (.inr z), some (.inr 1)], [.inr z, .inl 21], τ)) rfl trivial ?_
    refine exq_b (P := 0 ≤ z) (ct := (cod m8_refusal 5, [some (.inl 21), some (.inr z), some (.inr 1)], [.inl 21], τ)) (cf := (cod m8_refusal 3, [some (.inl 21), some (.inr z), some (.inr 1)], [.inl 21], τ)) rfl ⟨by omega, by omega⟩ (fun h1 => ?_) (fun h1 => ?_)
    · first
      | (exfalso; omega)
      | (
          refine exq_k 2 (P := none) (g := (cod m8_refusal 7, [some (.inl 21), some (.inr z), some (.inr 1)], [.inr 2, .inr z, .inl 21], τ)) rfl trivial ?_
          refine exq_b (P := 2 < z) (ct := (cod m8_refusal 15, [some (.inl 21), some (.inr z), some (.inr 1)], [.inl 21], τ)) (cf := (cod m8_refusal 8, [some (.inl 21), some (.inr z), some (.inr 1)], [.inl 21], τ)) rfl ⟨⟨by omega, by omega⟩, ⟨by decide, by decide⟩⟩ (fun h2 => ?_) (fun h2 => ?_)
          · first
            | (exfalso; omega)
            | (
                refine exq_k 3 (P := none) (g := (cod m8_refusal 19, [some (.inl 21), some (.inr z), some (.inr 1)], [], (zr τ 21 (zu (τ 21) 7 2)))) rfl trivial ?_
                refine exq_k 2 (P := none) (g := (cod m8_refusal 21, [some (.inl 21), some (.inr z), some (.inr 1)], [.inr 2], (zr τ 21 (zu (τ 21) 7 2)))) rfl trivial ?_
                refine exq_b (P := 2 ≤ 0) (ct := (cod m8_refusal 24, [some (.inl 21), some (.inr z), some (.inr 1)], [], (zr τ 21 (zu (τ 21) 7 2)))) (cf := (cod m8_refusal 22, [some (.inl 21), some (.inr z), some (.inr 1)], [], (zr τ 21 (zu (τ 21) 7 2)))) rfl ⟨by decide, by decide⟩ (fun hh => absurd hh (by decide)) (fun _ => ?_)
                refine exq_k 2 (P := none) (g := (cod m8_refusal 36, [some (.inl 21), some (.inr z), some (.inr 1)], [.inr 0], (zr τ 21 (zu (τ 21) 7 2)))) rfl trivial ?_
                exact exq_r rfl trivial rfl (⟨_, rI2 (by (repeat (first | rw [if_pos (by omega)] | rw [if_neg (by omega)])); first | done | rfl | omega) (tt_3 (by (repeat (first | rw [if_pos (by omega)] | rw [if_neg (by omega)])); first | done | rfl | omega))⟩))
          · first
            | (exfalso; omega)
            | (
                refine exq_k 6 (P := some (0 ≤ (2 * z) ∧ (2 * z) < ((6 : Nat) : Int))) (g := (cod m8_refusal 14, [some (.inl 21), some (.inr z), some (.inr 1)], [.inr ((τ 27) (2 * z).toNat), .inl 21], τ)) rfl (by show 0 ≤ (2 * z) ∧ (2 * z) < ((6 : Nat) : Int); omega) ?_
                refine exq_b (P := ¬ ((τ 27) (2 * z).toNat) = 0) (ct := (cod m8_refusal 17, [some (.inl 21), some (.inr z), some (.inr 1)], [.inl 21], τ)) (cf := (cod m8_refusal 15, [some (.inl 21), some (.inr z), some (.inr 1)], [.inl 21], τ)) rfl ⟨by omega, by omega⟩ (fun h4 => ?_) (fun h4 => ?_)
                · first
                  | (exfalso; omega)
                  | (
                      refine exq_k 2 (P := none) (g := (cod m8_refusal 19, [some (.inl 21), some (.inr z), some (.inr 1)], [], (zr τ 21 (zu (τ 21) 7 0)))) rfl trivial ?_
                      refine exq_k 2 (P := none) (g := (cod m8_refusal 21, [some (.inl 21), some (.inr z), some (.inr 1)], [.inr 0], (zr τ 21 (zu (τ 21) 7 0)))) rfl trivial ?_
                      refine exq_b (P := 0 ≤ 0) (ct := (cod m8_refusal 24, [some (.inl 21), some (.inr z), some (.inr 1)], [], (zr τ 21 (zu (τ 21) 7 0)))) (cf := (cod m8_refusal 22, [some (.inl 21), some (.inr z), some (.inr 1)], [], (zr τ 21 (zu (τ 21) 7 0)))) rfl ⟨by decide, by decide⟩ (fun _ => ?_) (fun hh => absurd (by decide) hh)
                      refine exq_k 6 (P := none) (g := (cod m8_refusal 30, [some (.inl 21), some (.inr z), some (.inr 1)], [.inr 1, .inr (2 * z), .inl 27], (zr τ 21 (zu (τ 21) 7 0)))) rfl trivial ?_
                      refine exq_b (P := 1 = 0) (ct := (cod m8_refusal 33, [some (.inl 21), some (.inr z), some (.inr 1)], [.inr (2 * z), .inl 27], (zr τ 21 (zu (τ 21) 7 0)))) (cf := (cod m8_refusal 31, [some (.inl 21), some (.inr z), some (.inr 1)], [.inr (2 * z), .inl 27], (zr τ 21 (zu (τ 21) 7 0)))) rfl ⟨by decide, by decide⟩ (fun hh => absurd hh (by decide)) (fun _ => ?_)
                      refine exq_k 4 (P := some (0 ≤ ((2 * z) + 1) ∧ ((2 * z) + 1) < ((6 : Nat) : Int))) (g := (cod m8_refusal 36, [some (.inl 21), some (.inr z), some (.inr 1)], [.inr ((τ 27) ((2 * z) + 1).toNat)], (zr τ 21 (zu (τ 21) 7 0)))) rfl (by show 0 ≤ ((2 * z) + 1) ∧ ((2 * z) + 1) < ((6 : Nat) : Int); omega) ?_
                      exact exq_r rfl trivial rfl (⟨_, rI2 (by (repeat (first | rw [if_pos (by omega)] | rw [if_neg (by omega)])); first | done | rfl | omega) (tt_3 (by (repeat (first | rw [if_pos (by omega)] | rw [if_neg (by omega)])); first | done | rfl | omega))⟩))
                · first
                  | (exfalso; omega)
                  | (
                      refine exq_k 3 (P := none) (g := (cod m8_refusal 19, [some (.inl 21), some (.inr z), some (.inr 1)], [], (zr τ 21 (zu (τ 21) 7 2)))) rfl trivial ?_
                      refine exq_k 2 (P := none) (g := (cod m8_refusal 21, [some (.inl 21), some (.inr z), some (.inr 1)], [.inr 2], (zr τ 21 (zu (τ 21) 7 2)))) rfl trivial ?_
                      refine exq_b (P := 2 ≤ 0) (ct := (cod m8_refusal 24, [some (.inl 21), some (.inr z), some (.inr 1)], [], (zr τ 21 (zu (τ 21) 7 2)))) (cf := (cod m8_refusal 22, [some (.inl 21), some (.inr z), some (.inr 1)], [], (zr τ 21 (zu (τ 21) 7 2)))) rfl ⟨by decide, by decide⟩ (fun hh => absurd hh (by decide)) (fun _ => ?_)
                      refine exq_k 2 (P := none) (g := (cod m8_refusal 36, [some (.inl 21), some (.inr z), some (.inr 1)], [.inr 0], (zr τ 21 (zu (τ 21) 7 2)))) rfl trivial ?_
                      exact exq_r rfl trivial rfl (⟨_, rI2 (by (repeat (first | rw [if_pos (by omega)] | rw [if_neg (by omega)])); first | done | rfl | omega) (tt_3 (by (repeat (first | rw [if_pos (by omega)] | rw [if_neg (by omega)])); first | done | rfl | omega))⟩))))
    · first
      | (exfalso; omega)
      | (
          refine exq_k 3 (P := none) (g := (cod m8_refusal 19, [some (.inl 21), some (.inr z), some (.inr 1)], [], (zr τ 21 (zu (τ 21) 7 1)))) rfl trivial ?_
          refine exq_k 2 (P := none) (g := (cod m8_refusal 21, [some (.inl 21), some (.inr z), some (.inr 1)], [.inr 1], (zr τ 21 (zu (τ 21) 7 1)))) rfl trivial ?_
          refine exq_b (P := 1 ≤ 0) (ct := (cod m8_refusal 24, [some (.inl 21), some (.inr z), some (.inr 1)], [], (zr τ 21 (zu (τ 21) 7 1)))) (cf := (cod m8_refusal 22, [some (.inl 21), some (.inr z), some (.inr 1)], [], (zr τ 21 (zu (τ 21) 7 1)))) rfl ⟨by decide, by decide⟩ (fun hh => absurd hh (by decide)) (fun _ => ?_)
          refine exq_k 2 (P := none) (g := (cod m8_refusal 36, [some (.inl 21), some (.inr z), some (.inr 1)], [.inr 0], (zr τ 21 (zu (τ 21) 7 1)))) rfl trivial ?_
          exact exq_r rfl trivial rfl (⟨_, rI2 (by (repeat (first | rw [if_pos (by omega)] | rw [if_neg (by omega)])); first | done | rfl | omega) (tt_3 (by (repeat (first | rw [if_pos (by omega)] | rw [if_neg (by omega)])); first | done | rfl | omega))⟩))
  obtain ⟨q, ⟨e, rfl⟩, h⟩ := q
  exact ⟨e, h⟩
theorem d_character {z : Int} {τ : SZ} (hz : Rng z) (h12 : 0 ≤ τ 21 12 ∧ τ 21 12 ≤ 20) (hch : ∀ i, 0 ≤ τ 28 i ∧ τ 28 i < 65536) : ∃ e, RZ 3 m8_character [.inl 21, .inr z] τ (.inl (some (.inr (if 0 ≤ z ∧ z < τ 21 12 then τ 28 z.toNat else 32)), tt τ (if 0 ≤ z ∧ z < τ 21 12 then 0 else 1) e)) := by
  obtain ⟨hz1, hz2⟩ := hz
  have hz28 := hch z.toNat
  have q : RZq 3 m8_character [.inl 21, .inr z] τ (fun q => ∃ e, q = .inl (some (.inr (if 0 ≤ z ∧ z < τ 21 12 then τ 28 z.toNat else 32)), tt τ (if 0 ≤ z ∧ z < τ 21 12 then 0 else 1) e)) := by
    refine Exq.call ?_ rfl rfl
    show Exq _ _ (cod m8_character 0, [some (.inl 21), some (.inr z)], [], τ) _ _
    refine exq_k 7 (P := none) (g := (cod m8_character 7, [some (.inl 21), some (.inr z)], [.inr (((τ 21) 12) - 1), .inr 0, .inr z, .inl 21], τ)) rfl trivial ?_
    refine exq_c (m_in (τ := τ) (v := z) (a := 0) (b := ((τ 21) 12) - 1) ⟨by omega, by omega⟩ ⟨by omega, by omega⟩ ⟨by omega, by omega⟩) (is := cod m8_character 8) (L := [some (.inl 21), some (.inr z)]) (st := [.inl 21]) rfl rfl rfl ?_
    show Exq _ _ (cod m8_character 8, [some (.inl 21), some (.inr z)], [.inr (b2 (0 ≤ z ∧ z ≤ (((τ 21) 12) - 1))), .inl 21], τ) _ _
    refine exq_b (P := (b2 (0 ≤ z ∧ z ≤ (((τ 21) 12) - 1))) = 0) (ct := (cod m8_character 11, [some (.inl 21), some (.inr z)], [.inl 21], τ)) (cf := (cod m8_character 9, [some (.inl 21), some (.inr z)], [.inl 21], τ)) rfl b2_rng (fun h1 => ?_) (fun h1 => ?_)
    · first
      | (exfalso; have h1 := b2_e0 h1; omega)
      | (
          have h1 := b2_e0 h1
          refine exq_k 2 (P := none) (g := (cod m8_character 13, [some (.inl 21), some (.inr z)], [], (zr τ 21 (zu (τ 21) 7 1)))) rfl trivial ?_
          refine exq_k 2 (P := none) (g := (cod m8_character 15, [some (.inl 21), some (.inr z)], [.inr 1], (zr τ 21 (zu (τ 21) 7 1)))) rfl trivial ?_
          refine exq_b (P := 1 ≤ 0) (ct := (cod m8_character 18, [some (.inl 21), some (.inr z)], [], (zr τ 21 (zu (τ 21) 7 1)))) (cf := (cod m8_character 16, [some (.inl 21), some (.inr z)], [], (zr τ 21 (zu (τ 21) 7 1)))) rfl ⟨by decide, by decide⟩ (fun hh => absurd hh (by decide)) (fun _ => ?_)
          refine exq_k 2 (P := none) (g := (cod m8_character 22, [some (.inl 21), some (.inr z)], [.inr 32], (zr τ 21 (zu (τ 21) 7 1)))) rfl trivial ?_
          exact exq_r rfl ⟨by omega, by omega⟩ rfl (⟨_, rI2 (by (repeat (first | rw [if_pos (by omega)] | rw [if_neg (by omega)])); first | done | rfl | omega) (tt_3 (by (repeat (first | rw [if_pos (by omega)] | rw [if_neg (by omega)])); first | done | rfl | omega))⟩))
    · first
      | (exfalso; have h1 := b2_n0 h1; omega)
      | (
          have h1 := b2_n0 h1
          refine exq_k 3 (P := none) (g := (cod m8_character 13, [some (.inl 21), some (.inr z)], [], (zr τ 21 (zu (τ 21) 7 0)))) rfl trivial ?_
          refine exq_k 2 (P := none) (g := (cod m8_character 15, [some (.inl 21), some (.inr z)], [.inr 0], (zr τ 21 (zu (τ 21) 7 0)))) rfl trivial ?_
          refine exq_b (P := 0 ≤ 0) (ct := (cod m8_character 18, [some (.inl 21), some (.inr z)], [], (zr τ 21 (zu (τ 21) 7 0)))) (cf := (cod m8_character 16, [some (.inl 21), some (.inr z)], [], (zr τ 21 (zu (τ 21) 7 0)))) rfl ⟨by decide, by decide⟩ (fun _ => ?_) (fun hh => absurd (by decide) hh)
          refine exq_k 4 (P := some (0 ≤ z ∧ z < ((20 : Nat) : Int))) (g := (cod m8_character 22, [some (.inl 21), some (.inr z)], [.inr ((τ 28) z.toNat)], (zr τ 21 (zu (τ 21) 7 0)))) rfl (by show 0 ≤ z ∧ z < ((20 : Nat) : Int); omega) ?_
          exact exq_r rfl ⟨by omega, by omega⟩ rfl (⟨_, rI2 (by (repeat (first | rw [if_pos (by omega)] | rw [if_neg (by omega)])); first | done | rfl | omega) (tt_3 (by (repeat (first | rw [if_pos (by omega)] | rw [if_neg (by omega)])); first | done | rfl | omega))⟩))
  obtain ⟨q, ⟨e, rfl⟩, h⟩ := q
  exact ⟨e, h⟩
theorem d_account_0 {τ : SZ} {c : Nat → Int} {B : Int} (hI : Iv B c) (hR : Rs c (τ 22)) : ∃ e, RZ 5 m8_account [.inl 21, .inr 0] τ (.inl (some (.inr (cel c 107)), tt τ (0) e)) := by
  have hS := hI.1
  have hC := hI.2.1
  have hN := hS.n
  have h0 := hR.n hN.1
  have ein : b2 ((0 : Int) ≤ 0 ∧ (0 : Int) ≤ 13) = 1 := b2_t ⟨by decide, by decide⟩
  have q : RZq 5 m8_account [.inl 21, .inr 0] τ (fun q => ∃ e, q = .inl (some (.inr (cel c 107)), tt τ (0) e)) := by
    refine Exq.call ?_ rfl rfl
    show Exq _ _ (cod m8_account 0, [some (.inl 21), some (.inr 0)], [], τ) _ _
    refine exq_k 4 (P := none) (g := (cod m8_account 4, [some (.inl 21), some (.inr 0)], [.inr 13, .inr 0, .inr 0, .inl 21], τ)) rfl trivial ?_
    refine exq_c (m_in (τ := τ) (v := 0) (a := 0) (b := 13) ⟨by omega, by omega⟩ ⟨by omega, by omega⟩ ⟨by omega, by omega⟩) (is := cod m8_account 5) (L := [some (.inl 21), some (.inr 0)]) (st := [.inl 21]) rfl rfl rfl ?_
    show Exq _ _ (cod m8_account 5, [some (.inl 21), some (.inr 0)], [.inr (b2 (0 ≤ 0 ∧ 0 ≤ 13)), .inl 21], τ) _ _
    refine exq_b (P := (b2 (0 ≤ 0 ∧ 0 ≤ 13)) = 0) (ct := (cod m8_account 8, [some (.inl 21), some (.inr 0)], [.inl 21], τ)) (cf := (cod m8_account 6, [some (.inl 21), some (.inr 0)], [.inl 21], τ)) rfl b2_rng (fun hh => absurd hh (by omega)) (fun _ => ?_)
    refine exq_k 3 (P := none) (g := (cod m8_account 10, [some (.inl 21), some (.inr 0)], [], (zr τ 21 (zu (τ 21) 7 0)))) rfl trivial ?_
    refine exq_k 2 (P := none) (g := (cod m8_account 12, [some (.inl 21), some (.inr 0)], [.inr 0], (zr τ 21 (zu (τ 21) 7 0)))) rfl trivial ?_
    refine exq_b (P := 0 ≤ 0) (ct := (cod m8_account 15, [some (.inl 21), some (.inr 0)], [], (zr τ 21 (zu (τ 21) 7 0)))) (cf := (cod m8_account 13, [some (.inl 21), some (.inr 0)], [], (zr τ 21 (zu (τ 21) 7 0)))) rfl ⟨by decide, by decide⟩ (fun _ => ?_) (fun hh => absurd (by decide) hh)
    refine exq_k 2 (P := some (Rng 0)) (g := (cod m8_account 17, [some (.inl 21), some (.inr 0)], [], (zr τ 21 (zu (τ 21) 7 0)))) rfl ⟨by decide, by decide⟩ ?_
    refine exq_k 4 (P := some (0 ≤ 0 ∧ 0 < ((109 : Nat) : Int))) (g := (cod m8_account 21, [some (.inl 21), some (.inr 0)], [.inr ((τ 22) 0)], (zr τ 21 (zu (τ 21) 7 0)))) rfl (by show 0 ≤ 0 ∧ 0 < ((109 : Nat) : Int); omega) ?_
    exact exq_r rfl trivial rfl (⟨_, rI2 (by omega) (tt_3 rfl)⟩)
  obtain ⟨q, ⟨e, rfl⟩, h⟩ := q
  exact ⟨e, h⟩
theorem d_account_1 {τ : SZ} {c : Nat → Int} {B : Int} (hI : Iv B c) (hR : Rs c (τ 22)) : ∃ e, RZ 5 m8_account [.inl 21, .inr 1] τ (.inl (some (.inr (sm (fun k => b2 (cel c (0 + (k : Int) * 6 + 0) = 0)) (cel c 107).toNat)), tt τ (0) e)) := by
  have hS := hI.1
  have hC := hI.2.1
  have hN := hS.n
  have h0 := hR.n hN.1
  have ein : b2 ((0 : Int) ≤ 1 ∧ (1 : Int) ≤ 13) = 1 := b2_t ⟨by decide, by decide⟩
  have q : RZq 5 m8_account [.inl 21, .inr 1] τ (fun q => ∃ e, q = .inl (some (.inr (sm (fun k => b2 (cel c (0 + (k : Int) * 6 + 0) = 0)) (cel c 107).toNat)), tt τ (0) e)) := by
    refine Exq.call ?_ rfl rfl
    show Exq _ _ (cod m8_account 0, [some (.inl 21), some (.inr 1)], [], τ) _ _
    refine exq_k 4 (P := none) (g := (cod m8_account 4, [some (.inl 21), some (.inr 1)], [.inr 13, .inr 0, .inr 1, .inl 21], τ)) rfl trivial ?_
    refine exq_c (m_in (τ := τ) (v := 1) (a := 0) (b := 13) ⟨by omega, by omega⟩ ⟨by omega, by omega⟩ ⟨by omega, by omega⟩) (is := cod m8_account 5) (L := [some (.inl 21), some (.inr 1)]) (st := [.inl 21]) rfl rfl rfl ?_
    show Exq _ _ (cod m8_account 5, [some (.inl 21), some (.inr 1)], [.inr (b2 (0 ≤ 1 ∧ 1 ≤ 13)), .inl 21], τ) _ _
    refine exq_b (P := (b2 (0 ≤ 1 ∧ 1 ≤ 13)) = 0) (ct := (cod m8_account 8, [some (.inl 21), some (.inr 1)], [.inl 21], τ)) (cf := (cod m8_account 6, [some (.inl 21), some (.inr 1)], [.inl 21], τ)) rfl b2_rng (fun hh => absurd hh (by omega)) (fun _ => ?_)
    refine exq_k 3 (P := none) (g := (cod m8_account 10, [some (.inl 21), some (.inr 1)], [], (zr τ 21 (zu (τ 21) 7 0)))) rfl trivial ?_
    refine exq_k 2 (P := none) (g := (cod m8_account 12, [some (.inl 21), some (.inr 1)], [.inr 0], (zr τ 21 (zu (τ 21) 7 0)))) rfl trivial ?_
    refine exq_b (P := 0 ≤ 0) (ct := (cod m8_account 15, [some (.inl 21), some (.inr 1)], [], (zr τ 21 (zu (τ 21) 7 0)))) (cf := (cod m8_account 13, [some (.inl 21), some (.inr 1)], [], (zr τ 21 (zu (τ 21) 7 0)))) rfl ⟨by decide, by decide⟩ (fun _ => ?_) (fun hh => absurd (by decide) hh)
    refine exq_k 2 (P := some (Rng 1)) (g := (cod m8_account 22, [some (.inl 21), some (.inr 1)], [], (zr τ 21 (zu (τ 21) 7 0)))) rfl ⟨by decide, by decide⟩ ?_
    refine exq_k 3 (P := none) (g := (cod m8_account 25, [some (.inl 21), some (.inr 1)], [.inr 0, .inr 0, .inl 21], (zr τ 21 (zu (τ 21) 7 0)))) rfl trivial ?_
    refine exq_c (m_count_00 (τ := (zr τ 21 (zu (τ 21) 7 0))) hI hR) (is := cod m8_account 26) (L := [some (.inl 21), some (.inr 1)]) (st := []) rfl rfl rfl ?_
    show Exq _ _ (cod m8_account 26, [some (.inl 21), some (.inr 1)], [.inr (sm (fun k => b2 (cel c (0 + (k : Int) * 6 + 0) = 0)) (cel c 107).toNat)], (zr τ 21 (zu (τ 21) 7 0))) _ _
    exact exq_r rfl trivial rfl (⟨_, rI2 rfl (tt_3 rfl)⟩)
  obtain ⟨q, ⟨e, rfl⟩, h⟩ := q
  exact ⟨e, h⟩
theorem d_account_2 {τ : SZ} {c : Nat → Int} {B : Int} (hI : Iv B c) (hR : Rs c (τ 22)) : ∃ e, RZ 5 m8_account [.inl 21, .inr 2] τ (.inl (some (.inr (sm (fun k => b2 (cel c (0 + (k : Int) * 6 + 3) = 1)) (cel c 107).toNat)), tt τ (0) e)) := by
  have hS := hI.1
  have hC := hI.2.1
  have hN := hS.n
  have h0 := hR.n hN.1
  have ein : b2 ((0 : Int) ≤ 2 ∧ (2 : Int) ≤ 13) = 1 := b2_t ⟨by decide, by decide⟩
  have q : RZq 5 m8_account [.inl 21, .inr 2] τ (fun q => ∃ e, q = .inl (some (.inr (sm (fun k => b2 (cel c (0 + (k : Int) * 6 + 3) = 1)) (cel c 107).toNat)), tt τ (0) e)) := by
    refine Exq.call ?_ rfl rfl
    show Exq _ _ (cod m8_account 0, [some (.inl 21), some (.inr 2)], [], τ) _ _
    refine exq_k 4 (P := none) (g := (cod m8_account 4, [some (.inl 21), some (.inr 2)], [.inr 13, .inr 0, .inr 2, .inl 21], τ)) rfl trivial ?_
    refine exq_c (m_in (τ := τ) (v := 2) (a := 0) (b := 13) ⟨by omega, by omega⟩ ⟨by omega, by omega⟩ ⟨by omega, by omega⟩) (is := cod m8_account 5) (L := [some (.inl 21), some (.inr 2)]) (st := [.inl 21]) rfl rfl rfl ?_
    show Exq _ _ (cod m8_account 5, [some (.inl 21), some (.inr 2)], [.inr (b2 (0 ≤ 2 ∧ 2 ≤ 13)), .inl 21], τ) _ _
    refine exq_b (P := (b2 (0 ≤ 2 ∧ 2 ≤ 13)) = 0) (ct := (cod m8_account 8, [some (.inl 21), some (.inr 2)], [.inl 21], τ)) (cf := (cod m8_account 6, [some (.inl 21), some (.inr 2)], [.inl 21], τ)) rfl b2_rng (fun hh => absurd hh (by omega)) (fun _ => ?_)
    refine exq_k 3 (P := none) (g := (cod m8_account 10, [some (.inl 21), some (.inr 2)], [], (zr τ 21 (zu (τ 21) 7 0)))) rfl trivial ?_
    refine exq_k 2 (P := none) (g := (cod m8_account 12, [some (.inl 21), some (.inr 2)], [.inr 0], (zr τ 21 (zu (τ 21) 7 0)))) rfl trivial ?_
    refine exq_b (P := 0 ≤ 0) (ct := (cod m8_account 15, [some (.inl 21), some (.inr 2)], [], (zr τ 21 (zu (τ 21) 7 0)))) (cf := (cod m8_account 13, [some (.inl 21), some (.inr 2)], [], (zr τ 21 (zu (τ 21) 7 0)))) rfl ⟨by decide, by decide⟩ (fun _ => ?_) (fun hh => absurd (by decide) hh)
    refine exq_k 2 (P := some (Rng 2)) (g := (cod m8_account 27, [some (.inl 21), some (.inr 2)], [], (zr τ 21 (zu (τ 21) 7 0)))) rfl ⟨by decide, by decide⟩ ?_
    refine exq_k 3 (P := none) (g := (cod m8_account 30, [some (.inl 21), some (.inr 2)], [.inr 1, .inr 3, .inl 21], (zr τ 21 (zu (τ 21) 7 0)))) rfl trivial ?_
    refine exq_c (m_count_31 (τ := (zr τ 21 (zu (τ 21) 7 0))) hI hR) (is := cod m8_account 31) (L := [some (.inl 21), some (.inr 2)]) (st := []) rfl rfl rfl ?_
    show Exq _ _ (cod m8_account 31, [some (.inl 21), some (.inr 2)], [.inr (sm (fun k => b2 (cel c (0 + (k : Int) * 6 + 3) = 1)) (cel c 107).toNat)], (zr τ 21 (zu (τ 21) 7 0))) _ _
    exact exq_r rfl trivial rfl (⟨_, rI2 rfl (tt_3 rfl)⟩)
  obtain ⟨q, ⟨e, rfl⟩, h⟩ := q
  exact ⟨e, h⟩
theorem d_account_3 {τ : SZ} {c : Nat → Int} {B : Int} (hI : Iv B c) (hR : Rs c (τ 22)) : ∃ e, RZ 5 m8_account [.inl 21, .inr 3] τ (.inl (some (.inr (tgs c 0 + tgs c 1)), tt τ (0) e)) := by
  have hS := hI.1
  have hC := hI.2.1
  have hN := hS.n
  have h0 := hR.n hN.1
  have ein : b2 ((0 : Int) ≤ 3 ∧ (3 : Int) ≤ 13) = 1 := b2_t ⟨by decide, by decide⟩
  have q : RZq 5 m8_account [.inl 21, .inr 3] τ (fun q => ∃ e, q = .inl (some (.inr (tgs c 0 + tgs c 1)), tt τ (0) e)) := by
    refine Exq.call ?_ rfl rfl
    show Exq _ _ (cod m8_account 0, [some (.inl 21), some (.inr 3)], [], τ) _ _
    refine exq_k 4 (P := none) (g := (cod m8_account 4, [some (.inl 21), some (.inr 3)], [.inr 13, .inr 0, .inr 3, .inl 21], τ)) rfl trivial ?_
    refine exq_c (m_in (τ := τ) (v := 3) (a := 0) (b := 13) ⟨by omega, by omega⟩ ⟨by omega, by omega⟩ ⟨by omega, by omega⟩) (is := cod m8_account 5) (L := [some (.inl 21), some (.inr 3)]) (st := [.inl 21]) rfl rfl rfl ?_
    show Exq _ _ (cod m8_account 5, [some (.inl 21), some (.inr 3)], [.inr (b2 (0 ≤ 3 ∧ 3 ≤ 13)), .inl 21], τ) _ _
    refine exq_b (P := (b2 (0 ≤ 3 ∧ 3 ≤ 13)) = 0) (ct := (cod m8_account 8, [some (.inl 21), some (.inr 3)], [.inl 21], τ)) (cf := (cod m8_account 6, [some (.inl 21), some (.inr 3)], [.inl 21], τ)) rfl b2_rng (fun hh => absurd hh (by omega)) (fun _ => ?_)
    refine exq_k 3 (P := none) (g := (cod m8_account 10, [some (.inl 21), some (.inr 3)], [], (zr τ 21 (zu (τ 21) 7 0)))) rfl trivial ?_
    refine exq_k 2 (P := none) (g := (cod m8_account 12, [some (.inl 21), some (.inr 3)], [.inr 0], (zr τ 21 (zu (τ 21) 7 0)))) rfl trivial ?_
    refine exq_b (P := 0 ≤ 0) (ct := (cod m8_account 15, [some (.inl 21), some (.inr 3)], [], (zr τ 21 (zu (τ 21) 7 0)))) (cf := (cod m8_account 13, [some (.inl 21), some (.inr 3)], [], (zr τ 21 (zu (τ 21) 7 0)))) rfl ⟨by decide, by decide⟩ (fun _ => ?_) (fun hh => absurd (by decide) hh)
    refine exq_k 2 (P := some (Rng 3)) (g := (cod m8_account 32, [some (.inl 21), some (.inr 3)], [], (zr τ 21 (zu (τ 21) 7 0)))) rfl ⟨by decide, by decide⟩ ?_
    refine exq_k 2 (P := none) (g := (cod m8_account 34, [some (.inl 21), some (.inr 3)], [.inr 0, .inl 21], (zr τ 21 (zu (τ 21) 7 0)))) rfl trivial ?_
    refine exq_c (m_tugMany (τ := (zr τ 21 (zu (τ 21) 7 0))) (r := 0) hI hR (by omega)) (is := cod m8_account 35) (L := [some (.inl 21), some (.inr 3)]) (st := []) rfl rfl rfl ?_
    show Exq _ _ (cod m8_account 35, [some (.inl 21), some (.inr 3)], [.inr (sm (fun k => b2 (whz c 0 (k : Int) = 8)) 12)], (zr τ 21 (zu (τ 21) 7 0))) _ _
    refine exq_k 2 (P := none) (g := (cod m8_account 37, [some (.inl 21), some (.inr 3)], [.inr 1, .inl 21, .inr (sm (fun k => b2 (whz c 0 (k : Int) = 8)) 12)], (zr τ 21 (zu (τ 21) 7 0)))) rfl trivial ?_
    refine exq_c (m_tugMany (τ := (zr τ 21 (zu (τ 21) 7 0))) (r := 1) hI hR (by omega)) (is := cod m8_account 38) (L := [some (.inl 21), some (.inr 3)]) (st := [.inr (sm (fun k => b2 (whz c 0 (k : Int) = 8)) 12)]) rfl rfl rfl ?_
    show Exq _ _ (cod m8_account 38, [some (.inl 21), some (.inr 3)], [.inr (sm (fun k => b2 (whz c 1 (k : Int) = 8)) 12), .inr (sm (fun k => b2 (whz c 0 (k : Int) = 8)) 12)], (zr τ 21 (zu (τ 21) 7 0))) _ _
    refine exq_k 1 (P := none) (g := (cod m8_account 39, [some (.inl 21), some (.inr 3)], [.inr ((sm (fun k => b2 (whz c 0 (k : Int) = 8)) 12) + (sm (fun k => b2 (whz c 1 (k : Int) = 8)) 12))], (zr τ 21 (zu (τ 21) 7 0)))) rfl trivial ?_
    exact exq_r rfl trivial rfl (⟨_, rI2 rfl (tt_3 rfl)⟩)
  obtain ⟨q, ⟨e, rfl⟩, h⟩ := q
  exact ⟨e, h⟩
theorem d_account_4 {τ : SZ} {c : Nat → Int} {B : Int} (hI : Iv B c) (hR : Rs c (τ 22)) : ∃ e, RZ 5 m8_account [.inl 21, .inr 4] τ (.inl (some (.inr (sm (fun k => b2 (0 < usz c ((k : Int) / 12) ((k : Int) % 12))) 24)), tt τ (0) e)) := by
  have hS := hI.1
  have hC := hI.2.1
  have hN := hS.n
  have h0 := hR.n hN.1
  have ein : b2 ((0 : Int) ≤ 4 ∧ (4 : Int) ≤ 13) = 1 := b2_t ⟨by decide, by decide⟩
  have q : RZq 5 m8_account [.inl 21, .inr 4] τ (fun q => ∃ e, q = .inl (some (.inr (sm (fun k => b2 (0 < usz c ((k : Int) / 12) ((k : Int) % 12))) 24)), tt τ (0) e)) := by
    refine Exq.call ?_ rfl rfl
    show Exq _ _ (cod m8_account 0, [some (.inl 21), some (.inr 4)], [], τ) _ _
    refine exq_k 4 (P := none) (g := (cod m8_account 4, [some (.inl 21), some (.inr 4)], [.inr 13, .inr 0, .inr 4, .inl 21], τ)) rfl trivial ?_
    refine exq_c (m_in (τ := τ) (v := 4) (a := 0) (b := 13) ⟨by omega, by omega⟩ ⟨by omega, by omega⟩ ⟨by omega, by omega⟩) (is := cod m8_account 5) (L := [some (.inl 21), some (.inr 4)]) (st := [.inl 21]) rfl rfl rfl ?_
    show Exq _ _ (cod m8_account 5, [some (.inl 21), some (.inr 4)], [.inr (b2 (0 ≤ 4 ∧ 4 ≤ 13)), .inl 21], τ) _ _
    refine exq_b (P := (b2 (0 ≤ 4 ∧ 4 ≤ 13)) = 0) (ct := (cod m8_account 8, [some (.inl 21), some (.inr 4)], [.inl 21], τ)) (cf := (cod m8_account 6, [some (.inl 21), some (.inr 4)], [.inl 21], τ)) rfl b2_rng (fun hh => absurd hh (by omega)) (fun _ => ?_)
    refine exq_k 3 (P := none) (g := (cod m8_account 10, [some (.inl 21), some (.inr 4)], [], (zr τ 21 (zu (τ 21) 7 0)))) rfl trivial ?_
    refine exq_k 2 (P := none) (g := (cod m8_account 12, [some (.inl 21), some (.inr 4)], [.inr 0], (zr τ 21 (zu (τ 21) 7 0)))) rfl trivial ?_
    refine exq_b (P := 0 ≤ 0) (ct := (cod m8_account 15, [some (.inl 21), some (.inr 4)], [], (zr τ 21 (zu (τ 21) 7 0)))) (cf := (cod m8_account 13, [some (.inl 21), some (.inr 4)], [], (zr τ 21 (zu (τ 21) 7 0)))) rfl ⟨by decide, by decide⟩ (fun _ => ?_) (fun hh => absurd (by decide) hh)
    refine exq_k 2 (P := some (Rng 4)) (g := (cod m8_account 40, [some (.inl 21), some (.inr 4)], [], (zr τ 21 (zu (τ 21) 7 0)))) rfl ⟨by decide, by decide⟩ ?_
    refine exq_k 1 (P := none) (g := (cod m8_account 41, [some (.inl 21), some (.inr 4)], [.inl 21], (zr τ 21 (zu (τ 21) 7 0)))) rfl trivial ?_
    refine exq_c (m_lockMany (τ := (zr τ 21 (zu (τ 21) 7 0))) hI hR) (is := cod m8_account 42) (L := [some (.inl 21), some (.inr 4)]) (st := []) rfl rfl rfl ?_
    show Exq _ _ (cod m8_account 42, [some (.inl 21), some (.inr 4)], [.inr (sm (fun k => b2 (0 < usz c ((k : Int) / 12) ((k : Int) % 12))) 24)], (zr τ 21 (zu (τ 21) 7 0))) _ _
    exact exq_r rfl trivial rfl (⟨_, rI2 rfl (tt_3 rfl)⟩)
  obtain ⟨q, ⟨e, rfl⟩, h⟩ := q
  exact ⟨e, h⟩
theorem d_account_5 {τ : SZ} {c : Nat → Int} {B : Int} (hI : Iv B c) (hR : Rs c (τ 22)) : ∃ e, RZ 5 m8_account [.inl 21, .inr 5] τ (.inl (some (.inr (cel c 100)), tt τ (0) e)) := by
  have hS := hI.1
  have hC := hI.2.1
  have hN := hS.n
  have h0 := hR.n hN.1
  have h1 : τ 22 2 = cel c 100 := hR.to hN.1 (k := 2) (by omega)
  have ein : b2 ((0 : Int) ≤ 5 ∧ (5 : Int) ≤ 13) = 1 := b2_t ⟨by decide, by decide⟩
  have q : RZq 5 m8_account [.inl 21, .inr 5] τ (fun q => ∃ e, q = .inl (some (.inr (cel c 100)), tt τ (0) e)) := by
    refine Exq.call ?_ rfl rfl
    show Exq _ _ (cod m8_account 0, [some (.inl 21), some (.inr 5)], [], τ) _ _
    refine exq_k 4 (P := none) (g := (cod m8_account 4, [some (.inl 21), some (.inr 5)], [.inr 13, .inr 0, .inr 5, .inl 21], τ)) rfl trivial ?_
    refine exq_c (m_in (τ := τ) (v := 5) (a := 0) (b := 13) ⟨by omega, by omega⟩ ⟨by omega, by omega⟩ ⟨by omega, by omega⟩) (is := cod m8_account 5) (L := [some (.inl 21), some (.inr 5)]) (st := [.inl 21]) rfl rfl rfl ?_
    show Exq _ _ (cod m8_account 5, [some (.inl 21), some (.inr 5)], [.inr (b2 (0 ≤ 5 ∧ 5 ≤ 13)), .inl 21], τ) _ _
    refine exq_b (P := (b2 (0 ≤ 5 ∧ 5 ≤ 13)) = 0) (ct := (cod m8_account 8, [some (.inl 21), some (.inr 5)], [.inl 21], τ)) (cf := (cod m8_account 6, [some (.inl 21), some (.inr 5)], [.inl 21], τ)) rfl b2_rng (fun hh => absurd hh (by omega)) (fun _ => ?_)
    refine exq_k 3 (P := none) (g := (cod m8_account 10, [some (.inl 21), some (.inr 5)], [], (zr τ 21 (zu (τ 21) 7 0)))) rfl trivial ?_
    refine exq_k 2 (P := none) (g := (cod m8_account 12, [some (.inl 21), some (.inr 5)], [.inr 0], (zr τ 21 (zu (τ 21) 7 0)))) rfl trivial ?_
    refine exq_b (P := 0 ≤ 0) (ct := (cod m8_account 15, [some (.inl 21), some (.inr 5)], [], (zr τ 21 (zu (τ 21) 7 0)))) (cf := (cod m8_account 13, [some (.inl 21), some (.inr 5)], [], (zr τ 21 (zu (τ 21) 7 0)))) rfl ⟨by decide, by decide⟩ (fun _ => ?_) (fun hh => absurd (by decide) hh)
    refine exq_k 2 (P := some (Rng 5)) (g := (cod m8_account 49, [some (.inl 21), some (.inr 5)], [], (zr τ 21 (zu (τ 21) 7 0)))) rfl ⟨by decide, by decide⟩ ?_
    refine exq_k 8 (P := some (0 ≤ 2 ∧ 2 < ((109 : Nat) : Int))) (g := (cod m8_account 57, [some (.inl 21), some (.inr 5)], [.inr ((τ 22) 2)], (zr τ 21 (zu (τ 21) 7 0)))) rfl (by show 0 ≤ 2 ∧ 2 < ((109 : Nat) : Int); omega) ?_
    exact exq_r rfl trivial rfl (⟨_, rI2 (by omega) (tt_3 rfl)⟩)
  obtain ⟨q, ⟨e, rfl⟩, h⟩ := q
  exact ⟨e, h⟩
theorem d_account_6 {τ : SZ} {c : Nat → Int} {B : Int} (hI : Iv B c) (hR : Rs c (τ 22)) : ∃ e, RZ 5 m8_account [.inl 21, .inr 6] τ (.inl (some (.inr (cel c 101)), tt τ (0) e)) := by
  have hS := hI.1
  have hC := hI.2.1
  have hN := hS.n
  have h0 := hR.n hN.1
  have h1 : τ 22 3 = cel c 101 := hR.to hN.1 (k := 3) (by omega)
  have ein : b2 ((0 : Int) ≤ 6 ∧ (6 : Int) ≤ 13) = 1 := b2_t ⟨by decide, by decide⟩
  have q : RZq 5 m8_account [.inl 21, .inr 6] τ (fun q => ∃ e, q = .inl (some (.inr (cel c 101)), tt τ (0) e)) := by
    refine Exq.call ?_ rfl rfl
    show Exq _ _ (cod m8_account 0, [some (.inl 21), some (.inr 6)], [], τ) _ _
    refine exq_k 4 (P := none) (g := (cod m8_account 4, [some (.inl 21), some (.inr 6)], [.inr 13, .inr 0, .inr 6, .inl 21], τ)) rfl trivial ?_
    refine exq_c (m_in (τ := τ) (v := 6) (a := 0) (b := 13) ⟨by omega, by omega⟩ ⟨by omega, by omega⟩ ⟨by omega, by omega⟩) (is := cod m8_account 5) (L := [some (.inl 21), some (.inr 6)]) (st := [.inl 21]) rfl rfl rfl ?_
    show Exq _ _ (cod m8_account 5, [some (.inl 21), some (.inr 6)], [.inr (b2 (0 ≤ 6 ∧ 6 ≤ 13)), .inl 21], τ) _ _
    refine exq_b (P := (b2 (0 ≤ 6 ∧ 6 ≤ 13)) = 0) (ct := (cod m8_account 8, [some (.inl 21), some (.inr 6)], [.inl 21], τ)) (cf := (cod m8_account 6, [some (.inl 21), some (.inr 6)], [.inl 21], τ)) rfl b2_rng (fun hh => absurd hh (by omega)) (fun _ => ?_)
    refine exq_k 3 (P := none) (g := (cod m8_account 10, [some (.inl 21), some (.inr 6)], [], (zr τ 21 (zu (τ 21) 7 0)))) rfl trivial ?_
    refine exq_k 2 (P := none) (g := (cod m8_account 12, [some (.inl 21), some (.inr 6)], [.inr 0], (zr τ 21 (zu (τ 21) 7 0)))) rfl trivial ?_
    refine exq_b (P := 0 ≤ 0) (ct := (cod m8_account 15, [some (.inl 21), some (.inr 6)], [], (zr τ 21 (zu (τ 21) 7 0)))) (cf := (cod m8_account 13, [some (.inl 21), some (.inr 6)], [], (zr τ 21 (zu (τ 21) 7 0)))) rfl ⟨by decide, by decide⟩ (fun _ => ?_) (fun hh => absurd (by decide) hh)
    refine exq_k 2 (P := some (Rng 6)) (g := (cod m8_account 49, [some (.inl 21), some (.inr 6)], [], (zr τ 21 (zu (τ 21) 7 0)))) rfl ⟨by decide, by decide⟩ ?_
    refine exq_k 8 (P := some (0 ≤ 3 ∧ 3 < ((109 : Nat) : Int))) (g := (cod m8_account 57, [some (.inl 21), some (.inr 6)], [.inr ((τ 22) 3)], (zr τ 21 (zu (τ 21) 7 0)))) rfl (by show 0 ≤ 3 ∧ 3 < ((109 : Nat) : Int); omega) ?_
    exact exq_r rfl trivial rfl (⟨_, rI2 (by omega) (tt_3 rfl)⟩)
  obtain ⟨q, ⟨e, rfl⟩, h⟩ := q
  exact ⟨e, h⟩
theorem d_account_7 {τ : SZ} {c : Nat → Int} {B : Int} (hI : Iv B c) (hR : Rs c (τ 22)) : ∃ e, RZ 5 m8_account [.inl 21, .inr 7] τ (.inl (some (.inr (cel c 102)), tt τ (0) e)) := by
  have hS := hI.1
  have hC := hI.2.1
  have hN := hS.n
  have h0 := hR.n hN.1
  have h1 : τ 22 4 = cel c 102 := hR.to hN.1 (k := 4) (by omega)
  have ein : b2 ((0 : Int) ≤ 7 ∧ (7 : Int) ≤ 13) = 1 := b2_t ⟨by decide, by decide⟩
  have q : RZq 5 m8_account [.inl 21, .inr 7] τ (fun q => ∃ e, q = .inl (some (.inr (cel c 102)), tt τ (0) e)) := by
    refine Exq.call ?_ rfl rfl
    show Exq _ _ (cod m8_account 0, [some (.inl 21), some (.inr 7)], [], τ) _ _
    refine exq_k 4 (P := none) (g := (cod m8_account 4, [some (.inl 21), some (.inr 7)], [.inr 13, .inr 0, .inr 7, .inl 21], τ)) rfl trivial ?_
    refine exq_c (m_in (τ := τ) (v := 7) (a := 0) (b := 13) ⟨by omega, by omega⟩ ⟨by omega, by omega⟩ ⟨by omega, by omega⟩) (is := cod m8_account 5) (L := [some (.inl 21), some (.inr 7)]) (st := [.inl 21]) rfl rfl rfl ?_
    show Exq _ _ (cod m8_account 5, [some (.inl 21), some (.inr 7)], [.inr (b2 (0 ≤ 7 ∧ 7 ≤ 13)), .inl 21], τ) _ _
    refine exq_b (P := (b2 (0 ≤ 7 ∧ 7 ≤ 13)) = 0) (ct := (cod m8_account 8, [some (.inl 21), some (.inr 7)], [.inl 21], τ)) (cf := (cod m8_account 6, [some (.inl 21), some (.inr 7)], [.inl 21], τ)) rfl b2_rng (fun hh => absurd hh (by omega)) (fun _ => ?_)
    refine exq_k 3 (P := none) (g := (cod m8_account 10, [some (.inl 21), some (.inr 7)], [], (zr τ 21 (zu (τ 21) 7 0)))) rfl trivial ?_
    refine exq_k 2 (P := none) (g := (cod m8_account 12, [some (.inl 21), some (.inr 7)], [.inr 0], (zr τ 21 (zu (τ 21) 7 0)))) rfl trivial ?_
    refine exq_b (P := 0 ≤ 0) (ct := (cod m8_account 15, [some (.inl 21), some (.inr 7)], [], (zr τ 21 (zu (τ 21) 7 0)))) (cf := (cod m8_account 13, [some (.inl 21), some (.inr 7)], [], (zr τ 21 (zu (τ 21) 7 0)))) rfl ⟨by decide, by decide⟩ (fun _ => ?_) (fun hh => absurd (by decide) hh)
    refine exq_k 2 (P := some (Rng 7)) (g := (cod m8_account 49, [some (.inl 21), some (.inr 7)], [], (zr τ 21 (zu (τ 21) 7 0)))) rfl ⟨by decide, by decide⟩ ?_
    refine exq_k 8 (P := some (0 ≤ 4 ∧ 4 < ((109 : Nat) : Int))) (g := (cod m8_account 57, [some (.inl 21), some (.inr 7)], [.inr ((τ 22) 4)], (zr τ 21 (zu (τ 21) 7 0)))) rfl (by show 0 ≤ 4 ∧ 4 < ((109 : Nat) : Int); omega) ?_
    exact exq_r rfl trivial rfl (⟨_, rI2 (by omega) (tt_3 rfl)⟩)
  obtain ⟨q, ⟨e, rfl⟩, h⟩ := q
  exact ⟨e, h⟩
theorem d_account_8 {τ : SZ} {c : Nat → Int} {B : Int} (hI : Iv B c) (hR : Rs c (τ 22)) : ∃ e, RZ 5 m8_account [.inl 21, .inr 8] τ (.inl (some (.inr (cel c 103)), tt τ (0) e)) := by
  have hS := hI.1
  have hC := hI.2.1
  have hN := hS.n
  have h0 := hR.n hN.1
  have h1 : τ 22 5 = cel c 103 := hR.to hN.1 (k := 5) (by omega)
  have ein : b2 ((0 : Int) ≤ 8 ∧ (8 : Int) ≤ 13) = 1 := b2_t ⟨by decide, by decide⟩
  have q : RZq 5 m8_account [.inl 21, .inr 8] τ (fun q => ∃ e, q = .inl (some (.inr (cel c 103)), tt τ (0) e)) := by
    refine Exq.call ?_ rfl rfl
    show Exq _ _ (cod m8_account 0, [some (.inl 21), some (.inr 8)], [], τ) _ _
    refine exq_k 4 (P := none) (g := (cod m8_account 4, [some (.inl 21), some (.inr 8)], [.inr 13, .inr 0, .inr 8, .inl 21], τ)) rfl trivial ?_
    refine exq_c (m_in (τ := τ) (v := 8) (a := 0) (b := 13) ⟨by omega, by omega⟩ ⟨by omega, by omega⟩ ⟨by omega, by omega⟩) (is := cod m8_account 5) (L := [some (.inl 21), some (.inr 8)]) (st := [.inl 21]) rfl rfl rfl ?_
    show Exq _ _ (cod m8_account 5, [some (.inl 21), some (.inr 8)], [.inr (b2 (0 ≤ 8 ∧ 8 ≤ 13)), .inl 21], τ) _ _
    refine exq_b (P := (b2 (0 ≤ 8 ∧ 8 ≤ 13)) = 0) (ct := (cod m8_account 8, [some (.inl 21), some (.inr 8)], [.inl 21], τ)) (cf := (cod m8_account 6, [some (.inl 21), some (.inr 8)], [.inl 21], τ)) rfl b2_rng (fun hh => absurd hh (by omega)) (fun _ => ?_)
    refine exq_k 3 (P := none) (g := (cod m8_account 10, [some (.inl 21), some (.inr 8)], [], (zr τ 21 (zu (τ 21) 7 0)))) rfl trivial ?_
    refine exq_k 2 (P := none) (g := (cod m8_account 12, [some (.inl 21), some (.inr 8)], [.inr 0], (zr τ 21 (zu (τ 21) 7 0)))) rfl trivial ?_
    refine exq_b (P := 0 ≤ 0) (ct := (cod m8_account 15, [some (.inl 21), some (.inr 8)], [], (zr τ 21 (zu (τ 21) 7 0)))) (cf := (cod m8_account 13, [some (.inl 21), some (.inr 8)], [], (zr τ 21 (zu (τ 21) 7 0)))) rfl ⟨by decide, by decide⟩ (fun _ => ?_) (fun hh => absurd (by decide) hh)
    refine exq_k 2 (P := some (Rng 8)) (g := (cod m8_account 49, [some (.inl 21), some (.inr 8)], [], (zr τ 21 (zu (τ 21) 7 0)))) rfl ⟨by decide, by decide⟩ ?_
    refine exq_k 8 (P := some (0 ≤ 5 ∧ 5 < ((109 : Nat) : Int))) (g := (cod m8_account 57, [some (.inl 21), some (.inr 8)], [.inr ((τ 22) 5)], (zr τ 21 (zu (τ 21) 7 0)))) rfl (by show 0 ≤ 5 ∧ 5 < ((109 : Nat) : Int); omega) ?_
    exact exq_r rfl trivial rfl (⟨_, rI2 (by omega) (tt_3 rfl)⟩)
  obtain ⟨q, ⟨e, rfl⟩, h⟩ := q
  exact ⟨e, h⟩
theorem d_account_9 {τ : SZ} {c : Nat → Int} {B : Int} (hI : Iv B c) (hR : Rs c (τ 22)) : ∃ e, RZ 5 m8_account [.inl 21, .inr 9] τ (.inl (some (.inr (cel c 104)), tt τ (0) e)) := by
  have hS := hI.1
  have hC := hI.2.1
  have hN := hS.n
  have h0 := hR.n hN.1
  have h1 : τ 22 6 = cel c 104 := hR.to hN.1 (k := 6) (by omega)
  have ein : b2 ((0 : Int) ≤ 9 ∧ (9 : Int) ≤ 13) = 1 := b2_t ⟨by decide, by decide⟩
  have q : RZq 5 m8_account [.inl 21, .inr 9] τ (fun q => ∃ e, q = .inl (some (.inr (cel c 104)), tt τ (0) e)) := by
    refine Exq.call ?_ rfl rfl
    show Exq _ _ (cod m8_account 0, [some (.inl 21), some (.inr 9)], [], τ) _ _
    refine exq_k 4 (P := none) (g := (cod m8_account 4, [some (.inl 21), some (.inr 9)], [.inr 13, .inr 0, .inr 9, .inl 21], τ)) rfl trivial ?_
    refine exq_c (m_in (τ := τ) (v := 9) (a := 0) (b := 13) ⟨by omega, by omega⟩ ⟨by omega, by omega⟩ ⟨by omega, by omega⟩) (is := cod m8_account 5) (L := [some (.inl 21), some (.inr 9)]) (st := [.inl 21]) rfl rfl rfl ?_
    show Exq _ _ (cod m8_account 5, [some (.inl 21), some (.inr 9)], [.inr (b2 (0 ≤ 9 ∧ 9 ≤ 13)), .inl 21], τ) _ _
    refine exq_b (P := (b2 (0 ≤ 9 ∧ 9 ≤ 13)) = 0) (ct := (cod m8_account 8, [some (.inl 21), some (.inr 9)], [.inl 21], τ)) (cf := (cod m8_account 6, [some (.inl 21), some (.inr 9)], [.inl 21], τ)) rfl b2_rng (fun hh => absurd hh (by omega)) (fun _ => ?_)
    refine exq_k 3 (P := none) (g := (cod m8_account 10, [some (.inl 21), some (.inr 9)], [], (zr τ 21 (zu (τ 21) 7 0)))) rfl trivial ?_
    refine exq_k 2 (P := none) (g := (cod m8_account 12, [some (.inl 21), some (.inr 9)], [.inr 0], (zr τ 21 (zu (τ 21) 7 0)))) rfl trivial ?_
    refine exq_b (P := 0 ≤ 0) (ct := (cod m8_account 15, [some (.inl 21), some (.inr 9)], [], (zr τ 21 (zu (τ 21) 7 0)))) (cf := (cod m8_account 13, [some (.inl 21), some (.inr 9)], [], (zr τ 21 (zu (τ 21) 7 0)))) rfl ⟨by decide, by decide⟩ (fun _ => ?_) (fun hh => absurd (by decide) hh)
    refine exq_k 2 (P := some (Rng 9)) (g := (cod m8_account 49, [some (.inl 21), some (.inr 9)], [], (zr τ 21 (zu (τ 21) 7 0)))) rfl ⟨by decide, by decide⟩ ?_
    refine exq_k 8 (P := some (0 ≤ 6 ∧ 6 < ((109 : Nat) : Int))) (g := (cod m8_account 57, [some (.inl 21), some (.inr 9)], [.inr ((τ 22) 6)], (zr τ 21 (zu (τ 21) 7 0)))) rfl (by show 0 ≤ 6 ∧ 6 < ((109 : Nat) : Int); omega) ?_
    exact exq_r rfl trivial rfl (⟨_, rI2 (by omega) (tt_3 rfl)⟩)
  obtain ⟨q, ⟨e, rfl⟩, h⟩ := q
  exact ⟨e, h⟩
theorem d_account_10 {τ : SZ} {c : Nat → Int} {B : Int} (hI : Iv B c) (hR : Rs c (τ 22)) : ∃ e, RZ 5 m8_account [.inl 21, .inr 10] τ (.inl (some (.inr (cel c 105)), tt τ (0) e)) := by
  have hS := hI.1
  have hC := hI.2.1
  have hN := hS.n
  have h0 := hR.n hN.1
  have h1 : τ 22 7 = cel c 105 := hR.to hN.1 (k := 7) (by omega)
  have ein : b2 ((0 : Int) ≤ 10 ∧ (10 : Int) ≤ 13) = 1 := b2_t ⟨by decide, by decide⟩
  have q : RZq 5 m8_account [.inl 21, .inr 10] τ (fun q => ∃ e, q = .inl (some (.inr (cel c 105)), tt τ (0) e)) := by
    refine Exq.call ?_ rfl rfl
    show Exq _ _ (cod m8_account 0, [some (.inl 21), some (.inr 10)], [], τ) _ _
    refine exq_k 4 (P := none) (g := (cod m8_account 4, [some (.inl 21), some (.inr 10)], [.inr 13, .inr 0, .inr 10, .inl 21], τ)) rfl trivial ?_
    refine exq_c (m_in (τ := τ) (v := 10) (a := 0) (b := 13) ⟨by omega, by omega⟩ ⟨by omega, by omega⟩ ⟨by omega, by omega⟩) (is := cod m8_account 5) (L := [some (.inl 21), some (.inr 10)]) (st := [.inl 21]) rfl rfl rfl ?_
    show Exq _ _ (cod m8_account 5, [some (.inl 21), some (.inr 10)], [.inr (b2 (0 ≤ 10 ∧ 10 ≤ 13)), .inl 21], τ) _ _
    refine exq_b (P := (b2 (0 ≤ 10 ∧ 10 ≤ 13)) = 0) (ct := (cod m8_account 8, [some (.inl 21), some (.inr 10)], [.inl 21], τ)) (cf := (cod m8_account 6, [some (.inl 21), some (.inr 10)], [.inl 21], τ)) rfl b2_rng (fun hh => absurd hh (by omega)) (fun _ => ?_)
    refine exq_k 3 (P := none) (g := (cod m8_account 10, [some (.inl 21), some (.inr 10)], [], (zr τ 21 (zu (τ 21) 7 0)))) rfl trivial ?_
    refine exq_k 2 (P := none) (g := (cod m8_account 12, [some (.inl 21), some (.inr 10)], [.inr 0], (zr τ 21 (zu (τ 21) 7 0)))) rfl trivial ?_
    refine exq_b (P := 0 ≤ 0) (ct := (cod m8_account 15, [some (.inl 21), some (.inr 10)], [], (zr τ 21 (zu (τ 21) 7 0)))) (cf := (cod m8_account 13, [some (.inl 21), some (.inr 10)], [], (zr τ 21 (zu (τ 21) 7 0)))) rfl ⟨by decide, by decide⟩ (fun _ => ?_) (fun hh => absurd (by decide) hh)
    refine exq_k 2 (P := some (Rng 10)) (g := (cod m8_account 49, [some (.inl 21), some (.inr 10)], [], (zr τ 21 (zu (τ 21) 7 0)))) rfl ⟨by decide, by decide⟩ ?_
    refine exq_k 8 (P := some (0 ≤ 7 ∧ 7 < ((109 : Nat) : Int))) (g := (cod m8_account 57, [some (.inl 21), some (.inr 10)], [.inr ((τ 22) 7)], (zr τ 21 (zu (τ 21) 7 0)))) rfl (by show 0 ≤ 7 ∧ 7 < ((109 : Nat) : Int); omega) ?_
    exact exq_r rfl trivial rfl (⟨_, rI2 (by omega) (tt_3 rfl)⟩)
  obtain ⟨q, ⟨e, rfl⟩, h⟩ := q
  exact ⟨e, h⟩
theorem d_account_11 {τ : SZ} {c : Nat → Int} {B : Int} (hI : Iv B c) (hR : Rs c (τ 22)) : ∃ e, RZ 5 m8_account [.inl 21, .inr 11] τ (.inl (some (.inr (cel c 106)), tt τ (0) e)) := by
  have hS := hI.1
  have hC := hI.2.1
  have hN := hS.n
  have h0 := hR.n hN.1
  have h1 : τ 22 8 = cel c 106 := hR.to hN.1 (k := 8) (by omega)
  have ein : b2 ((0 : Int) ≤ 11 ∧ (11 : Int) ≤ 13) = 1 := b2_t ⟨by decide, by decide⟩
  have q : RZq 5 m8_account [.inl 21, .inr 11] τ (fun q => ∃ e, q = .inl (some (.inr (cel c 106)), tt τ (0) e)) := by
    refine Exq.call ?_ rfl rfl
    show Exq _ _ (cod m8_account 0, [some (.inl 21), some (.inr 11)], [], τ) _ _
    refine exq_k 4 (P := none) (g := (cod m8_account 4, [some (.inl 21), some (.inr 11)], [.inr 13, .inr 0, .inr 11, .inl 21], τ)) rfl trivial ?_
    refine exq_c (m_in (τ := τ) (v := 11) (a := 0) (b := 13) ⟨by omega, by omega⟩ ⟨by omega, by omega⟩ ⟨by omega, by omega⟩) (is := cod m8_account 5) (L := [some (.inl 21), some (.inr 11)]) (st := [.inl 21]) rfl rfl rfl ?_
    show Exq _ _ (cod m8_account 5, [some (.inl 21), some (.inr 11)], [.inr (b2 (0 ≤ 11 ∧ 11 ≤ 13)), .inl 21], τ) _ _
    refine exq_b (P := (b2 (0 ≤ 11 ∧ 11 ≤ 13)) = 0) (ct := (cod m8_account 8, [some (.inl 21), some (.inr 11)], [.inl 21], τ)) (cf := (cod m8_account 6, [some (.inl 21), some (.inr 11)], [.inl 21], τ)) rfl b2_rng (fun hh => absurd hh (by omega)) (fun _ => ?_)
    refine exq_k 3 (P := none) (g := (cod m8_account 10, [some (.inl 21), some (.inr 11)], [], (zr τ 21 (zu (τ 21) 7 0)))) rfl trivial ?_
    refine exq_k 2 (P := none) (g := (cod m8_account 12, [some (.inl 21), some (.inr 11)], [.inr 0], (zr τ 21 (zu (τ 21) 7 0)))) rfl trivial ?_
    refine exq_b (P := 0 ≤ 0) (ct := (cod m8_account 15, [some (.inl 21), some (.inr 11)], [], (zr τ 21 (zu (τ 21) 7 0)))) (cf := (cod m8_account 13, [some (.inl 21), some (.inr 11)], [], (zr τ 21 (zu (τ 21) 7 0)))) rfl ⟨by decide, by decide⟩ (fun _ => ?_) (fun hh => absurd (by decide) hh)
    refine exq_k 2 (P := some (Rng 11)) (g := (cod m8_account 49, [some (.inl 21), some (.inr 11)], [], (zr τ 21 (zu (τ 21) 7 0)))) rfl ⟨by decide, by decide⟩ ?_
    refine exq_k 8 (P := some (0 ≤ 8 ∧ 8 < ((109 : Nat) : Int))) (g := (cod m8_account 57, [some (.inl 21), some (.inr 11)], [.inr ((τ 22) 8)], (zr τ 21 (zu (τ 21) 7 0)))) rfl (by show 0 ≤ 8 ∧ 8 < ((109 : Nat) : Int); omega) ?_
    exact exq_r rfl trivial rfl (⟨_, rI2 (by omega) (tt_3 rfl)⟩)
  obtain ⟨q, ⟨e, rfl⟩, h⟩ := q
  exact ⟨e, h⟩
theorem d_account_12 {τ : SZ} {c : Nat → Int} {B : Int} (hI : Iv B c) (hR : Rs c (τ 22)) : ∃ e, RZ 5 m8_account [.inl 21, .inr 12] τ (.inl (some (.inr (τ 21 14)), tt τ (0) e)) := by
  have hS := hI.1
  have hC := hI.2.1
  have hN := hS.n
  have h0 := hR.n hN.1
  have ein : b2 ((0 : Int) ≤ 12 ∧ (12 : Int) ≤ 13) = 1 := b2_t ⟨by decide, by decide⟩
  have q : RZq 5 m8_account [.inl 21, .inr 12] τ (fun q => ∃ e, q = .inl (some (.inr (τ 21 14)), tt τ (0) e)) := by
    refine Exq.call ?_ rfl rfl
    show Exq _ _ (cod m8_account 0, [some (.inl 21), some (.inr 12)], [], τ) _ _
    refine exq_k 4 (P := none) (g := (cod m8_account 4, [some (.inl 21), some (.inr 12)], [.inr 13, .inr 0, .inr 12, .inl 21], τ)) rfl trivial ?_
    refine exq_c (m_in (τ := τ) (v := 12) (a := 0) (b := 13) ⟨by omega, by omega⟩ ⟨by omega, by omega⟩ ⟨by omega, by omega⟩) (is := cod m8_account 5) (L := [some (.inl 21), some (.inr 12)]) (st := [.inl 21]) rfl rfl rfl ?_
    show Exq _ _ (cod m8_account 5, [some (.inl 21), some (.inr 12)], [.inr (b2 (0 ≤ 12 ∧ 12 ≤ 13)), .inl 21], τ) _ _
    refine exq_b (P := (b2 (0 ≤ 12 ∧ 12 ≤ 13)) = 0) (ct := (cod m8_account 8, [some (.inl 21), some (.inr 12)], [.inl 21], τ)) (cf := (cod m8_account 6, [some (.inl 21), some (.inr 12)], [.inl 21], τ)) rfl b2_rng (fun hh => absurd hh (by omega)) (fun _ => ?_)
    refine exq_k 3 (P := none) (g := (cod m8_account 10, [some (.inl 21), some (.inr 12)], [], (zr τ 21 (zu (τ 21) 7 0)))) rfl trivial ?_
    refine exq_k 2 (P := none) (g := (cod m8_account 12, [some (.inl 21), some (.inr 12)], [.inr 0], (zr τ 21 (zu (τ 21) 7 0)))) rfl trivial ?_
    refine exq_b (P := 0 ≤ 0) (ct := (cod m8_account 15, [some (.inl 21), some (.inr 12)], [], (zr τ 21 (zu (τ 21) 7 0)))) (cf := (cod m8_account 13, [some (.inl 21), some (.inr 12)], [], (zr τ 21 (zu (τ 21) 7 0)))) rfl ⟨by decide, by decide⟩ (fun _ => ?_) (fun hh => absurd (by decide) hh)
    refine exq_k 2 (P := some (Rng 12)) (g := (cod m8_account 43, [some (.inl 21), some (.inr 12)], [], (zr τ 21 (zu (τ 21) 7 0)))) rfl ⟨by decide, by decide⟩ ?_
    refine exq_k 2 (P := none) (g := (cod m8_account 45, [some (.inl 21), some (.inr 12)], [.inr ((τ 21) 14)], (zr τ 21 (zu (τ 21) 7 0)))) rfl trivial ?_
    exact exq_r rfl trivial rfl (⟨_, rI2 rfl (tt_3 rfl)⟩)
  obtain ⟨q, ⟨e, rfl⟩, h⟩ := q
  exact ⟨e, h⟩
theorem d_account_13 {τ : SZ} {c : Nat → Int} {B : Int} (hI : Iv B c) (hR : Rs c (τ 22)) : ∃ e, RZ 5 m8_account [.inl 21, .inr 13] τ (.inl (some (.inr (τ 21 6)), tt τ (0) e)) := by
  have hS := hI.1
  have hC := hI.2.1
  have hN := hS.n
  have h0 := hR.n hN.1
  have ein : b2 ((0 : Int) ≤ 13 ∧ (13 : Int) ≤ 13) = 1 := b2_t ⟨by decide, by decide⟩
  have q : RZq 5 m8_account [.inl 21, .inr 13] τ (fun q => ∃ e, q = .inl (some (.inr (τ 21 6)), tt τ (0) e)) := by
    refine Exq.call ?_ rfl rfl
    show Exq _ _ (cod m8_account 0, [some (.inl 21), some (.inr 13)], [], τ) _ _
    refine exq_k 4 (P := none) (g := (cod m8_account 4, [some (.inl 21), some (.inr 13)], [.inr 13, .inr 0, .inr 13, .inl 21], τ)) rfl trivial ?_
    refine exq_c (m_in (τ := τ) (v := 13) (a := 0) (b := 13) ⟨by omega, by omega⟩ ⟨by omega, by omega⟩ ⟨by omega, by omega⟩) (is := cod m8_account 5) (L := [some (.inl 21), some (.inr 13)]) (st := [.inl 21]) rfl rfl rfl ?_
    show Exq _ _ (cod m8_account 5, [some (.inl 21), some (.inr 13)], [.inr (b2 (0 ≤ 13 ∧ 13 ≤ 13)), .inl 21], τ) _ _
    refine exq_b (P := (b2 (0 ≤ 13 ∧ 13 ≤ 13)) = 0) (ct := (cod m8_account 8, [some (.inl 21), some (.inr 13)], [.inl 21], τ)) (cf := (cod m8_account 6, [some (.inl 21), some (.inr 13)], [.inl 21], τ)) rfl b2_rng (fun hh => absurd hh (by omega)) (fun _ => ?_)
    refine exq_k 3 (P := none) (g := (cod m8_account 10, [some (.inl 21), some (.inr 13)], [], (zr τ 21 (zu (τ 21) 7 0)))) rfl trivial ?_
    refine exq_k 2 (P := none) (g := (cod m8_account 12, [some (.inl 21), some (.inr 13)], [.inr 0], (zr τ 21 (zu (τ 21) 7 0)))) rfl trivial ?_
    refine exq_b (P := 0 ≤ 0) (ct := (cod m8_account 15, [some (.inl 21), some (.inr 13)], [], (zr τ 21 (zu (τ 21) 7 0)))) (cf := (cod m8_account 13, [some (.inl 21), some (.inr 13)], [], (zr τ 21 (zu (τ 21) 7 0)))) rfl ⟨by decide, by decide⟩ (fun _ => ?_) (fun hh => absurd (by decide) hh)
    refine exq_k 2 (P := some (Rng 13)) (g := (cod m8_account 46, [some (.inl 21), some (.inr 13)], [], (zr τ 21 (zu (τ 21) 7 0)))) rfl ⟨by decide, by decide⟩ ?_
    refine exq_k 2 (P := none) (g := (cod m8_account 48, [some (.inl 21), some (.inr 13)], [.inr ((τ 21) 6)], (zr τ 21 (zu (τ 21) 7 0)))) rfl trivial ?_
    exact exq_r rfl trivial rfl (⟨_, rI2 rfl (tt_3 rfl)⟩)
  obtain ⟨q, ⟨e, rfl⟩, h⟩ := q
  exact ⟨e, h⟩
theorem d_account_x {w : Int} {τ : SZ} (hw : Rng w) (hx : ¬ (0 ≤ w ∧ w ≤ 13)) : ∃ e, RZ 5 m8_account [.inl 21, .inr w] τ (.inl (some (.inr (0)), tt τ (1) e)) := by
  obtain ⟨hw1, hw2⟩ := hw
  have ein : b2 (0 ≤ w ∧ w ≤ 13) = 0 := b2_f hx
  have q : RZq 5 m8_account [.inl 21, .inr w] τ (fun q => ∃ e, q = .inl (some (.inr (0)), tt τ (1) e)) := by
    refine Exq.call ?_ rfl rfl
    show Exq _ _ (cod m8_account 0, [some (.inl 21), some (.inr w)], [], τ) _ _
    refine exq_k 4 (P := none) (g := (cod m8_account 4, [some (.inl 21), some (.inr w)], [.inr 13, .inr 0, .inr w, .inl 21], τ)) rfl trivial ?_
    refine exq_c (m_in (τ := τ) (v := w) (a := 0) (b := 13) ⟨by omega, by omega⟩ ⟨by omega, by omega⟩ ⟨by omega, by omega⟩) (is := cod m8_account 5) (L := [some (.inl 21), some (.inr w)]) (st := [.inl 21]) rfl rfl rfl ?_
    show Exq _ _ (cod m8_account 5, [some (.inl 21), some (.inr w)], [.inr (b2 (0 ≤ w ∧ w ≤ 13)), .inl 21], τ) _ _
    refine exq_b (P := (b2 (0 ≤ w ∧ w ≤ 13)) = 0) (ct := (cod m8_account 8, [some (.inl 21), some (.inr w)], [.inl 21], τ)) (cf := (cod m8_account 6, [some (.inl 21), some (.inr w)], [.inl 21], τ)) rfl b2_rng (fun _ => ?_) (fun hh => absurd (by omega) hh)
    refine exq_k 2 (P := none) (g := (cod m8_account 10, [some (.inl 21), some (.inr w)], [], (zr τ 21 (zu (τ 21) 7 1)))) rfl trivial ?_
    refine exq_k 2 (P := none) (g := (cod m8_account 12, [some (.inl 21), some (.inr w)], [.inr 1], (zr τ 21 (zu (τ 21) 7 1)))) rfl trivial ?_
    refine exq_b (P := 1 ≤ 0) (ct := (cod m8_account 15, [some (.inl 21), some (.inr w)], [], (zr τ 21 (zu (τ 21) 7 1)))) (cf := (cod m8_account 13, [some (.inl 21), some (.inr w)], [], (zr τ 21 (zu (τ 21) 7 1)))) rfl ⟨by decide, by decide⟩ (fun hh => absurd hh (by decide)) (fun _ => ?_)
    refine exq_k 1 (P := none) (g := (cod m8_account 14, [some (.inl 21), some (.inr w)], [.inr 0], (zr τ 21 (zu (τ 21) 7 1)))) rfl trivial ?_
    exact exq_r rfl trivial rfl (⟨_, rI2 rfl (tt_3 (by (repeat (first | rw [if_pos (by omega)] | rw [if_neg (by omega)])); first | done | rfl | omega))⟩)
  obtain ⟨q, ⟨e, rfl⟩, h⟩ := q
  exact ⟨e, h⟩
end MT2
