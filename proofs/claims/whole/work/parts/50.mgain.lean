/-! contracts of the second implementation: gains, the best move, undo, snapshot, input: printed by wip/whole/db27.py -/
section MGA
def Qb (τ : SZ) (V K : Int) (q : RSZ) : Prop := ∃ e x, Tz x ∧ q = .inl (some (.inr V), zr (tt τ K e) 24 x)
theorem qb3 {τ : SZ} {V v K k : Int} (h24 : Tz (τ 24)) (hv : V = v) (hk : K = k) : Qb τ V K (.inl (some (.inr v), zr τ 21 (zu (τ 21) 7 k))) :=
  ⟨τ 21 10, τ 24, h24, by rw [hv, tt_3 hk, show zr (tt τ K (τ 21 10)) 24 (τ 24) = tt τ K (τ 21 10) from zr_self (τ := tt τ K (τ 21 10)) (a := 24)]⟩
theorem qb2 {τ : SZ} {V v K k e : Int} (h24 : Tz (τ 24)) (hv : V = v) (hk : K = k) : Qb τ V K (.inl (some (.inr v), zr τ 21 (zu (zu (τ 21) 10 e) 7 k))) :=
  ⟨e, τ 24, h24, by rw [hv, tt_2 hk, show zr (tt τ K e) 24 (τ 24) = tt τ K e from zr_self (τ := tt τ K e) (a := 24)]⟩
theorem qb4 {τ : SZ} {V v K k e : Int} {x : Nat → Int} (hx : Tz x) (hv : V = v) (hk : K = k) : Qb τ V K (.inl (some (.inr v), zr (zr τ 21 (zu (zu (τ 21) 10 e) 7 k)) 24 x)) :=
  ⟨e, x, hx, by rw [hv, tt_2 hk]⟩
theorem qb5 {τ : SZ} {V v K k e : Int} {x : Nat → Int} (hx : Tz x) (hv : V = v) (hk : K = k) : Qb τ V K (.inl (some (.inr v), zr (zr τ 24 x) 21 (zu (zu (τ 21) 10 e) 7 k))) :=
  ⟨e, x, hx, by rw [zr_sw (by decide), hv, tt_2 hk]⟩
theorem d_gain_0 {f r : Int} {τ : SZ} {c : Nat → Int} {B : Int} (hI : Iv B c) (hR : Rs c (τ 22)) (h24 : Tz (τ 24)) (hf : Rng f) (hr : Rng r) (hB : B + 9 ≤ 100000000) : RZq 9 m8_gain [.inl 21, .inr f, .inr r, .inr 0] τ (Qb τ (if (0 ≤ f ∧ f < cel c 107) ∧ (0 ≤ r ∧ r < 2) then (if (ocn c f r (-1) = 1 ∨ ocn c f r (-1) = 2 ∨ ocn c f r (-1) = 3) then gnb c f r (-1) else 0) else 0) (if (0 ≤ f ∧ f < cel c 107) ∧ (0 ≤ r ∧ r < 2) then (if (ocn c f r (-1) = 1 ∨ ocn c f r (-1) = 2 ∨ ocn c f r (-1) = 3) then 0 else 2) else 1)) := by
  have hS := hI.1
  have hC := hI.2.1
  have hN := hS.n
  obtain ⟨hf1, hf2⟩ := hf
  obtain ⟨hr1, hr2⟩ := hr
  have h22 := hR.tz
  have hh := hnt_in c f r (-1)
  have hom : (ocn c f r (-1) = 1 ∨ ocn c f r (-1) = 2 ∨ ocn c f r (-1) = 3) → oco c f r (-1) = 1 ∨ oco c f r (-1) = 2 ∨ oco c f r (-1) = 3 := fun h => ocn_mv h
  refine Exq.call ?_ rfl rfl
  show Exq _ _ (cod m8_gain 0, [some (.inl 21), some (.inr f), some (.inr r), some (.inr 0), none], [], τ) _ _
  refine exq_k 1 (P := none) (g := (cod m8_gain 1, [some (.inl 21), some (.inr f), some (.inr r), some (.inr 0), none], [.inr 0], τ)) rfl trivial ?_
  refine exq_b (P := 0 = 0) (ct := (cod m8_gain 4, [some (.inl 21), some (.inr f), some (.inr r), some (.inr 0), none], [], τ)) (cf := (cod m8_gain 2, [some (.inl 21), some (.inr f), some (.inr r), some (.inr 0), none], [], τ)) rfl ⟨by decide, by decide⟩ (fun _ => ?_) (fun hh => absurd (by decide) hh)
  refine exq_k 4 (P := none) (g := (cod m8_gain 8, [some (.inl 21), some (.inr f), some (.inr r), some (.inr 0), some (.inr (-1))], [.inr f, .inl 21], τ)) rfl trivial ?_
  refine exq_c (m_isFerry (τ := τ) (f := f) hI hR ⟨by omega, by omega⟩) (is := cod m8_gain 9) (L := [some (.inl 21), some (.inr f), some (.inr r), some (.inr 0), some (.inr (-1))]) (st := []) rfl rfl rfl ?_
  show Exq _ _ (cod m8_gain 9, [some (.inl 21), some (.inr f), some (.inr r), some (.inr 0), some (.inr (-1))], [.inr (b2 (0 ≤ f ∧ f < cel c 107))], τ) _ _
  refine exq_b (P := (b2 (0 ≤ f ∧ f < cel c 107)) = 0) (ct := (cod m8_gain 13, [some (.inl 21), some (.inr f), some (.inr r), some (.inr 0), some (.inr (-1))], [], τ)) (cf := (cod m8_gain 10, [some (.inl 21), some (.inr f), some (.inr r), some (.inr 0), some (.inr (-1))], [], τ)) rfl b2_rng (fun h2 => ?_) (fun h2 => ?_)
  · first
    | (exfalso; have h2 := b2_e0 h2; omega)
    | (
        have h2 := b2_e0 h2
        refine exq_k 2 (P := none) (g := (cod m8_gain 15, [some (.inl 21), some (.inr f), some (.inr r), some (.inr 0), some (.inr (-1))], [.inr 1, .inl 21], τ)) rfl trivial ?_
        refine exq_c (m_fails (τ := τ) (k := 1)) (is := cod m8_gain 16) (L := [some (.inl 21), some (.inr f), some (.inr r), some (.inr 0), some (.inr (-1))]) (st := []) rfl rfl rfl ?_
        show Exq _ _ (cod m8_gain 16, [some (.inl 21), some (.inr f), some (.inr r), some (.inr 0), some (.inr (-1))], [.inr 0], (zr τ 21 (zu (τ 21) 7 1))) _ _
        exact exq_r rfl trivial rfl (qb3 h24 (by (repeat (first | rw [if_pos (by omega)] | rw [if_neg (by omega)])); first | done | rfl) (by (repeat (first | rw [if_pos (by omega)] | rw [if_neg (by omega)])); first | done | rfl)))
  · first
    | (exfalso; have h2 := b2_n0 h2; omega)
    | (
        have h2 := b2_n0 h2
        refine exq_k 1 (P := none) (g := (cod m8_gain 11, [some (.inl 21), some (.inr f), some (.inr r), some (.inr 0), some (.inr (-1))], [.inr r], τ)) rfl trivial ?_
        refine exq_c (m_isRiver (τ := τ) (v := r) ⟨by omega, by omega⟩) (is := cod m8_gain 12) (L := [some (.inl 21), some (.inr f), some (.inr r), some (.inr 0), some (.inr (-1))]) (st := []) rfl rfl rfl ?_
        show Exq _ _ (cod m8_gain 12, [some (.inl 21), some (.inr f), some (.inr r), some (.inr 0), some (.inr (-1))], [.inr (b2 (0 ≤ r ∧ r < 2))], τ) _ _
        refine exq_b (P := ¬ (b2 (0 ≤ r ∧ r < 2)) = 0) (ct := (cod m8_gain 17, [some (.inl 21), some (.inr f), some (.inr r), some (.inr 0), some (.inr (-1))], [], τ)) (cf := (cod m8_gain 13, [some (.inl 21), some (.inr f), some (.inr r), some (.inr 0), some (.inr (-1))], [], τ)) rfl b2_rng (fun h3 => ?_) (fun h3 => ?_)
        · first
          | (exfalso; have h3 := b2_n0 h3; omega)
          | (
              have h3 := b2_n0 h3
              refine exq_k 5 (P := none) (g := (cod m8_gain 22, [some (.inl 21), some (.inr f), some (.inr r), some (.inr 0), some (.inr (-1))], [.inr (-1), .inr r, .inr f, .inl 21, .inl 21], τ)) rfl trivial ?_
              obtain ⟨e45, he45, hc45⟩ := m_hindersInTurn (τ := τ) (f := f) (r := r) (s := (-1)) hI hR (by omega) (by omega) (by omega)
              refine exq_c hc45 (is := cod m8_gain 23) (L := [some (.inl 21), some (.inr f), some (.inr r), some (.inr 0), some (.inr (-1))]) (st := [.inl 21]) rfl rfl rfl ?_
              show Exq _ _ (cod m8_gain 23, [some (.inl 21), some (.inr f), some (.inr r), some (.inr 0), some (.inr (-1))], [.inr (hnt c f r (-1)), .inl 21], (zr τ 21 (zu (τ 21) 10 e45))) _ _
              refine exq_b (P := (hnt c f r (-1)) ≤ 0) (ct := (cod m8_gain 26, [some (.inl 21), some (.inr f), some (.inr r), some (.inr 0), some (.inr (-1))], [.inl 21], (zr τ 21 (zu (τ 21) 10 e45)))) (cf := (cod m8_gain 24, [some (.inl 21), some (.inr f), some (.inr r), some (.inr 0), some (.inr (-1))], [.inl 21], (zr τ 21 (zu (τ 21) 10 e45)))) rfl ⟨by omega, by omega⟩ (fun h4 => ?_) (fun h4 => ?_)
              · first
                | (exfalso; omega)
                | (
                    refine exq_k 2 (P := none) (g := (cod m8_gain 28, [some (.inl 21), some (.inr f), some (.inr r), some (.inr 0), some (.inr (-1))], [], (zr (zr τ 21 (zu (τ 21) 10 e45)) 21 (zu (zu (τ 21) 10 e45) 7 0)))) rfl trivial ?_
                    rw [zr_zr]
                    refine exq_k 2 (P := none) (g := (cod m8_gain 30, [some (.inl 21), some (.inr f), some (.inr r), some (.inr 0), some (.inr (-1))], [.inr 0], (zr τ 21 (zu (zu (τ 21) 10 e45) 7 0)))) rfl trivial ?_
                    refine exq_b (P := 0 ≤ 0) (ct := (cod m8_gain 33, [some (.inl 21), some (.inr f), some (.inr r), some (.inr 0), some (.inr (-1))], [], (zr τ 21 (zu (zu (τ 21) 10 e45) 7 0)))) (cf := (cod m8_gain 31, [some (.inl 21), some (.inr f), some (.inr r), some (.inr 0), some (.inr (-1))], [], (zr τ 21 (zu (zu (τ 21) 10 e45) 7 0)))) rfl ⟨by decide, by decide⟩ (fun _ => ?_) (fun hh => absurd (by decide) hh)
                    refine exq_k 4 (P := none) (g := (cod m8_gain 37, [some (.inl 21), some (.inr f), some (.inr r), some (.inr 0), some (.inr (-1))], [.inr (-1), .inr r, .inr f, .inl 21], (zr τ 21 (zu (zu (τ 21) 10 e45) 7 0)))) rfl trivial ?_
                    obtain ⟨g1, hg1⟩ := m_gainBy (τ := (zr τ 21 (zu (zu (τ 21) 10 e45) 7 0))) (f := f) (r := r) (s := (-1)) hI hR h24 (by omega) (by omega) (by omega) (hom (by omega)) hB
                    refine exq_c hg1 (is := cod m8_gain 38) (L := [some (.inl 21), some (.inr f), some (.inr r), some (.inr 0), some (.inr (-1))]) (st := []) rfl rfl rfl ?_
                    show Exq _ _ (cod m8_gain 38, [some (.inl 21), some (.inr f), some (.inr r), some (.inr 0), some (.inr (-1))], [.inr (gnb c f r (-1))], (zr (zr (zr τ 21 (zu (zu (τ 21) 10 e45) 7 0)) 21 (zu (zu (zu (τ 21) 10 e45) 7 0) 10 g1)) 24 (τ 22))) _ _
                    rw [zr_zr, zu_sw (i := 7) (j := 10) (by decide), zu_zu]
                    exact exq_r rfl trivial rfl (qb4 h22 (by (repeat (first | rw [if_pos (by omega)] | rw [if_neg (by omega)])); first | done | rfl) (by (repeat (first | rw [if_pos (by omega)] | rw [if_neg (by omega)])); first | done | rfl)))
              · first
                | (exfalso; omega)
                | (
                    refine exq_k 3 (P := none) (g := (cod m8_gain 28, [some (.inl 21), some (.inr f), some (.inr r), some (.inr 0), some (.inr (-1))], [], (zr (zr τ 21 (zu (τ 21) 10 e45)) 21 (zu (zu (τ 21) 10 e45) 7 2)))) rfl trivial ?_
                    rw [zr_zr]
                    refine exq_k 2 (P := none) (g := (cod m8_gain 30, [some (.inl 21), some (.inr f), some (.inr r), some (.inr 0), some (.inr (-1))], [.inr 2], (zr τ 21 (zu (zu (τ 21) 10 e45) 7 2)))) rfl trivial ?_
                    refine exq_b (P := 2 ≤ 0) (ct := (cod m8_gain 33, [some (.inl 21), some (.inr f), some (.inr r), some (.inr 0), some (.inr (-1))], [], (zr τ 21 (zu (zu (τ 21) 10 e45) 7 2)))) (cf := (cod m8_gain 31, [some (.inl 21), some (.inr f), some (.inr r), some (.inr 0), some (.inr (-1))], [], (zr τ 21 (zu (zu (τ 21) 10 e45) 7 2)))) rfl ⟨by decide, by decide⟩ (fun hh => absurd hh (by decide)) (fun _ => ?_)
                    refine exq_k 2 (P := none) (g := (cod m8_gain 38, [some (.inl 21), some (.inr f), some (.inr r), some (.inr 0), some (.inr (-1))], [.inr 0], (zr τ 21 (zu (zu (τ 21) 10 e45) 7 2)))) rfl trivial ?_
                    exact exq_r rfl trivial rfl (qb2 h24 (by (repeat (first | rw [if_pos (by omega)] | rw [if_neg (by omega)])); first | done | rfl) (by (repeat (first | rw [if_pos (by omega)] | rw [if_neg (by omega)])); first | done | rfl))))
        · first
          | (exfalso; have h3 := b2_nn0 h3; omega)
          | (
              have h3 := b2_nn0 h3
              refine exq_k 2 (P := none) (g := (cod m8_gain 15, [some (.inl 21), some (.inr f), some (.inr r), some (.inr 0), some (.inr (-1))], [.inr 1, .inl 21], τ)) rfl trivial ?_
              refine exq_c (m_fails (τ := τ) (k := 1)) (is := cod m8_gain 16) (L := [some (.inl 21), some (.inr f), some (.inr r), some (.inr 0), some (.inr (-1))]) (st := []) rfl rfl rfl ?_
              show Exq _ _ (cod m8_gain 16, [some (.inl 21), some (.inr f), some (.inr r), some (.inr 0), some (.inr (-1))], [.inr 0], (zr τ 21 (zu (τ 21) 7 1))) _ _
              exact exq_r rfl trivial rfl (qb3 h24 (by (repeat (first | rw [if_pos (by omega)] | rw [if_neg (by omega)])); first | done | rfl) (by (repeat (first | rw [if_pos (by omega)] | rw [if_neg (by omega)])); first | done | rfl))))
theorem d_gain_1 {f r : Int} {τ : SZ} {c : Nat → Int} {B : Int} (hI : Iv B c) (hR : Rs c (τ 22)) (h24 : Tz (τ 24)) (hf : Rng f) (hr : Rng r) (hB : B + 9 ≤ 100000000) : RZq 9 m8_gain [.inl 21, .inr f, .inr r, .inr 1] τ (Qb τ (if (0 ≤ f ∧ f < cel c 107) ∧ (0 ≤ r ∧ r < 2) then (if (ocn c f r 1 = 1 ∨ ocn c f r 1 = 2 ∨ ocn c f r 1 = 3) then gnb c f r 1 else 0) else 0) (if (0 ≤ f ∧ f < cel c 107) ∧ (0 ≤ r ∧ r < 2) then (if (ocn c f r 1 = 1 ∨ ocn c f r 1 = 2 ∨ ocn c f r 1 = 3) then 0 else 2) else 1)) := by
  have hS := hI.1
  have hC := hI.2.1
  have hN := hS.n
  obtain ⟨hf1, hf2⟩ := hf
  obtain ⟨hr1, hr2⟩ := hr
  have h22 := hR.tz
  have hh := hnt_in c f r 1
  have hom : (ocn c f r 1 = 1 ∨ ocn c f r 1 = 2 ∨ ocn c f r 1 = 3) → oco c f r 1 = 1 ∨ oco c f r 1 = 2 ∨ oco c f r 1 = 3 := fun h => ocn_mv h
  refine Exq.call ?_ rfl rfl
  show Exq _ _ (cod m8_gain 0, [some (.inl 21), some (.inr f), some (.inr r), some (.inr 1), none], [], τ) _ _
  refine exq_k 1 (P := none) (g := (cod m8_gain 1, [some (.inl 21), some (.inr f), some (.inr r), some (.inr 1), none], [.inr 1], τ)) rfl trivial ?_
  refine exq_b (P := 1 = 0) (ct := (cod m8_gain 4, [some (.inl 21), some (.inr f), some (.inr r), some (.inr 1), none], [], τ)) (cf := (cod m8_gain 2, [some (.inl 21), some (.inr f), some (.inr r), some (.inr 1), none], [], τ)) rfl ⟨by decide, by decide⟩ (fun hh => absurd hh (by decide)) (fun _ => ?_)
  refine exq_k 5 (P := none) (g := (cod m8_gain 8, [some (.inl 21), some (.inr f), some (.inr r), some (.inr 1), some (.inr 1)], [.inr f, .inl 21], τ)) rfl trivial ?_
  refine exq_c (m_isFerry (τ := τ) (f := f) hI hR ⟨by omega, by omega⟩) (is := cod m8_gain 9) (L := [some (.inl 21), some (.inr f), some (.inr r), some (.inr 1), some (.inr 1)]) (st := []) rfl rfl rfl ?_
  show Exq _ _ (cod m8_gain 9, [some (.inl 21), some (.inr f), some (.inr r), some (.inr 1), some (.inr 1)], [.inr (b2 (0 ≤ f ∧ f < cel c 107))], τ) _ _
  refine exq_b (P := (b2 (0 ≤ f ∧ f < cel c 107)) = 0) (ct := (cod m8_gain 13, [some (.inl 21), some (.inr f), some (.inr r), some (.inr 1), some (.inr 1)], [], τ)) (cf := (cod m8_gain 10, [some (.inl 21), some (.inr f), some (.inr r), some (.inr 1), some (.inr 1)], [], τ)) rfl b2_rng (fun h2 => ?_) (fun h2 => ?_)
  · first
    | (exfalso; have h2 := b2_e0 h2; omega)
    | (
        have h2 := b2_e0 h2
        refine exq_k 2 (P := none) (g := (cod m8_gain 15, [some (.inl 21), some (.inr f), some (.inr r), some (.inr 1), some (.inr 1)], [.inr 1, .inl 21], τ)) rfl trivial ?_
        refine exq_c (m_fails (τ := τ) (k := 1)) (is := cod m8_gain 16) (L := [some (.inl 21), some (.inr f), some (.inr r), some (.inr 1), some (.inr 1)]) (st := []) rfl rfl rfl ?_
        show Exq _ _ (cod m8_gain 16, [some (.inl 21), some (.inr f), some (.inr r), some (.inr 1), some (.inr 1)], [.inr 0], (zr τ 21 (zu (τ 21) 7 1))) _ _
        exact exq_r rfl trivial rfl (qb3 h24 (by (repeat (first | rw [if_pos (by omega)] | rw [if_neg (by omega)])); first | done | rfl) (by (repeat (first | rw [if_pos (by omega)] | rw [if_neg (by omega)])); first | done | rfl)))
  · first
    | (exfalso; have h2 := b2_n0 h2; omega)
    | (
        have h2 := b2_n0 h2
        refine exq_k 1 (P := none) (g := (cod m8_gain 11, [some (.inl 21), some (.inr f), some (.inr r), some (.inr 1), some (.inr 1)], [.inr r], τ)) rfl trivial ?_
        refine exq_c (m_isRiver (τ := τ) (v := r) ⟨by omega, by omega⟩) (is := cod m8_gain 12) (L := [some (.inl 21), some (.inr f), some (.inr r), some (.inr 1), some (.inr 1)]) (st := []) rfl rfl rfl ?_
        show Exq _ _ (cod m8_gain 12, [some (.inl 21), some (.inr f), some (.inr r), some (.inr 1), some (.inr 1)], [.inr (b2 (0 ≤ r ∧ r < 2))], τ) _ _
        refine exq_b (P := ¬ (b2 (0 ≤ r ∧ r < 2)) = 0) (ct := (cod m8_gain 17, [some (.inl 21), some (.inr f), some (.inr r), some (.inr 1), some (.inr 1)], [], τ)) (cf := (cod m8_gain 13, [some (.inl 21), some (.inr f), some (.inr r), some (.inr 1), some (.inr 1)], [], τ)) rfl b2_rng (fun h3 => ?_) (fun h3 => ?_)
        · first
          | (exfalso; have h3 := b2_n0 h3; omega)
          | (
              have h3 := b2_n0 h3
              refine exq_k 5 (P := none) (g := (cod m8_gain 22, [some (.inl 21), some (.inr f), some (.inr r), some (.inr 1), some (.inr 1)], [.inr 1, .inr r, .inr f, .inl 21, .inl 21], τ)) rfl trivial ?_
              obtain ⟨e46, he46, hc46⟩ := m_hindersInTurn (τ := τ) (f := f) (r := r) (s := 1) hI hR (by omega) (by omega) (by omega)
              refine exq_c hc46 (is := cod m8_gain 23) (L := [some (.inl 21), some (.inr f), some (.inr r), some (.inr 1), some (.inr 1)]) (st := [.inl 21]) rfl rfl rfl ?_
              show Exq _ _ (cod m8_gain 23, [some (.inl 21), some (.inr f), some (.inr r), some (.inr 1), some (.inr 1)], [.inr (hnt c f r 1), .inl 21], (zr τ 21 (zu (τ 21) 10 e46))) _ _
              refine exq_b (P := (hnt c f r 1) ≤ 0) (ct := (cod m8_gain 26, [some (.inl 21), some (.inr f), some (.inr r), some (.inr 1), some (.inr 1)], [.inl 21], (zr τ 21 (zu (τ 21) 10 e46)))) (cf := (cod m8_gain 24, [some (.inl 21), some (.inr f), some (.inr r), some (.inr 1), some (.inr 1)], [.inl 21], (zr τ 21 (zu (τ 21) 10 e46)))) rfl ⟨by omega, by omega⟩ (fun h4 => ?_) (fun h4 => ?_)
              · first
                | (exfalso; omega)
                | (
                    refine exq_k 2 (P := none) (g := (cod m8_gain 28, [some (.inl 21), some (.inr f), some (.inr r), some (.inr 1), some (.inr 1)], [], (zr (zr τ 21 (zu (τ 21) 10 e46)) 21 (zu (zu (τ 21) 10 e46) 7 0)))) rfl trivial ?_
                    rw [zr_zr]
                    refine exq_k 2 (P := none) (g := (cod m8_gain 30, [some (.inl 21), some (.inr f), some (.inr r), some (.inr 1), some (.inr 1)], [.inr 0], (zr τ 21 (zu (zu (τ 21) 10 e46) 7 0)))) rfl trivial ?_
                    refine exq_b (P := 0 ≤ 0) (ct := (cod m8_gain 33, [some (.inl 21), some (.inr f), some (.inr r), some (.inr 1), some (.inr 1)], [], (zr τ 21 (zu (zu (τ 21) 10 e46) 7 0)))) (cf := (cod m8_gain 31, [some (.inl 21), some (.inr f), some (.inr r), some (.inr 1), some (.inr 1)], [], (zr τ 21 (zu (zu (τ 21) 10 e46) 7 0)))) rfl ⟨by decide, by decide⟩ (fun _ => ?_) (fun hh => absurd (by decide) hh)
                    refine exq_k 4 (P := none) (g := (cod m8_gain 37, [some (.inl 21), some (.inr f), some (.inr r), some (.inr 1), some (.inr 1)], [.inr 1, .inr r, .inr f, .inl 21], (zr τ 21 (zu (zu (τ 21) 10 e46) 7 0)))) rfl trivial ?_
                    obtain ⟨g2, hg2⟩ := m_gainBy (τ := (zr τ 21 (zu (zu (τ 21) 10 e46) 7 0))) (f := f) (r := r) (s := 1) hI hR h24 (by omega) (by omega) (by omega) (hom (by omega)) hB
                    refine exq_c hg2 (is := cod m8_gain 38) (L := [some (.inl 21), some (.inr f), some (.inr r), some (.inr 1), some (.inr 1)]) (st := []) rfl rfl rfl ?_
                    show Exq _ _ (cod m8_gain 38, [some (.inl 21), some (.inr f), some (.inr r), some (.inr 1), some (.inr 1)], [.inr (gnb c f r 1)], (zr (zr (zr τ 21 (zu (zu (τ 21) 10 e46) 7 0)) 21 (zu (zu (zu (τ 21) 10 e46) 7 0) 10 g2)) 24 (τ 22))) _ _
                    rw [zr_zr, zu_sw (i := 7) (j := 10) (by decide), zu_zu]
                    exact exq_r rfl trivial rfl (qb4 h22 (by (repeat (first | rw [if_pos (by omega)] | rw [if_neg (by omega)])); first | done | rfl) (by (repeat (first | rw [if_pos (by omega)] | rw [if_neg (by omega)])); first | done | rfl)))
              · first
                | (exfalso; omega)
                | (
                    refine exq_k 3 (P := none) (g := (cod m8_gain 28, [some (.inl 21), some (.inr f), some (.inr r), some (.inr 1), some (.inr 1)], [], (zr (zr τ 21 (zu (τ 21) 10 e46)) 21 (zu (zu (τ 21) 10 e46) 7 2)))) rfl trivial ?_
                    rw [zr_zr]
                    refine exq_k 2 (P := none) (g := (cod m8_gain 30, [some (.inl 21), some (.inr f), some (.inr r), some (.inr 1), some (.inr 1)], [.inr 2], (zr τ 21 (zu (zu (τ 21) 10 e46) 7 2)))) rfl trivial ?_
                    refine exq_b (P := 2 ≤ 0) (ct := (cod m8_gain 33, [some (.inl 21), some (.inr f), some (.inr r), some (.inr 1), some (.inr 1)], [], (zr τ 21 (zu (zu (τ 21) 10 e46) 7 2)))) (cf := (cod m8_gain 31, [some (.inl 21), some (.inr f), some (.inr r), some (.inr 1), some (.inr 1)], [], (zr τ 21 (zu (zu (τ 21) 10 e46) 7 2)))) rfl ⟨by decide, by decide⟩ (fun hh => absurd hh (by decide)) (fun _ => ?_)
                    refine exq_k 2 (P := none) (g := (cod m8_gain 38, [some (.inl 21), some (.inr f), some (.inr r), some (.inr 1), some (.inr 1)], [.inr 0], (zr τ 21 (zu (zu (τ 21) 10 e46) 7 2)))) rfl trivial ?_
                    exact exq_r rfl trivial rfl (qb2 h24 (by (repeat (first | rw [if_pos (by omega)] | rw [if_neg (by omega)])); first | done | rfl) (by (repeat (first | rw [if_pos (by omega)] | rw [if_neg (by omega)])); first | done | rfl))))
        · first
          | (exfalso; have h3 := b2_nn0 h3; omega)
          | (
              have h3 := b2_nn0 h3
              refine exq_k 2 (P := none) (g := (cod m8_gain 15, [some (.inl 21), some (.inr f), some (.inr r), some (.inr 1), some (.inr 1)], [.inr 1, .inl 21], τ)) rfl trivial ?_
              refine exq_c (m_fails (τ := τ) (k := 1)) (is := cod m8_gain 16) (L := [some (.inl 21), some (.inr f), some (.inr r), some (.inr 1), some (.inr 1)]) (st := []) rfl rfl rfl ?_
              show Exq _ _ (cod m8_gain 16, [some (.inl 21), some (.inr f), some (.inr r), some (.inr 1), some (.inr 1)], [.inr 0], (zr τ 21 (zu (τ 21) 7 1))) _ _
              exact exq_r rfl trivial rfl (qb3 h24 (by (repeat (first | rw [if_pos (by omega)] | rw [if_neg (by omega)])); first | done | rfl) (by (repeat (first | rw [if_pos (by omega)] | rw [if_neg (by omega)])); first | done | rfl))))
theorem d_undo {τ : SZ} (h6 : 0 ≤ τ 21 6 ∧ τ 21 6 ≤ 8) : RZ 1 m8_undo [.inl 21] τ (if τ 21 6 = 0 then .inl (some (.inr 0), th τ 1) else .inl (some (.inr (τ 21 6 - 1)), zr (zr τ 21 (zu (zu (τ 21) 7 0) 6 (τ 21 6 - 1))) 22 (zc (τ 26) (τ 22) (109 * (τ 21 6 - 1)).toNat 0 109))) := by
  refine Ex.call ?_ rfl rfl
  show Ex _ _ (cod m8_undo 0, [some (.inl 21)], [], τ) _ _
  refine ex_k 3 (P := none) (g := (cod m8_undo 3, [some (.inl 21)], [.inr ((τ 21) 6), .inl 21], τ)) rfl trivial ?_
  refine ex_b (P := ¬ ((τ 21) 6) = 0) (ct := (cod m8_undo 6, [some (.inl 21)], [.inl 21], τ)) (cf := (cod m8_undo 4, [some (.inl 21)], [.inl 21], τ)) rfl ⟨by omega, by omega⟩ (fun h1 => ?_) (fun h1 => ?_)
  · first
    | (exfalso; omega)
    | (
        refine ex_k 2 (P := none) (g := (cod m8_undo 8, [some (.inl 21)], [], (zr τ 21 (zu (τ 21) 7 0)))) rfl trivial ?_
        refine ex_k 2 (P := none) (g := (cod m8_undo 10, [some (.inl 21)], [.inr 0], (zr τ 21 (zu (τ 21) 7 0)))) rfl trivial ?_
        refine ex_b (P := 0 ≤ 0) (ct := (cod m8_undo 13, [some (.inl 21)], [], (zr τ 21 (zu (τ 21) 7 0)))) (cf := (cod m8_undo 11, [some (.inl 21)], [], (zr τ 21 (zu (τ 21) 7 0)))) rfl ⟨by decide, by decide⟩ (fun _ => ?_) (fun hh => absurd (by decide) hh)
        refine ex_k 6 (P := none) (g := (cod m8_undo 19, [some (.inl 21)], [], (zr (zr τ 21 (zu (τ 21) 7 0)) 21 (zu (zu (τ 21) 7 0) 6 (((τ 21) 6) - 1))))) rfl trivial ?_
        rw [zr_zr]
        refine ex_k 11 (P := some (0 ≤ (109 * (((τ 21) 6) - 1)) ∧ 0 ≤ 0 ∧ 0 ≤ 109 ∧ (109 * (((τ 21) 6) - 1)) + 109 ≤ ((872 : Nat) : Int) ∧ 0 + 109 ≤ ((109 : Nat) : Int))) (g := (cod m8_undo 30, [some (.inl 21)], [], (zr (zr τ 21 (zu (zu (τ 21) 7 0) 6 (((τ 21) 6) - 1))) 22 (zc (τ 26) (τ 22) (109 * (((τ 21) 6) - 1)).toNat 0 109)))) rfl (by show 0 ≤ (109 * (((τ 21) 6) - 1)) ∧ 0 ≤ 0 ∧ 0 ≤ 109 ∧ (109 * (((τ 21) 6) - 1)) + 109 ≤ ((872 : Nat) : Int) ∧ 0 + 109 ≤ ((109 : Nat) : Int); omega) ?_
        refine ex_k 2 (P := none) (g := (cod m8_undo 32, [some (.inl 21)], [.inr (((τ 21) 6) - 1)], (zr (zr τ 21 (zu (zu (τ 21) 7 0) 6 (((τ 21) 6) - 1))) 22 (zc (τ 26) (τ 22) (109 * (((τ 21) 6) - 1)).toNat 0 109)))) rfl trivial ?_
        exact ex_r rfl trivial rfl (by (repeat (first | rw [if_pos (by omega)] | rw [if_neg (by omega)])); first | done | rfl))
  · first
    | (exfalso; omega)
    | (
        refine ex_k 3 (P := none) (g := (cod m8_undo 8, [some (.inl 21)], [], (zr τ 21 (zu (τ 21) 7 1)))) rfl trivial ?_
        refine ex_k 2 (P := none) (g := (cod m8_undo 10, [some (.inl 21)], [.inr 1], (zr τ 21 (zu (τ 21) 7 1)))) rfl trivial ?_
        refine ex_b (P := 1 ≤ 0) (ct := (cod m8_undo 13, [some (.inl 21)], [], (zr τ 21 (zu (τ 21) 7 1)))) (cf := (cod m8_undo 11, [some (.inl 21)], [], (zr τ 21 (zu (τ 21) 7 1)))) rfl ⟨by decide, by decide⟩ (fun hh => absurd hh (by decide)) (fun _ => ?_)
        refine ex_k 1 (P := none) (g := (cod m8_undo 12, [some (.inl 21)], [.inr 0], (zr τ 21 (zu (τ 21) 7 1)))) rfl trivial ?_
        exact ex_r rfl trivial rfl (by (repeat (first | rw [if_pos (by omega)] | rw [if_neg (by omega)])); first | done | rfl))
theorem d_save {τ : SZ} (h22 : Tz (τ 22)) (h25 : Tz (τ 25)) : RZ 1 m8_save [.inl 21] τ (.inl (some (.inr (τ 22 0)), zr (zr τ 21 (zu (zu (τ 21) 7 0) 4 1)) 25 (τ 22))) := by
  refine Ex.call ?_ rfl rfl
  show Ex _ _ (cod m8_save 0, [some (.inl 21)], [], τ) _ _
  refine ex_k 3 (P := none) (g := (cod m8_save 3, [some (.inl 21)], [], (zr τ 21 (zu (τ 21) 7 0)))) rfl trivial ?_
  refine ex_k 8 (P := some (0 ≤ 0 ∧ 0 ≤ 0 ∧ 0 ≤ 109 ∧ 0 + 109 ≤ ((109 : Nat) : Int) ∧ 0 + 109 ≤ ((109 : Nat) : Int))) (g := (cod m8_save 11, [some (.inl 21)], [], (zr (zr τ 21 (zu (τ 21) 7 0)) 25 (zc (τ 22) (τ 25) 0 0 109)))) rfl (by show 0 ≤ 0 ∧ 0 ≤ 0 ∧ 0 ≤ 109 ∧ 0 + 109 ≤ ((109 : Nat) : Int) ∧ 0 + 109 ≤ ((109 : Nat) : Int); omega) ?_
  refine ex_k 3 (P := some (1 = 0 ∨ 1 = 1)) (g := (cod m8_save 14, [some (.inl 21)], [], (zr (zr (zr τ 21 (zu (τ 21) 7 0)) 25 (zc (τ 22) (τ 25) 0 0 109)) 21 (zu (zu (τ 21) 7 0) 4 1)))) rfl (by show 1 = 0 ∨ 1 = 1; omega) ?_
  rw [zr_sw (a := 25) (b := 21) (by decide), zr_zr]
  refine ex_k 4 (P := some (0 ≤ 0 ∧ 0 < ((109 : Nat) : Int))) (g := (cod m8_save 18, [some (.inl 21)], [.inr ((τ 22) 0)], (zr (zr τ 21 (zu (zu (τ 21) 7 0) 4 1)) 25 (zc (τ 22) (τ 25) 0 0 109)))) rfl (by show 0 ≤ 0 ∧ 0 < ((109 : Nat) : Int); omega) ?_
  exact ex_r rfl trivial rfl (by rw [zc_full h22 h25]; first | done | rfl)
theorem d_restore {τ : SZ} (h22 : Tz (τ 22)) (h25 : Tz (τ 25)) (h4 : 0 ≤ τ 21 4 ∧ τ 21 4 ≤ 1) : RZ 1 m8_restore [.inl 21] τ (if τ 21 4 = 0 then .inl (some (.inr 0), th τ 1) else .inl (some (.inr (τ 25 0)), zr (zr τ 21 (zu (zu (τ 21) 7 0) 6 0)) 22 (τ 25))) := by
  refine Ex.call ?_ rfl rfl
  show Ex _ _ (cod m8_restore 0, [some (.inl 21)], [], τ) _ _
  refine ex_k 3 (P := none) (g := (cod m8_restore 3, [some (.inl 21)], [.inr ((τ 21) 4), .inl 21], τ)) rfl trivial ?_
  refine ex_b (P := ((τ 21) 4) = 0) (ct := (cod m8_restore 6, [some (.inl 21)], [.inl 21], τ)) (cf := (cod m8_restore 4, [some (.inl 21)], [.inl 21], τ)) rfl ⟨by omega, by omega⟩ (fun h1 => ?_) (fun h1 => ?_)
  · first
    | (exfalso; omega)
    | (
        refine ex_k 2 (P := none) (g := (cod m8_restore 8, [some (.inl 21)], [], (zr τ 21 (zu (τ 21) 7 1)))) rfl trivial ?_
        refine ex_k 2 (P := none) (g := (cod m8_restore 10, [some (.inl 21)], [.inr 1], (zr τ 21 (zu (τ 21) 7 1)))) rfl trivial ?_
        refine ex_b (P := 1 ≤ 0) (ct := (cod m8_restore 13, [some (.inl 21)], [], (zr τ 21 (zu (τ 21) 7 1)))) (cf := (cod m8_restore 11, [some (.inl 21)], [], (zr τ 21 (zu (τ 21) 7 1)))) rfl ⟨by decide, by decide⟩ (fun hh => absurd hh (by decide)) (fun _ => ?_)
        refine ex_k 1 (P := none) (g := (cod m8_restore 12, [some (.inl 21)], [.inr 0], (zr τ 21 (zu (τ 21) 7 1)))) rfl trivial ?_
        exact ex_r rfl trivial rfl (by (repeat (first | rw [if_pos (by omega)] | rw [if_neg (by omega)])); first | done | rfl | (rw [zc_full h25 h22]; first | done | rfl)))
  · first
    | (exfalso; omega)
    | (
        refine ex_k 3 (P := none) (g := (cod m8_restore 8, [some (.inl 21)], [], (zr τ 21 (zu (τ 21) 7 0)))) rfl trivial ?_
        refine ex_k 2 (P := none) (g := (cod m8_restore 10, [some (.inl 21)], [.inr 0], (zr τ 21 (zu (τ 21) 7 0)))) rfl trivial ?_
        refine ex_b (P := 0 ≤ 0) (ct := (cod m8_restore 13, [some (.inl 21)], [], (zr τ 21 (zu (τ 21) 7 0)))) (cf := (cod m8_restore 11, [some (.inl 21)], [], (zr τ 21 (zu (τ 21) 7 0)))) rfl ⟨by decide, by decide⟩ (fun _ => ?_) (fun hh => absurd (by decide) hh)
        refine ex_k 8 (P := some (0 ≤ 0 ∧ 0 ≤ 0 ∧ 0 ≤ 109 ∧ 0 + 109 ≤ ((109 : Nat) : Int) ∧ 0 + 109 ≤ ((109 : Nat) : Int))) (g := (cod m8_restore 21, [some (.inl 21)], [], (zr (zr τ 21 (zu (τ 21) 7 0)) 22 (zc (τ 25) (τ 22) 0 0 109)))) rfl (by show 0 ≤ 0 ∧ 0 ≤ 0 ∧ 0 ≤ 109 ∧ 0 + 109 ≤ ((109 : Nat) : Int) ∧ 0 + 109 ≤ ((109 : Nat) : Int); omega) ?_
        refine ex_k 3 (P := none) (g := (cod m8_restore 24, [some (.inl 21)], [], (zr (zr (zr τ 21 (zu (τ 21) 7 0)) 22 (zc (τ 25) (τ 22) 0 0 109)) 21 (zu (zu (τ 21) 7 0) 6 0)))) rfl trivial ?_
        rw [zr_sw (a := 22) (b := 21) (by decide), zr_zr]
        refine ex_k 4 (P := some (0 ≤ 0 ∧ 0 < ((109 : Nat) : Int))) (g := (cod m8_restore 28, [some (.inl 21)], [.inr ((zc (τ 25) (τ 22) 0 0 109) 0)], (zr (zr τ 21 (zu (zu (τ 21) 7 0) 6 0)) 22 (zc (τ 25) (τ 22) 0 0 109)))) rfl (by show 0 ≤ 0 ∧ 0 < ((109 : Nat) : Int); omega) ?_
        exact ex_r rfl trivial rfl (by (repeat (first | rw [if_pos (by omega)] | rw [if_neg (by omega)])); first | done | rfl | (rw [zc_full h25 h22]; first | done | rfl)))
theorem d_append {v : Int} {τ : SZ} (h14 : 0 ≤ τ 21 14 ∧ τ 21 14 ≤ 60) (hv : 0 ≤ v ∧ v < 65536) : RZ 1 m8_append [.inl 21, .inr v] τ (if τ 21 14 = 60 then .inl (some (.inr 0), th τ 1) else .inl (some (.inr (τ 21 14 + 1)), zr (zr τ 21 (zu (zu (τ 21) 7 0) 14 (τ 21 14 + 1))) 29 (zu (τ 29) (τ 21 14).toNat v))) := by
  refine Ex.call ?_ rfl rfl
  show Ex _ _ (cod m8_append 0, [some (.inl 21), some (.inr v)], [], τ) _ _
  refine ex_k 4 (P := none) (g := (cod m8_append 4, [some (.inl 21), some (.inr v)], [.inr 60, .inr ((τ 21) 14), .inl 21], τ)) rfl trivial ?_
  refine ex_b (P := ¬ ((τ 21) 14) = 60) (ct := (cod m8_append 7, [some (.inl 21), some (.inr v)], [.inl 21], τ)) (cf := (cod m8_append 5, [some (.inl 21), some (.inr v)], [.inl 21], τ)) rfl ⟨⟨by omega, by omega⟩, ⟨by decide, by decide⟩⟩ (fun h1 => ?_) (fun h1 => ?_)
  · first
    | (exfalso; omega)
    | (
        refine ex_k 2 (P := none) (g := (cod m8_append 9, [some (.inl 21), some (.inr v)], [], (zr τ 21 (zu (τ 21) 7 0)))) rfl trivial ?_
        refine ex_k 2 (P := none) (g := (cod m8_append 11, [some (.inl 21), some (.inr v)], [.inr 0], (zr τ 21 (zu (τ 21) 7 0)))) rfl trivial ?_
        refine ex_b (P := 0 ≤ 0) (ct := (cod m8_append 14, [some (.inl 21), some (.inr v)], [], (zr τ 21 (zu (τ 21) 7 0)))) (cf := (cod m8_append 12, [some (.inl 21), some (.inr v)], [], (zr τ 21 (zu (τ 21) 7 0)))) rfl ⟨by decide, by decide⟩ (fun _ => ?_) (fun hh => absurd (by decide) hh)
        refine ex_k 6 (P := some ((0 ≤ ((τ 21) 14) ∧ ((τ 21) 14) < ((60 : Nat) : Int)) ∧ (1 = 1 → 0 ≤ v ∧ v < 65536))) (g := (cod m8_append 20, [some (.inl 21), some (.inr v)], [], (zr (zr τ 21 (zu (τ 21) 7 0)) 29 (zu (τ 29) ((τ 21) 14).toNat v)))) rfl (by show (0 ≤ ((τ 21) 14) ∧ ((τ 21) 14) < ((60 : Nat) : Int)) ∧ (1 = 1 → 0 ≤ v ∧ v < 65536); omega) ?_
        refine ex_k 6 (P := none) (g := (cod m8_append 26, [some (.inl 21), some (.inr v)], [], (zr (zr (zr τ 21 (zu (τ 21) 7 0)) 29 (zu (τ 29) ((τ 21) 14).toNat v)) 21 (zu (zu (τ 21) 7 0) 14 (((τ 21) 14) + 1))))) rfl trivial ?_
        rw [zr_sw (a := 29) (b := 21) (by decide), zr_zr]
        refine ex_k 2 (P := none) (g := (cod m8_append 28, [some (.inl 21), some (.inr v)], [.inr (((τ 21) 14) + 1)], (zr (zr τ 21 (zu (zu (τ 21) 7 0) 14 (((τ 21) 14) + 1))) 29 (zu (τ 29) ((τ 21) 14).toNat v)))) rfl trivial ?_
        exact ex_r rfl trivial rfl (by (repeat (first | rw [if_pos (by omega)] | rw [if_neg (by omega)])); first | done | rfl | (rw [zr_sw (by decide)]; first | done | rfl)))
  · first
    | (exfalso; omega)
    | (
        refine ex_k 3 (P := none) (g := (cod m8_append 9, [some (.inl 21), some (.inr v)], [], (zr τ 21 (zu (τ 21) 7 1)))) rfl trivial ?_
        refine ex_k 2 (P := none) (g := (cod m8_append 11, [some (.inl 21), some (.inr v)], [.inr 1], (zr τ 21 (zu (τ 21) 7 1)))) rfl trivial ?_
        refine ex_b (P := 1 ≤ 0) (ct := (cod m8_append 14, [some (.inl 21), some (.inr v)], [], (zr τ 21 (zu (τ 21) 7 1)))) (cf := (cod m8_append 12, [some (.inl 21), some (.inr v)], [], (zr τ 21 (zu (τ 21) 7 1)))) rfl ⟨by decide, by decide⟩ (fun hh => absurd hh (by decide)) (fun _ => ?_)
        refine ex_k 1 (P := none) (g := (cod m8_append 13, [some (.inl 21), some (.inr v)], [.inr 0], (zr τ 21 (zu (τ 21) 7 1)))) rfl trivial ?_
        exact ex_r rfl trivial rfl (by (repeat (first | rw [if_pos (by omega)] | rw [if_neg (by omega)])); first | done | rfl | (rw [zr_sw (by decide)]; first | done | rfl)))
end MGA
