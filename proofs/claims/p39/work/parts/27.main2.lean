/-! the class's own methods but those of lines and texts: printed by wip/whole/db11.py -/
section MA2
theorem b2_or {P : Prop} [Decidable P] : b2 P = 0 ∨ b2 P = 1 := by unfold b2; split; exact Or.inr rfl; exact Or.inl rfl
theorem s_needNone_0 {τ : SZ} : RZ 1 m7_needNone [.inr 0] τ (.inl (none, τ)) := by
  refine Ex.call ?_ rfl rfl
  show Ex _ _ (cod m7_needNone 0, [some (.inr 0)], [], τ) _ _
  refine ex_k 2 (P := none) (g := (cod m7_needNone 2, [some (.inr 0)], [.inr 1, .inr 0], τ)) rfl trivial ?_
  refine ex_b (P := ¬ 0 = 1) (ct := (cod m7_needNone 7, [some (.inr 0)], [], τ)) (cf := (cod m7_needNone 3, [some (.inr 0)], [], τ)) rfl ⟨⟨by decide, by decide⟩, ⟨by decide, by decide⟩⟩ (fun _ => ?_) (fun hh => absurd (by decide) hh)
  refine ex_k 2 (P := none) (g := (cod m7_needNone 9, [some (.inr 0)], [.inr 2, .inr 0], τ)) rfl trivial ?_
  refine ex_b (P := ¬ 0 = 2) (ct := (cod m7_needNone 14, [some (.inr 0)], [], τ)) (cf := (cod m7_needNone 10, [some (.inr 0)], [], τ)) rfl ⟨⟨by decide, by decide⟩, ⟨by decide, by decide⟩⟩ (fun _ => ?_) (fun hh => absurd (by decide) hh)
  refine ex_k 2 (P := none) (g := (cod m7_needNone 16, [some (.inr 0)], [.inr 3, .inr 0], τ)) rfl trivial ?_
  refine ex_b (P := ¬ 0 = 3) (ct := (cod m7_needNone 21, [some (.inr 0)], [], τ)) (cf := (cod m7_needNone 17, [some (.inr 0)], [], τ)) rfl ⟨⟨by decide, by decide⟩, ⟨by decide, by decide⟩⟩ (fun _ => ?_) (fun hh => absurd (by decide) hh)
  exact ex_r rfl rfl rfl (rfl)
theorem s_needNone_1 {τ : SZ} : RZ 1 m7_needNone [.inr 1] τ (.inr ("java/lang/IndexOutOfBoundsException", τ)) := by
  refine Ex.call ?_ rfl rfl
  show Ex _ _ (cod m7_needNone 0, [some (.inr 1)], [], τ) _ _
  refine ex_k 2 (P := none) (g := (cod m7_needNone 2, [some (.inr 1)], [.inr 1, .inr 1], τ)) rfl trivial ?_
  refine ex_b (P := ¬ 1 = 1) (ct := (cod m7_needNone 7, [some (.inr 1)], [], τ)) (cf := (cod m7_needNone 3, [some (.inr 1)], [], τ)) rfl ⟨⟨by decide, by decide⟩, ⟨by decide, by decide⟩⟩ (fun hh => absurd hh (by decide)) (fun _ => ?_)
  exact ex_t rfl rfl (rfl)
theorem s_needNone_2 {τ : SZ} : RZ 1 m7_needNone [.inr 2] τ (.inr ("java/lang/IllegalArgumentException", τ)) := by
  refine Ex.call ?_ rfl rfl
  show Ex _ _ (cod m7_needNone 0, [some (.inr 2)], [], τ) _ _
  refine ex_k 2 (P := none) (g := (cod m7_needNone 2, [some (.inr 2)], [.inr 1, .inr 2], τ)) rfl trivial ?_
  refine ex_b (P := ¬ 2 = 1) (ct := (cod m7_needNone 7, [some (.inr 2)], [], τ)) (cf := (cod m7_needNone 3, [some (.inr 2)], [], τ)) rfl ⟨⟨by decide, by decide⟩, ⟨by decide, by decide⟩⟩ (fun _ => ?_) (fun hh => absurd (by decide) hh)
  refine ex_k 2 (P := none) (g := (cod m7_needNone 9, [some (.inr 2)], [.inr 2, .inr 2], τ)) rfl trivial ?_
  refine ex_b (P := ¬ 2 = 2) (ct := (cod m7_needNone 14, [some (.inr 2)], [], τ)) (cf := (cod m7_needNone 10, [some (.inr 2)], [], τ)) rfl ⟨⟨by decide, by decide⟩, ⟨by decide, by decide⟩⟩ (fun hh => absurd hh (by decide)) (fun _ => ?_)
  exact ex_t rfl rfl (rfl)
theorem s_needNone_3 {τ : SZ} : RZ 1 m7_needNone [.inr 3] τ (.inr ("java/lang/UnsupportedOperationException", τ)) := by
  refine Ex.call ?_ rfl rfl
  show Ex _ _ (cod m7_needNone 0, [some (.inr 3)], [], τ) _ _
  refine ex_k 2 (P := none) (g := (cod m7_needNone 2, [some (.inr 3)], [.inr 1, .inr 3], τ)) rfl trivial ?_
  refine ex_b (P := ¬ 3 = 1) (ct := (cod m7_needNone 7, [some (.inr 3)], [], τ)) (cf := (cod m7_needNone 3, [some (.inr 3)], [], τ)) rfl ⟨⟨by decide, by decide⟩, ⟨by decide, by decide⟩⟩ (fun _ => ?_) (fun hh => absurd (by decide) hh)
  refine ex_k 2 (P := none) (g := (cod m7_needNone 9, [some (.inr 3)], [.inr 2, .inr 3], τ)) rfl trivial ?_
  refine ex_b (P := ¬ 3 = 2) (ct := (cod m7_needNone 14, [some (.inr 3)], [], τ)) (cf := (cod m7_needNone 10, [some (.inr 3)], [], τ)) rfl ⟨⟨by decide, by decide⟩, ⟨by decide, by decide⟩⟩ (fun _ => ?_) (fun hh => absurd (by decide) hh)
  refine ex_k 2 (P := none) (g := (cod m7_needNone 16, [some (.inr 3)], [.inr 3, .inr 3], τ)) rfl trivial ?_
  refine ex_b (P := ¬ 3 = 3) (ct := (cod m7_needNone 21, [some (.inr 3)], [], τ)) (cf := (cod m7_needNone 17, [some (.inr 3)], [], τ)) rfl ⟨⟨by decide, by decide⟩, ⟨by decide, by decide⟩⟩ (fun hh => absurd hh (by decide)) (fun _ => ?_)
  exact ex_t rfl rfl (rfl)
theorem s_needFerry_ok {f : Int} {τ : SZ} {B : Int} (hS : Sh B (τ 4)) (hf : Rng f) (hc : 0 ≤ f ∧ f < cel (τ 4) 107) : RZ 3 m7_needFerry [.inl 0, .inr f] τ (.inl (none, τ)) := by
  have hN := hS.n
  obtain ⟨hf1, hf2⟩ := hf
  refine Ex.call ?_ rfl rfl
  show Ex _ _ (cod m7_needFerry 0, [some (.inl 0), some (.inr f)], [], τ) _ _
  refine ex_k 3 (P := none) (g := (cod m7_needFerry 3, [some (.inl 0), some (.inr f)], [.inr f, .inl 1], τ)) rfl trivial ?_
  refine ex_c (s_isFerry (τ := τ) (f := f) (Or.inl ⟨rfl, rfl⟩) ⟨by omega, by omega⟩ hS.bd) (is := cod m7_needFerry 4) (L := [some (.inl 0), some (.inr f)]) (st := []) rfl rfl rfl ?_
  show Ex _ _ (cod m7_needFerry 4, [some (.inl 0), some (.inr f)], [.inr (b2 (0 ≤ f ∧ f < cel (τ 4) 107))], τ) _ _
  refine ex_b (P := ¬ (b2 (0 ≤ f ∧ f < cel (τ 4) 107)) = 0) (ct := (cod m7_needFerry 9, [some (.inl 0), some (.inr f)], [], τ)) (cf := (cod m7_needFerry 5, [some (.inl 0), some (.inr f)], [], τ)) rfl b2_rng (fun h1 => ?_) (fun h1 => ?_)
  · first
    | (exfalso; have h1 := b2_n0 h1; omega)
    | (
        have h1 := b2_n0 h1
        exact ex_r rfl rfl rfl (rfl))
  · first
    | (exfalso; have h1 := b2_nn0 h1; omega)
    | (
        have h1 := b2_nn0 h1
        exact ex_t rfl rfl (rfl))
theorem s_needFerry_x {f : Int} {τ : SZ} {B : Int} (hS : Sh B (τ 4)) (hf : Rng f) (hc : ¬ (0 ≤ f ∧ f < cel (τ 4) 107)) : RZ 3 m7_needFerry [.inl 0, .inr f] τ (.inr ("java/lang/IndexOutOfBoundsException", τ)) := by
  have hN := hS.n
  obtain ⟨hf1, hf2⟩ := hf
  refine Ex.call ?_ rfl rfl
  show Ex _ _ (cod m7_needFerry 0, [some (.inl 0), some (.inr f)], [], τ) _ _
  refine ex_k 3 (P := none) (g := (cod m7_needFerry 3, [some (.inl 0), some (.inr f)], [.inr f, .inl 1], τ)) rfl trivial ?_
  refine ex_c (s_isFerry (τ := τ) (f := f) (Or.inl ⟨rfl, rfl⟩) ⟨by omega, by omega⟩ hS.bd) (is := cod m7_needFerry 4) (L := [some (.inl 0), some (.inr f)]) (st := []) rfl rfl rfl ?_
  show Ex _ _ (cod m7_needFerry 4, [some (.inl 0), some (.inr f)], [.inr (b2 (0 ≤ f ∧ f < cel (τ 4) 107))], τ) _ _
  refine ex_b (P := ¬ (b2 (0 ≤ f ∧ f < cel (τ 4) 107)) = 0) (ct := (cod m7_needFerry 9, [some (.inl 0), some (.inr f)], [], τ)) (cf := (cod m7_needFerry 5, [some (.inl 0), some (.inr f)], [], τ)) rfl b2_rng (fun h1 => ?_) (fun h1 => ?_)
  · first
    | (exfalso; have h1 := b2_n0 h1; omega)
    | (
        have h1 := b2_n0 h1
        exact ex_r rfl rfl rfl (rfl))
  · first
    | (exfalso; have h1 := b2_nn0 h1; omega)
    | (
        have h1 := b2_nn0 h1
        exact ex_t rfl rfl (rfl))
theorem s_needFerryAndRiver_ok {f r : Int} {τ : SZ} {B : Int} (hS : Sh B (τ 4)) (hf : Rng f) (hr : Rng r) (hc : (0 ≤ f ∧ f < cel (τ 4) 107) ∧ (0 ≤ r ∧ r < 2)) : RZ 3 m7_needFerryAndRiver [.inl 0, .inr f, .inr r] τ (.inl (none, τ)) := by
  have hN := hS.n
  obtain ⟨hf1, hf2⟩ := hf
  obtain ⟨hr1, hr2⟩ := hr
  refine Ex.call ?_ rfl rfl
  show Ex _ _ (cod m7_needFerryAndRiver 0, [some (.inl 0), some (.inr f), some (.inr r)], [], τ) _ _
  refine ex_k 3 (P := none) (g := (cod m7_needFerryAndRiver 3, [some (.inl 0), some (.inr f), some (.inr r)], [.inr f, .inl 1], τ)) rfl trivial ?_
  refine ex_c (s_isFerry (τ := τ) (f := f) (Or.inl ⟨rfl, rfl⟩) ⟨by omega, by omega⟩ hS.bd) (is := cod m7_needFerryAndRiver 4) (L := [some (.inl 0), some (.inr f), some (.inr r)]) (st := []) rfl rfl rfl ?_
  show Ex _ _ (cod m7_needFerryAndRiver 4, [some (.inl 0), some (.inr f), some (.inr r)], [.inr (b2 (0 ≤ f ∧ f < cel (τ 4) 107))], τ) _ _
  refine ex_b (P := (b2 (0 ≤ f ∧ f < cel (τ 4) 107)) = 0) (ct := (cod m7_needFerryAndRiver 8, [some (.inl 0), some (.inr f), some (.inr r)], [], τ)) (cf := (cod m7_needFerryAndRiver 5, [some (.inl 0), some (.inr f), some (.inr r)], [], τ)) rfl b2_rng (fun h1 => ?_) (fun h1 => ?_)
  · first
    | (exfalso; have h1 := b2_e0 h1; omega)
    | (
        have h1 := b2_e0 h1
        exact ex_t rfl rfl (rfl))
  · first
    | (exfalso; have h1 := b2_n0 h1; omega)
    | (
        have h1 := b2_n0 h1
        refine ex_k 1 (P := none) (g := (cod m7_needFerryAndRiver 6, [some (.inl 0), some (.inr f), some (.inr r)], [.inr r], τ)) rfl trivial ?_
        refine ex_c (s_isRiver (τ := τ) (z := r) ⟨by omega, by omega⟩) (is := cod m7_needFerryAndRiver 7) (L := [some (.inl 0), some (.inr f), some (.inr r)]) (st := []) rfl rfl rfl ?_
        show Ex _ _ (cod m7_needFerryAndRiver 7, [some (.inl 0), some (.inr f), some (.inr r)], [.inr (b2 (0 ≤ r ∧ r < 2))], τ) _ _
        refine ex_b (P := ¬ (b2 (0 ≤ r ∧ r < 2)) = 0) (ct := (cod m7_needFerryAndRiver 12, [some (.inl 0), some (.inr f), some (.inr r)], [], τ)) (cf := (cod m7_needFerryAndRiver 8, [some (.inl 0), some (.inr f), some (.inr r)], [], τ)) rfl b2_rng (fun h2 => ?_) (fun h2 => ?_)
        · first
          | (exfalso; have h2 := b2_n0 h2; omega)
          | (
              have h2 := b2_n0 h2
              exact ex_r rfl rfl rfl (rfl))
        · first
          | (exfalso; have h2 := b2_nn0 h2; omega)
          | (
              have h2 := b2_nn0 h2
              exact ex_t rfl rfl (rfl)))
theorem s_needFerryAndRiver_x {f r : Int} {τ : SZ} {B : Int} (hS : Sh B (τ 4)) (hf : Rng f) (hr : Rng r) (hc : ¬ ((0 ≤ f ∧ f < cel (τ 4) 107) ∧ (0 ≤ r ∧ r < 2))) : RZ 3 m7_needFerryAndRiver [.inl 0, .inr f, .inr r] τ (.inr ("java/lang/IndexOutOfBoundsException", τ)) := by
  have hN := hS.n
  obtain ⟨hf1, hf2⟩ := hf
  obtain ⟨hr1, hr2⟩ := hr
  refine Ex.call ?_ rfl rfl
  show Ex _ _ (cod m7_needFerryAndRiver 0, [some (.inl 0), some (.inr f), some (.inr r)], [], τ) _ _
  refine ex_k 3 (P := none) (g := (cod m7_needFerryAndRiver 3, [some (.inl 0), some (.inr f), some (.inr r)], [.inr f, .inl 1], τ)) rfl trivial ?_
  refine ex_c (s_isFerry (τ := τ) (f := f) (Or.inl ⟨rfl, rfl⟩) ⟨by omega, by omega⟩ hS.bd) (is := cod m7_needFerryAndRiver 4) (L := [some (.inl 0), some (.inr f), some (.inr r)]) (st := []) rfl rfl rfl ?_
  show Ex _ _ (cod m7_needFerryAndRiver 4, [some (.inl 0), some (.inr f), some (.inr r)], [.inr (b2 (0 ≤ f ∧ f < cel (τ 4) 107))], τ) _ _
  refine ex_b (P := (b2 (0 ≤ f ∧ f < cel (τ 4) 107)) = 0) (ct := (cod m7_needFerryAndRiver 8, [some (.inl 0), some (.inr f), some (.inr r)], [], τ)) (cf := (cod m7_needFerryAndRiver 5, [some (.inl 0), some (.inr f), some (.inr r)], [], τ)) rfl b2_rng (fun h1 => ?_) (fun h1 => ?_)
  · first
    | (exfalso; have h1 := b2_e0 h1; omega)
    | (
        have h1 := b2_e0 h1
        exact ex_t rfl rfl (rfl))
  · first
    | (exfalso; have h1 := b2_n0 h1; omega)
    | (
        have h1 := b2_n0 h1
        refine ex_k 1 (P := none) (g := (cod m7_needFerryAndRiver 6, [some (.inl 0), some (.inr f), some (.inr r)], [.inr r], τ)) rfl trivial ?_
        refine ex_c (s_isRiver (τ := τ) (z := r) ⟨by omega, by omega⟩) (is := cod m7_needFerryAndRiver 7) (L := [some (.inl 0), some (.inr f), some (.inr r)]) (st := []) rfl rfl rfl ?_
        show Ex _ _ (cod m7_needFerryAndRiver 7, [some (.inl 0), some (.inr f), some (.inr r)], [.inr (b2 (0 ≤ r ∧ r < 2))], τ) _ _
        refine ex_b (P := ¬ (b2 (0 ≤ r ∧ r < 2)) = 0) (ct := (cod m7_needFerryAndRiver 12, [some (.inl 0), some (.inr f), some (.inr r)], [], τ)) (cf := (cod m7_needFerryAndRiver 8, [some (.inl 0), some (.inr f), some (.inr r)], [], τ)) rfl b2_rng (fun h2 => ?_) (fun h2 => ?_)
        · first
          | (exfalso; have h2 := b2_n0 h2; omega)
          | (
              have h2 := b2_n0 h2
              exact ex_r rfl rfl rfl (rfl))
        · first
          | (exfalso; have h2 := b2_nn0 h2; omega)
          | (
              have h2 := b2_nn0 h2
              exact ex_t rfl rfl (rfl)))
theorem s_needSpot_ok {r p : Int} {τ : SZ} (hr : Rng r) (hp : Rng p) (hc : (0 ≤ r ∧ r < 2) ∧ (0 ≤ p ∧ p < 12)) : RZ 2 m7_needSpot [.inr r, .inr p] τ (.inl (none, τ)) := by
  obtain ⟨hr1, hr2⟩ := hr
  obtain ⟨hp1, hp2⟩ := hp
  refine Ex.call ?_ rfl rfl
  show Ex _ _ (cod m7_needSpot 0, [some (.inr r), some (.inr p)], [], τ) _ _
  refine ex_k 1 (P := none) (g := (cod m7_needSpot 1, [some (.inr r), some (.inr p)], [.inr r], τ)) rfl trivial ?_
  refine ex_c (s_isRiver (τ := τ) (z := r) ⟨by omega, by omega⟩) (is := cod m7_needSpot 2) (L := [some (.inr r), some (.inr p)]) (st := []) rfl rfl rfl ?_
  show Ex _ _ (cod m7_needSpot 2, [some (.inr r), some (.inr p)], [.inr (b2 (0 ≤ r ∧ r < 2))], τ) _ _
  refine ex_b (P := (b2 (0 ≤ r ∧ r < 2)) = 0) (ct := (cod m7_needSpot 6, [some (.inr r), some (.inr p)], [], τ)) (cf := (cod m7_needSpot 3, [some (.inr r), some (.inr p)], [], τ)) rfl b2_rng (fun h1 => ?_) (fun h1 => ?_)
  · first
    | (exfalso; have h1 := b2_e0 h1; omega)
    | (
        have h1 := b2_e0 h1
        exact ex_t rfl rfl (rfl))
  · first
    | (exfalso; have h1 := b2_n0 h1; omega)
    | (
        have h1 := b2_n0 h1
        refine ex_k 1 (P := none) (g := (cod m7_needSpot 4, [some (.inr r), some (.inr p)], [.inr p], τ)) rfl trivial ?_
        refine ex_c (s_isPlace (τ := τ) (z := p) ⟨by omega, by omega⟩) (is := cod m7_needSpot 5) (L := [some (.inr r), some (.inr p)]) (st := []) rfl rfl rfl ?_
        show Ex _ _ (cod m7_needSpot 5, [some (.inr r), some (.inr p)], [.inr (b2 (0 ≤ p ∧ p < 12))], τ) _ _
        refine ex_b (P := ¬ (b2 (0 ≤ p ∧ p < 12)) = 0) (ct := (cod m7_needSpot 10, [some (.inr r), some (.inr p)], [], τ)) (cf := (cod m7_needSpot 6, [some (.inr r), some (.inr p)], [], τ)) rfl b2_rng (fun h2 => ?_) (fun h2 => ?_)
        · first
          | (exfalso; have h2 := b2_n0 h2; omega)
          | (
              have h2 := b2_n0 h2
              exact ex_r rfl rfl rfl (rfl))
        · first
          | (exfalso; have h2 := b2_nn0 h2; omega)
          | (
              have h2 := b2_nn0 h2
              exact ex_t rfl rfl (rfl)))
theorem s_needSpot_x {r p : Int} {τ : SZ} (hr : Rng r) (hp : Rng p) (hc : ¬ ((0 ≤ r ∧ r < 2) ∧ (0 ≤ p ∧ p < 12))) : RZ 2 m7_needSpot [.inr r, .inr p] τ (.inr ("java/lang/IndexOutOfBoundsException", τ)) := by
  obtain ⟨hr1, hr2⟩ := hr
  obtain ⟨hp1, hp2⟩ := hp
  refine Ex.call ?_ rfl rfl
  show Ex _ _ (cod m7_needSpot 0, [some (.inr r), some (.inr p)], [], τ) _ _
  refine ex_k 1 (P := none) (g := (cod m7_needSpot 1, [some (.inr r), some (.inr p)], [.inr r], τ)) rfl trivial ?_
  refine ex_c (s_isRiver (τ := τ) (z := r) ⟨by omega, by omega⟩) (is := cod m7_needSpot 2) (L := [some (.inr r), some (.inr p)]) (st := []) rfl rfl rfl ?_
  show Ex _ _ (cod m7_needSpot 2, [some (.inr r), some (.inr p)], [.inr (b2 (0 ≤ r ∧ r < 2))], τ) _ _
  refine ex_b (P := (b2 (0 ≤ r ∧ r < 2)) = 0) (ct := (cod m7_needSpot 6, [some (.inr r), some (.inr p)], [], τ)) (cf := (cod m7_needSpot 3, [some (.inr r), some (.inr p)], [], τ)) rfl b2_rng (fun h1 => ?_) (fun h1 => ?_)
  · first
    | (exfalso; have h1 := b2_e0 h1; omega)
    | (
        have h1 := b2_e0 h1
        exact ex_t rfl rfl (rfl))
  · first
    | (exfalso; have h1 := b2_n0 h1; omega)
    | (
        have h1 := b2_n0 h1
        refine ex_k 1 (P := none) (g := (cod m7_needSpot 4, [some (.inr r), some (.inr p)], [.inr p], τ)) rfl trivial ?_
        refine ex_c (s_isPlace (τ := τ) (z := p) ⟨by omega, by omega⟩) (is := cod m7_needSpot 5) (L := [some (.inr r), some (.inr p)]) (st := []) rfl rfl rfl ?_
        show Ex _ _ (cod m7_needSpot 5, [some (.inr r), some (.inr p)], [.inr (b2 (0 ≤ p ∧ p < 12))], τ) _ _
        refine ex_b (P := ¬ (b2 (0 ≤ p ∧ p < 12)) = 0) (ct := (cod m7_needSpot 10, [some (.inr r), some (.inr p)], [], τ)) (cf := (cod m7_needSpot 6, [some (.inr r), some (.inr p)], [], τ)) rfl b2_rng (fun h2 => ?_) (fun h2 => ?_)
        · first
          | (exfalso; have h2 := b2_n0 h2; omega)
          | (
              have h2 := b2_n0 h2
              exact ex_r rfl rfl rfl (rfl))
        · first
          | (exfalso; have h2 := b2_nn0 h2; omega)
          | (
              have h2 := b2_nn0 h2
              exact ex_t rfl rfl (rfl)))
theorem s_needSide_ok {x : Int} {τ : SZ} (hx : Rng x) (hc : 0 ≤ x ∧ x < 2) : RZ 2 m7_needSide [.inr x] τ (.inl (none, τ)) := by
  obtain ⟨hx1, hx2⟩ := hx
  refine Ex.call ?_ rfl rfl
  show Ex _ _ (cod m7_needSide 0, [some (.inr x)], [], τ) _ _
  refine ex_k 1 (P := none) (g := (cod m7_needSide 1, [some (.inr x)], [.inr x], τ)) rfl trivial ?_
  refine ex_c (s_isSide (τ := τ) (z := x) ⟨by omega, by omega⟩) (is := cod m7_needSide 2) (L := [some (.inr x)]) (st := []) rfl rfl rfl ?_
  show Ex _ _ (cod m7_needSide 2, [some (.inr x)], [.inr (b2 (0 ≤ x ∧ x < 2))], τ) _ _
  refine ex_b (P := ¬ (b2 (0 ≤ x ∧ x < 2)) = 0) (ct := (cod m7_needSide 7, [some (.inr x)], [], τ)) (cf := (cod m7_needSide 3, [some (.inr x)], [], τ)) rfl b2_rng (fun h1 => ?_) (fun h1 => ?_)
  · first
    | (exfalso; have h1 := b2_n0 h1; omega)
    | (
        have h1 := b2_n0 h1
        exact ex_r rfl rfl rfl (rfl))
  · first
    | (exfalso; have h1 := b2_nn0 h1; omega)
    | (
        have h1 := b2_nn0 h1
        exact ex_t rfl rfl (rfl))
theorem s_needSide_x {x : Int} {τ : SZ} (hx : Rng x) (hc : ¬ (0 ≤ x ∧ x < 2)) : RZ 2 m7_needSide [.inr x] τ (.inr ("java/lang/IllegalArgumentException", τ)) := by
  obtain ⟨hx1, hx2⟩ := hx
  refine Ex.call ?_ rfl rfl
  show Ex _ _ (cod m7_needSide 0, [some (.inr x)], [], τ) _ _
  refine ex_k 1 (P := none) (g := (cod m7_needSide 1, [some (.inr x)], [.inr x], τ)) rfl trivial ?_
  refine ex_c (s_isSide (τ := τ) (z := x) ⟨by omega, by omega⟩) (is := cod m7_needSide 2) (L := [some (.inr x)]) (st := []) rfl rfl rfl ?_
  show Ex _ _ (cod m7_needSide 2, [some (.inr x)], [.inr (b2 (0 ≤ x ∧ x < 2))], τ) _ _
  refine ex_b (P := ¬ (b2 (0 ≤ x ∧ x < 2)) = 0) (ct := (cod m7_needSide 7, [some (.inr x)], [], τ)) (cf := (cod m7_needSide 3, [some (.inr x)], [], τ)) rfl b2_rng (fun h1 => ?_) (fun h1 => ?_)
  · first
    | (exfalso; have h1 := b2_n0 h1; omega)
    | (
        have h1 := b2_n0 h1
        exact ex_r rfl rfl rfl (rfl))
  · first
    | (exfalso; have h1 := b2_nn0 h1; omega)
    | (
        have h1 := b2_nn0 h1
        exact ex_t rfl rfl (rfl))
theorem obF_in {c : Nat → Int} {x p q : Int} : obF c x p q = 0 ∨ obF c x p q = 2 ∨ obF c x p q = 3 := by
  unfold obF
  repeat (first | omega | split)
theorem obT_in {c : Nat → Int} {r p : Int} : obT c r p = 0 ∨ obT c r p = 1 ∨ obT c r p = 3 := by
  unfold obT
  repeat (first | omega | split)
theorem obL_in {c : Nat → Int} {r p v : Int} : obL c r p v = 0 ∨ obL c r p v = 1 ∨ obL c r p v = 2 ∨ obL c r p v = 3 := by
  unfold obL
  repeat (first | omega | split)
theorem obG_in {c : Nat → Int} {r p v : Int} : obG c r p v = 0 ∨ obG c r p v = 1 ∨ obG c r p v = 2 ∨ obG c r p v = 3 := by
  unfold obG
  repeat (first | omega | split)
theorem obM_in {c : Nat → Int} {f r s : Int} : obM c f r s = 0 ∨ obM c f r s = 1 ∨ obM c f r s = 3 := by
  unfold obM
  repeat (first | omega | split)
theorem obP_in {c : Nat → Int} : obP c = 0 ∨ obP c = 3 := by
  unfold obP
  repeat (first | omega | split)
theorem s_objF0 {x p q : Int} {τ : SZ} (hx : Rng x) (hp : Rng p) (hq : Rng q) {B : Int} (hS : Sh B (τ 4)) (ho : obF (τ 4) x p q = 0) : RZ 4 m0_objectionToFerry [.inl 12, .inr x, .inr p, .inr q] τ (.inl (some (.inr 0), τ)) := by
  have q := s_objF (τ := τ) (Or.inl ⟨rfl, rfl, rfl, rfl⟩) hx hp hq hS
  rw [ho] at q
  exact q
theorem s_objF2 {x p q : Int} {τ : SZ} (hx : Rng x) (hp : Rng p) (hq : Rng q) {B : Int} (hS : Sh B (τ 4)) (ho : obF (τ 4) x p q = 2) : RZ 4 m0_objectionToFerry [.inl 12, .inr x, .inr p, .inr q] τ (.inl (some (.inr 2), τ)) := by
  have q := s_objF (τ := τ) (Or.inl ⟨rfl, rfl, rfl, rfl⟩) hx hp hq hS
  rw [ho] at q
  exact q
theorem s_objF3 {x p q : Int} {τ : SZ} (hx : Rng x) (hp : Rng p) (hq : Rng q) {B : Int} (hS : Sh B (τ 4)) (ho : obF (τ 4) x p q = 3) : RZ 4 m0_objectionToFerry [.inl 12, .inr x, .inr p, .inr q] τ (.inl (some (.inr 3), rkp τ (rwF (τ 4)) (rdF (τ 4) p q))) := by
  have q := s_objF (τ := τ) (Or.inl ⟨rfl, rfl, rfl, rfl⟩) hx hp hq hS
  rw [ho] at q
  exact q
theorem s_objT0 {r p : Int} {τ : SZ} (hr : Rng r) (hp : Rng p) {B : Int} (hS : Sh B (τ 4)) (ho : obT (τ 4) r p = 0) : RZ 4 m0_objectionToTug [.inl 12, .inr r, .inr p] τ (.inl (some (.inr 0), τ)) := by
  have q := s_objT (τ := τ) (Or.inl ⟨rfl, rfl, rfl, rfl⟩) hr hp hS
  rw [ho] at q
  exact q
theorem s_objT1 {r p : Int} {τ : SZ} (hr : Rng r) (hp : Rng p) {B : Int} (hS : Sh B (τ 4)) (ho : obT (τ 4) r p = 1) : RZ 4 m0_objectionToTug [.inl 12, .inr r, .inr p] τ (.inl (some (.inr 1), τ)) := by
  have q := s_objT (τ := τ) (Or.inl ⟨rfl, rfl, rfl, rfl⟩) hr hp hS
  rw [ho] at q
  exact q
theorem s_objT3 {r p : Int} {τ : SZ} (hr : Rng r) (hp : Rng p) {B : Int} (hS : Sh B (τ 4)) (ho : obT (τ 4) r p = 3) : RZ 4 m0_objectionToTug [.inl 12, .inr r, .inr p] τ (.inl (some (.inr 3), rkp τ (rwT (τ 4) r) (rdT (τ 4) r p))) := by
  have q := s_objT (τ := τ) (Or.inl ⟨rfl, rfl, rfl, rfl⟩) hr hp hS
  rw [ho] at q
  exact q
theorem s_objL0 {r p v : Int} {τ : SZ} (hr : Rng r) (hp : Rng p) (hv : Rng v) {B : Int} (hS : Sh B (τ 4)) (ho : obL (τ 4) r p v = 0) : RZ 4 m0_objectionToLock [.inl 12, .inr r, .inr p, .inr v] τ (.inl (some (.inr 0), τ)) := by
  have q := s_objL (τ := τ) (Or.inl ⟨rfl, rfl, rfl, rfl⟩) hr hp hv hS
  rw [ho] at q
  exact q
theorem s_objL1 {r p v : Int} {τ : SZ} (hr : Rng r) (hp : Rng p) (hv : Rng v) {B : Int} (hS : Sh B (τ 4)) (ho : obL (τ 4) r p v = 1) : RZ 4 m0_objectionToLock [.inl 12, .inr r, .inr p, .inr v] τ (.inl (some (.inr 1), τ)) := by
  have q := s_objL (τ := τ) (Or.inl ⟨rfl, rfl, rfl, rfl⟩) hr hp hv hS
  rw [ho] at q
  exact q
theorem s_objL2 {r p v : Int} {τ : SZ} (hr : Rng r) (hp : Rng p) (hv : Rng v) {B : Int} (hS : Sh B (τ 4)) (ho : obL (τ 4) r p v = 2) : RZ 4 m0_objectionToLock [.inl 12, .inr r, .inr p, .inr v] τ (.inl (some (.inr 2), τ)) := by
  have q := s_objL (τ := τ) (Or.inl ⟨rfl, rfl, rfl, rfl⟩) hr hp hv hS
  rw [ho] at q
  exact q
theorem s_objL3 {r p v : Int} {τ : SZ} (hr : Rng r) (hp : Rng p) (hv : Rng v) {B : Int} (hS : Sh B (τ 4)) (ho : obL (τ 4) r p v = 3) : RZ 4 m0_objectionToLock [.inl 12, .inr r, .inr p, .inr v] τ (.inl (some (.inr 3), rkp τ 3 v)) := by
  have q := s_objL (τ := τ) (Or.inl ⟨rfl, rfl, rfl, rfl⟩) hr hp hv hS
  rw [ho] at q
  exact q
theorem s_objG0 {r p v : Int} {τ : SZ} (hr : Rng r) (hp : Rng p) (hv : Rng v) {B : Int} (hS : Sh B (τ 4)) (ho : obG (τ 4) r p v = 0) : RZ 4 m0_objectionToFog [.inl 12, .inr r, .inr p, .inr v] τ (.inl (some (.inr 0), τ)) := by
  have q := s_objG (τ := τ) (Or.inl ⟨rfl, rfl, rfl, rfl⟩) hr hp hv hS
  rw [ho] at q
  exact q
theorem s_objG1 {r p v : Int} {τ : SZ} (hr : Rng r) (hp : Rng p) (hv : Rng v) {B : Int} (hS : Sh B (τ 4)) (ho : obG (τ 4) r p v = 1) : RZ 4 m0_objectionToFog [.inl 12, .inr r, .inr p, .inr v] τ (.inl (some (.inr 1), τ)) := by
  have q := s_objG (τ := τ) (Or.inl ⟨rfl, rfl, rfl, rfl⟩) hr hp hv hS
  rw [ho] at q
  exact q
theorem s_objG2 {r p v : Int} {τ : SZ} (hr : Rng r) (hp : Rng p) (hv : Rng v) {B : Int} (hS : Sh B (τ 4)) (ho : obG (τ 4) r p v = 2) : RZ 4 m0_objectionToFog [.inl 12, .inr r, .inr p, .inr v] τ (.inl (some (.inr 2), τ)) := by
  have q := s_objG (τ := τ) (Or.inl ⟨rfl, rfl, rfl, rfl⟩) hr hp hv hS
  rw [ho] at q
  exact q
theorem s_objG3 {r p v : Int} {τ : SZ} (hr : Rng r) (hp : Rng p) (hv : Rng v) {B : Int} (hS : Sh B (τ 4)) (ho : obG (τ 4) r p v = 3) : RZ 4 m0_objectionToFog [.inl 12, .inr r, .inr p, .inr v] τ (.inl (some (.inr 3), rkp τ 3 v)) := by
  have q := s_objG (τ := τ) (Or.inl ⟨rfl, rfl, rfl, rfl⟩) hr hp hv hS
  rw [ho] at q
  exact q
theorem s_objM0 {f r s : Int} {τ : SZ} (hf : Rng f) (hr : Rng r) (hs : s = 1 ∨ s = -1) {B : Int} (hS : Sh B (τ 4)) (ho : obM (τ 4) f r s = 0) : RZ 5 m0_objectionToMove [.inl 12, .inr f, .inr r, .inr s] τ (.inl (some (.inr 0), τ)) := by
  have q := s_objM (τ := τ) (Or.inl ⟨rfl, rfl, rfl, rfl⟩) hf hr hs hS
  rw [ho] at q
  exact q
theorem s_objM1 {f r s : Int} {τ : SZ} (hf : Rng f) (hr : Rng r) (hs : s = 1 ∨ s = -1) {B : Int} (hS : Sh B (τ 4)) (ho : obM (τ 4) f r s = 1) : RZ 5 m0_objectionToMove [.inl 12, .inr f, .inr r, .inr s] τ (.inl (some (.inr 1), τ)) := by
  have q := s_objM (τ := τ) (Or.inl ⟨rfl, rfl, rfl, rfl⟩) hf hr hs hS
  rw [ho] at q
  exact q
theorem s_objM3 {f r s : Int} {τ : SZ} (hf : Rng f) (hr : Rng r) (hs : s = 1 ∨ s = -1) {B : Int} (hS : Sh B (τ 4)) (ho : obM (τ 4) f r s = 3) : RZ 5 m0_objectionToMove [.inl 12, .inr f, .inr r, .inr s] τ (.inl (some (.inr 3), rpa (rkp τ (ocn (τ 4) f r s) (dtl (τ 4) (ocn (τ 4) f r s) f r s)) 4 f)) := by
  have q := s_objM (τ := τ) (Or.inl ⟨rfl, rfl, rfl, rfl⟩) hf hr hs hS
  rw [ho] at q
  exact q
theorem s_objP0 {τ : SZ} {B : Int} (hS : Sh B (τ 4)) (ho : obP (τ 4) = 0) : RZ 5 m0_objectionToPass [.inl 12] τ (.inl (some (.inr 0), τ)) := by
  have q := s_objP (τ := τ) (Or.inl ⟨rfl, rfl, rfl, rfl⟩)  hS
  rw [ho] at q
  exact q
theorem s_objP3 {τ : SZ} {B : Int} (hS : Sh B (τ 4)) (ho : obP (τ 4) = 3) : RZ 5 m0_objectionToPass [.inl 12] τ (.inl (some (.inr 3), rkp τ 5 (fsm (τ 4) (cel (τ 4) 107).toNat 0))) := by
  have q := s_objP (τ := τ) (Or.inl ⟨rfl, rfl, rfl, rfl⟩)  hS
  rw [ho] at q
  exact q
theorem c_ferry {x p q : Int} {τ : SZ} (hx : Rng x) (hp : Rng p) (hq : Rng q) {B : Int} (hI : Iv B (τ 4)) (hB : B + 7 ≤ 100000000) (hxh : 0 ≤ τ 14 1 ∧ τ 14 1 < 8) (hch : 0 ≤ τ 14 2 ∧ τ 14 2 ≤ 8) : RZ 6 m7_ferry [.inl 0, .inr x, .inr p, .inr q] τ (if obF (τ 4) x p q = 2 then .inr ("java/lang/IllegalArgumentException", τ) else if obF (τ 4) x p q = 3 then .inr ("java/lang/UnsupportedOperationException", rkp τ (rwF (τ 4)) (rdF (τ 4) p q)) else .inl (some (.inr (cel (τ 4) 107)), zr (hkp τ) 4 (adf (τ 4) x p q))) := by
  have hS := hI.1
  have hN := hS.n
  have hC := hI.2.1
  obtain ⟨hx1, hx2⟩ := hx
  obtain ⟨hp1, hp2⟩ := hp
  obtain ⟨hq1, hq2⟩ := hq
  have hx := hxh
  have hc := hch
  refine Ex.call ?_ rfl rfl
  show Ex _ _ (cod m7_ferry 0, [some (.inl 0), some (.inr x), some (.inr p), some (.inr q)], [], τ) _ _
  refine ex_k 5 (P := none) (g := (cod m7_ferry 5, [some (.inl 0), some (.inr x), some (.inr p), some (.inr q)], [.inr q, .inr p, .inr x, .inl 12], τ)) rfl trivial ?_
  rcases @obF_in (τ 4) x p q with hob | hob | hob
  ·
    refine ex_c (s_objF0 (τ := τ) (x := x) (p := p) (q := q) ⟨by omega, by omega⟩ ⟨by omega, by omega⟩ ⟨by omega, by omega⟩ hS hob) (is := cod m7_ferry 6) (L := [some (.inl 0), some (.inr x), some (.inr p), some (.inr q)]) (st := []) rfl rfl rfl ?_
    show Ex _ _ (cod m7_ferry 6, [some (.inl 0), some (.inr x), some (.inr p), some (.inr q)], [.inr 0], τ) _ _
    refine ex_c (s_needNone_0 (τ := τ) ) (is := cod m7_ferry 7) (L := [some (.inl 0), some (.inr x), some (.inr p), some (.inr q)]) (st := []) rfl rfl rfl ?_
    show Ex _ _ (cod m7_ferry 7, [some (.inl 0), some (.inr x), some (.inr p), some (.inr q)], [], τ) _ _
    refine ex_k 4 (P := none) (g := (cod m7_ferry 11, [some (.inl 0), some (.inr x), some (.inr p), some (.inr q)], [.inl 1, .inl 14], τ)) rfl trivial ?_
    refine ex_c (s_keepH (τ := τ) hx hc) (is := cod m7_ferry 12) (L := [some (.inl 0), some (.inr x), some (.inr p), some (.inr q)]) (st := []) rfl rfl rfl ?_
    show Ex _ _ (cod m7_ferry 12, [some (.inl 0), some (.inr x), some (.inr p), some (.inr q)], [], hkp τ) _ _
    refine ex_k 5 (P := none) (g := (cod m7_ferry 17, [some (.inl 0), some (.inr x), some (.inr p), some (.inr q)], [.inr q, .inr p, .inr x, .inl 1], hkp τ)) rfl trivial ?_
    refine ex_c (s_addFerry (τ := hkp τ) (x := x) (p := p) (q := q) (Or.inl ⟨rfl, rfl⟩) (show 0 ≤ cel (τ 4) 107 ∧ cel (τ 4) 107 ≤ 8 by omega) ⟨by omega, by omega⟩ ⟨by omega, by omega⟩) (is := cod m7_ferry 18) (L := [some (.inl 0), some (.inr x), some (.inr p), some (.inr q)]) (st := []) rfl rfl rfl ?_
    show Ex _ _ (cod m7_ferry 18, [some (.inl 0), some (.inr x), some (.inr p), some (.inr q)], [.inr (cel (τ 4) 107)], (zr (hkp τ) 4 (adf (τ 4) x p q))) _ _
    exact ex_r rfl trivial rfl ((by rw [hob]; rfl))
  ·
    refine ex_c (s_objF2 (τ := τ) (x := x) (p := p) (q := q) ⟨by omega, by omega⟩ ⟨by omega, by omega⟩ ⟨by omega, by omega⟩ hS hob) (is := cod m7_ferry 6) (L := [some (.inl 0), some (.inr x), some (.inr p), some (.inr q)]) (st := []) rfl rfl rfl ?_
    show Ex _ _ (cod m7_ferry 6, [some (.inl 0), some (.inr x), some (.inr p), some (.inr q)], [.inr 2], τ) _ _
    ·
      exact ex_x (s_needNone_2 (τ := τ) ) rfl rfl rfl ((by rw [hob]; rfl))
  ·
    refine ex_c (s_objF3 (τ := τ) (x := x) (p := p) (q := q) ⟨by omega, by omega⟩ ⟨by omega, by omega⟩ ⟨by omega, by omega⟩ hS hob) (is := cod m7_ferry 6) (L := [some (.inl 0), some (.inr x), some (.inr p), some (.inr q)]) (st := []) rfl rfl rfl ?_
    show Ex _ _ (cod m7_ferry 6, [some (.inl 0), some (.inr x), some (.inr p), some (.inr q)], [.inr 3], rkp τ (rwF (τ 4)) (rdF (τ 4) p q)) _ _
    ·
      exact ex_x (s_needNone_3 (τ := rkp τ (rwF (τ 4)) (rdF (τ 4) p q)) ) rfl rfl rfl ((by rw [hob]; rfl))
theorem c_tug {r p : Int} {τ : SZ} (hr : Rng r) (hp : Rng p) {B : Int} (hI : Iv B (τ 4)) (hB : B + 7 ≤ 100000000) (hx : 0 ≤ τ 14 1 ∧ τ 14 1 < 8) (hc : 0 ≤ τ 14 2 ∧ τ 14 2 ≤ 8) : RZ 6 m7_tug [.inl 0, .inr r, .inr p] τ (if obT (τ 4) r p = 1 then .inr ("java/lang/IndexOutOfBoundsException", τ) else if obT (τ 4) r p = 3 then .inr ("java/lang/UnsupportedOperationException", rkp τ (rwT (τ 4) r) (rdT (τ 4) r p)) else .inl (some (.inr (tgs (swh (τ 4) r p 8) r)), zr (hkp τ) 4 (swh (τ 4) r p 8))) := by
  have hS := hI.1
  have hN := hS.n
  have hC := hI.2.1
  obtain ⟨hr1, hr2⟩ := hr
  obtain ⟨hp1, hp2⟩ := hp
  have hr0 : obT (τ 4) r p = 0 → 0 ≤ r ∧ r < 2 := fun q => by unfold obT at q; split at q <;> omega
  refine Ex.call ?_ rfl rfl
  show Ex _ _ (cod m7_tug 0, [some (.inl 0), some (.inr r), some (.inr p)], [], τ) _ _
  refine ex_k 4 (P := none) (g := (cod m7_tug 4, [some (.inl 0), some (.inr r), some (.inr p)], [.inr p, .inr r, .inl 12], τ)) rfl trivial ?_
  rcases @obT_in (τ 4) r p with hob | hob | hob
  ·
    refine ex_c (s_objT0 (τ := τ) (r := r) (p := p) ⟨by omega, by omega⟩ ⟨by omega, by omega⟩ hS hob) (is := cod m7_tug 5) (L := [some (.inl 0), some (.inr r), some (.inr p)]) (st := []) rfl rfl rfl ?_
    show Ex _ _ (cod m7_tug 5, [some (.inl 0), some (.inr r), some (.inr p)], [.inr 0], τ) _ _
    refine ex_c (s_needNone_0 (τ := τ) ) (is := cod m7_tug 6) (L := [some (.inl 0), some (.inr r), some (.inr p)]) (st := []) rfl rfl rfl ?_
    show Ex _ _ (cod m7_tug 6, [some (.inl 0), some (.inr r), some (.inr p)], [], τ) _ _
    refine ex_k 4 (P := none) (g := (cod m7_tug 10, [some (.inl 0), some (.inr r), some (.inr p)], [.inl 1, .inl 14], τ)) rfl trivial ?_
    refine ex_c (s_keepH (τ := τ) hx hc) (is := cod m7_tug 11) (L := [some (.inl 0), some (.inr r), some (.inr p)]) (st := []) rfl rfl rfl ?_
    show Ex _ _ (cod m7_tug 11, [some (.inl 0), some (.inr r), some (.inr p)], [], hkp τ) _ _
    refine ex_k 4 (P := none) (g := (cod m7_tug 15, [some (.inl 0), some (.inr r), some (.inr p)], [.inr p, .inr r, .inl 1], hkp τ)) rfl trivial ?_
    refine ex_c (s_addTug (τ := hkp τ) (r := r) (p := p) (Or.inl ⟨rfl, rfl⟩) (by omega) ⟨by omega, by omega⟩ hS.bd) (is := cod m7_tug 16) (L := [some (.inl 0), some (.inr r), some (.inr p)]) (st := []) rfl rfl rfl ?_
    show Ex _ _ (cod m7_tug 16, [some (.inl 0), some (.inr r), some (.inr p)], [.inr (tgs (swh (τ 4) r p 8) r)], (zr (hkp τ) 4 (swh (τ 4) r p 8))) _ _
    exact ex_r rfl trivial rfl ((by rw [hob]; rfl))
  ·
    refine ex_c (s_objT1 (τ := τ) (r := r) (p := p) ⟨by omega, by omega⟩ ⟨by omega, by omega⟩ hS hob) (is := cod m7_tug 5) (L := [some (.inl 0), some (.inr r), some (.inr p)]) (st := []) rfl rfl rfl ?_
    show Ex _ _ (cod m7_tug 5, [some (.inl 0), some (.inr r), some (.inr p)], [.inr 1], τ) _ _
    ·
      exact ex_x (s_needNone_1 (τ := τ) ) rfl rfl rfl ((by rw [hob]; rfl))
  ·
    refine ex_c (s_objT3 (τ := τ) (r := r) (p := p) ⟨by omega, by omega⟩ ⟨by omega, by omega⟩ hS hob) (is := cod m7_tug 5) (L := [some (.inl 0), some (.inr r), some (.inr p)]) (st := []) rfl rfl rfl ?_
    show Ex _ _ (cod m7_tug 5, [some (.inl 0), some (.inr r), some (.inr p)], [.inr 3], rkp τ (rwT (τ 4) r) (rdT (τ 4) r p)) _ _
    ·
      exact ex_x (s_needNone_3 (τ := rkp τ (rwT (τ 4) r) (rdT (τ 4) r p)) ) rfl rfl rfl ((by rw [hob]; rfl))
theorem c_lock {r p v : Int} {τ : SZ} (hr : Rng r) (hp : Rng p) (hv : Rng v) {B : Int} (hI : Iv B (τ 4)) (hB : B + 7 ≤ 100000000) (hx : 0 ≤ τ 14 1 ∧ τ 14 1 < 8) (hc : 0 ≤ τ 14 2 ∧ τ 14 2 ≤ 8) : RZ 6 m7_lock [.inl 0, .inr r, .inr p, .inr v] τ (if obL (τ 4) r p v = 1 then .inr ("java/lang/IndexOutOfBoundsException", τ) else if obL (τ 4) r p v = 2 then .inr ("java/lang/IllegalArgumentException", τ) else if obL (τ 4) r p v = 3 then .inr ("java/lang/UnsupportedOperationException", rkp τ 3 v) else .inl (some (.inr (usz (τ 4) r p)), zr (hkp τ) 4 (sus (τ 4) r p v))) := by
  have hS := hI.1
  have hN := hS.n
  have hC := hI.2.1
  obtain ⟨hr1, hr2⟩ := hr
  obtain ⟨hp1, hp2⟩ := hp
  obtain ⟨hv1, hv2⟩ := hv
  have hr0 : obL (τ 4) r p v = 0 → 0 ≤ r ∧ r < 2 := fun q => by unfold obL at q; split at q <;> omega
  refine Ex.call ?_ rfl rfl
  show Ex _ _ (cod m7_lock 0, [some (.inl 0), some (.inr r), some (.inr p), some (.inr v)], [], τ) _ _
  refine ex_k 5 (P := none) (g := (cod m7_lock 5, [some (.inl 0), some (.inr r), some (.inr p), some (.inr v)], [.inr v, .inr p, .inr r, .inl 12], τ)) rfl trivial ?_
  rcases @obL_in (τ 4) r p v with hob | hob | hob | hob
  ·
    refine ex_c (s_objL0 (τ := τ) (r := r) (p := p) (v := v) ⟨by omega, by omega⟩ ⟨by omega, by omega⟩ ⟨by omega, by omega⟩ hS hob) (is := cod m7_lock 6) (L := [some (.inl 0), some (.inr r), some (.inr p), some (.inr v)]) (st := []) rfl rfl rfl ?_
    show Ex _ _ (cod m7_lock 6, [some (.inl 0), some (.inr r), some (.inr p), some (.inr v)], [.inr 0], τ) _ _
    refine ex_c (s_needNone_0 (τ := τ) ) (is := cod m7_lock 7) (L := [some (.inl 0), some (.inr r), some (.inr p), some (.inr v)]) (st := []) rfl rfl rfl ?_
    show Ex _ _ (cod m7_lock 7, [some (.inl 0), some (.inr r), some (.inr p), some (.inr v)], [], τ) _ _
    refine ex_k 4 (P := none) (g := (cod m7_lock 11, [some (.inl 0), some (.inr r), some (.inr p), some (.inr v)], [.inl 1, .inl 14], τ)) rfl trivial ?_
    refine ex_c (s_keepH (τ := τ) hx hc) (is := cod m7_lock 12) (L := [some (.inl 0), some (.inr r), some (.inr p), some (.inr v)]) (st := []) rfl rfl rfl ?_
    show Ex _ _ (cod m7_lock 12, [some (.inl 0), some (.inr r), some (.inr p), some (.inr v)], [], hkp τ) _ _
    refine ex_k 5 (P := none) (g := (cod m7_lock 17, [some (.inl 0), some (.inr r), some (.inr p), some (.inr v)], [.inr v, .inr p, .inr r, .inl 1], hkp τ)) rfl trivial ?_
    refine ex_c (s_tellUses (τ := hkp τ) (r := r) (p := p) (v := v) (Or.inl ⟨rfl, rfl⟩) (by omega) ⟨by omega, by omega⟩) (is := cod m7_lock 18) (L := [some (.inl 0), some (.inr r), some (.inr p), some (.inr v)]) (st := []) rfl rfl rfl ?_
    show Ex _ _ (cod m7_lock 18, [some (.inl 0), some (.inr r), some (.inr p), some (.inr v)], [.inr (usz (τ 4) r p)], (zr (hkp τ) 4 (sus (τ 4) r p v))) _ _
    exact ex_r rfl trivial rfl ((by rw [hob]; rfl))
  ·
    refine ex_c (s_objL1 (τ := τ) (r := r) (p := p) (v := v) ⟨by omega, by omega⟩ ⟨by omega, by omega⟩ ⟨by omega, by omega⟩ hS hob) (is := cod m7_lock 6) (L := [some (.inl 0), some (.inr r), some (.inr p), some (.inr v)]) (st := []) rfl rfl rfl ?_
    show Ex _ _ (cod m7_lock 6, [some (.inl 0), some (.inr r), some (.inr p), some (.inr v)], [.inr 1], τ) _ _
    ·
      exact ex_x (s_needNone_1 (τ := τ) ) rfl rfl rfl ((by rw [hob]; rfl))
  ·
    refine ex_c (s_objL2 (τ := τ) (r := r) (p := p) (v := v) ⟨by omega, by omega⟩ ⟨by omega, by omega⟩ ⟨by omega, by omega⟩ hS hob) (is := cod m7_lock 6) (L := [some (.inl 0), some (.inr r), some (.inr p), some (.inr v)]) (st := []) rfl rfl rfl ?_
    show Ex _ _ (cod m7_lock 6, [some (.inl 0), some (.inr r), some (.inr p), some (.inr v)], [.inr 2], τ) _ _
    ·
      exact ex_x (s_needNone_2 (τ := τ) ) rfl rfl rfl ((by rw [hob]; rfl))
  ·
    refine ex_c (s_objL3 (τ := τ) (r := r) (p := p) (v := v) ⟨by omega, by omega⟩ ⟨by omega, by omega⟩ ⟨by omega, by omega⟩ hS hob) (is := cod m7_lock 6) (L := [some (.inl 0), some (.inr r), some (.inr p), some (.inr v)]) (st := []) rfl rfl rfl ?_
    show Ex _ _ (cod m7_lock 6, [some (.inl 0), some (.inr r), some (.inr p), some (.inr v)], [.inr 3], rkp τ 3 v) _ _
    ·
      exact ex_x (s_needNone_3 (τ := rkp τ 3 v) ) rfl rfl rfl ((by rw [hob]; rfl))
theorem c_fog {r p v : Int} {τ : SZ} (hr : Rng r) (hp : Rng p) (hv : Rng v) {B : Int} (hI : Iv B (τ 4)) (hB : B + 7 ≤ 100000000) (hx : 0 ≤ τ 14 1 ∧ τ 14 1 < 8) (hc : 0 ≤ τ 14 2 ∧ τ 14 2 ≤ 8) : RZ 6 m7_fog [.inl 0, .inr r, .inr p, .inr v] τ (if obG (τ 4) r p v = 1 then .inr ("java/lang/IndexOutOfBoundsException", τ) else if obG (τ 4) r p v = 2 then .inr ("java/lang/IllegalArgumentException", τ) else if obG (τ 4) r p v = 3 then .inr ("java/lang/UnsupportedOperationException", rkp τ 3 v) else .inl (some (.inr (cel (τ 4) (98 + r))), zr (hkp τ) 4 (sce (sce (τ 4) (96 + r) p) (98 + r) v))) := by
  have hS := hI.1
  have hN := hS.n
  have hC := hI.2.1
  obtain ⟨hr1, hr2⟩ := hr
  obtain ⟨hp1, hp2⟩ := hp
  obtain ⟨hv1, hv2⟩ := hv
  have hr0 : obG (τ 4) r p v = 0 → 0 ≤ r ∧ r < 2 := fun q => by unfold obG at q; split at q <;> omega
  refine Ex.call ?_ rfl rfl
  show Ex _ _ (cod m7_fog 0, [some (.inl 0), some (.inr r), some (.inr p), some (.inr v)], [], τ) _ _
  refine ex_k 5 (P := none) (g := (cod m7_fog 5, [some (.inl 0), some (.inr r), some (.inr p), some (.inr v)], [.inr v, .inr p, .inr r, .inl 12], τ)) rfl trivial ?_
  rcases @obG_in (τ 4) r p v with hob | hob | hob | hob
  ·
    refine ex_c (s_objG0 (τ := τ) (r := r) (p := p) (v := v) ⟨by omega, by omega⟩ ⟨by omega, by omega⟩ ⟨by omega, by omega⟩ hS hob) (is := cod m7_fog 6) (L := [some (.inl 0), some (.inr r), some (.inr p), some (.inr v)]) (st := []) rfl rfl rfl ?_
    show Ex _ _ (cod m7_fog 6, [some (.inl 0), some (.inr r), some (.inr p), some (.inr v)], [.inr 0], τ) _ _
    refine ex_c (s_needNone_0 (τ := τ) ) (is := cod m7_fog 7) (L := [some (.inl 0), some (.inr r), some (.inr p), some (.inr v)]) (st := []) rfl rfl rfl ?_
    show Ex _ _ (cod m7_fog 7, [some (.inl 0), some (.inr r), some (.inr p), some (.inr v)], [], τ) _ _
    refine ex_k 4 (P := none) (g := (cod m7_fog 11, [some (.inl 0), some (.inr r), some (.inr p), some (.inr v)], [.inl 1, .inl 14], τ)) rfl trivial ?_
    refine ex_c (s_keepH (τ := τ) hx hc) (is := cod m7_fog 12) (L := [some (.inl 0), some (.inr r), some (.inr p), some (.inr v)]) (st := []) rfl rfl rfl ?_
    show Ex _ _ (cod m7_fog 12, [some (.inl 0), some (.inr r), some (.inr p), some (.inr v)], [], hkp τ) _ _
    refine ex_k 5 (P := none) (g := (cod m7_fog 17, [some (.inl 0), some (.inr r), some (.inr p), some (.inr v)], [.inr v, .inr p, .inr r, .inl 1], hkp τ)) rfl trivial ?_
    refine ex_c (s_tellFog (τ := hkp τ) (r := r) (b := p) (w := v) (Or.inl ⟨rfl, rfl⟩) (by omega)) (is := cod m7_fog 18) (L := [some (.inl 0), some (.inr r), some (.inr p), some (.inr v)]) (st := []) rfl rfl rfl ?_
    show Ex _ _ (cod m7_fog 18, [some (.inl 0), some (.inr r), some (.inr p), some (.inr v)], [.inr (cel (τ 4) (98 + r))], (zr (hkp τ) 4 (sce (sce (τ 4) (96 + r) p) (98 + r) v))) _ _
    exact ex_r rfl trivial rfl ((by rw [hob]; rfl))
  ·
    refine ex_c (s_objG1 (τ := τ) (r := r) (p := p) (v := v) ⟨by omega, by omega⟩ ⟨by omega, by omega⟩ ⟨by omega, by omega⟩ hS hob) (is := cod m7_fog 6) (L := [some (.inl 0), some (.inr r), some (.inr p), some (.inr v)]) (st := []) rfl rfl rfl ?_
    show Ex _ _ (cod m7_fog 6, [some (.inl 0), some (.inr r), some (.inr p), some (.inr v)], [.inr 1], τ) _ _
    ·
      exact ex_x (s_needNone_1 (τ := τ) ) rfl rfl rfl ((by rw [hob]; rfl))
  ·
    refine ex_c (s_objG2 (τ := τ) (r := r) (p := p) (v := v) ⟨by omega, by omega⟩ ⟨by omega, by omega⟩ ⟨by omega, by omega⟩ hS hob) (is := cod m7_fog 6) (L := [some (.inl 0), some (.inr r), some (.inr p), some (.inr v)]) (st := []) rfl rfl rfl ?_
    show Ex _ _ (cod m7_fog 6, [some (.inl 0), some (.inr r), some (.inr p), some (.inr v)], [.inr 2], τ) _ _
    ·
      exact ex_x (s_needNone_2 (τ := τ) ) rfl rfl rfl ((by rw [hob]; rfl))
  ·
    refine ex_c (s_objG3 (τ := τ) (r := r) (p := p) (v := v) ⟨by omega, by omega⟩ ⟨by omega, by omega⟩ ⟨by omega, by omega⟩ hS hob) (is := cod m7_fog 6) (L := [some (.inl 0), some (.inr r), some (.inr p), some (.inr v)]) (st := []) rfl rfl rfl ?_
    show Ex _ _ (cod m7_fog 6, [some (.inl 0), some (.inr r), some (.inr p), some (.inr v)], [.inr 3], rkp τ 3 v) _ _
    ·
      exact ex_x (s_needNone_3 (τ := rkp τ 3 v) ) rfl rfl rfl ((by rw [hob]; rfl))
theorem c_move_0 {f r : Int} {τ : SZ} (hf : Rng f) (hr : Rng r) {B : Int} (hI : Iv B (τ 4)) (hB : B + 7 ≤ 100000000) (hx : 0 ≤ τ 14 1 ∧ τ 14 1 < 8) (hc : 0 ≤ τ 14 2 ∧ τ 14 2 ≤ 8) : RZ 8 m7_move [.inl 0, .inr f, .inr r, .inr 0] τ (if obM (τ 4) f r (-1) = 1 then .inr ("java/lang/IndexOutOfBoundsException", τ) else if obM (τ 4) f r (-1) = 3 then .inr ("java/lang/UnsupportedOperationException", rpa (rkp τ (ocn (τ 4) f r (-1)) (dtl (τ 4) (ocn (τ 4) f r (-1)) f r (-1))) 4 f) else .inl (some (.inr (mkp (τ 4) f r (-1))), zr (hkp τ) 4 (mkm (τ 4) f r (-1)))) := by
  have hS := hI.1
  have hN := hS.n
  have hC := hI.2.1
  obtain ⟨hf1, hf2⟩ := hf
  obtain ⟨hr1, hr2⟩ := hr
  have hr0 : obM (τ 4) f r (-1) = 0 → (0 ≤ f ∧ f < cel (τ 4) 107) ∧ (0 ≤ r ∧ r < 2) := fun q => ⟨(obM_ok q).1, (obM_ok q).2.1⟩
  have hgo0 : obM (τ 4) f r (-1) = 0 → 0 ≤ gol (τ 4) f r (-1) ∧ gol (τ 4) f r (-1) < 12 := fun q => (gol_ok (obM_ok q).2.2).1
  have hov0 : obM (τ 4) f r (-1) = 0 → (ovr (τ 4) f r (-1) = -1 ∨ ovr (τ 4) f r (-1) = 8 ∨ (0 ≤ ovr (τ 4) f r (-1) ∧ ovr (τ 4) f r (-1) < cel (τ 4) 107)) := fun q => hC.ov (obM_ok q).2.1
  refine Ex.call ?_ rfl rfl
  show Ex _ _ (cod m7_move 0, [some (.inl 0), some (.inr f), some (.inr r), some (.inr 0), none], [], τ) _ _
  refine ex_k 1 (P := none) (g := (cod m7_move 1, [some (.inl 0), some (.inr f), some (.inr r), some (.inr 0), none], [.inr 0], τ)) rfl trivial ?_
  refine ex_c (s_stepTo (τ := τ) (z := 0) ⟨by omega, by omega⟩) (is := cod m7_move 2) (L := [some (.inl 0), some (.inr f), some (.inr r), some (.inr 0), none]) (st := []) rfl rfl rfl ?_
  show Ex _ _ (cod m7_move 2, [some (.inl 0), some (.inr f), some (.inr r), some (.inr 0), none], [.inr (-1)], τ) _ _
  refine ex_k 6 (P := none) (g := (cod m7_move 8, [some (.inl 0), some (.inr f), some (.inr r), some (.inr 0), some (.inr (-1))], [.inr (-1), .inr r, .inr f, .inl 12], τ)) rfl trivial ?_
  rcases @obM_in (τ 4) f r (-1) with hob | hob | hob
  ·
    refine ex_c (s_objM0 (τ := τ) (f := f) (r := r) (s := (-1)) ⟨by omega, by omega⟩ ⟨by omega, by omega⟩ (by omega) hS hob) (is := cod m7_move 9) (L := [some (.inl 0), some (.inr f), some (.inr r), some (.inr 0), some (.inr (-1))]) (st := []) rfl rfl rfl ?_
    show Ex _ _ (cod m7_move 9, [some (.inl 0), some (.inr f), some (.inr r), some (.inr 0), some (.inr (-1))], [.inr 0], τ) _ _
    refine ex_c (s_needNone_0 (τ := τ) ) (is := cod m7_move 10) (L := [some (.inl 0), some (.inr f), some (.inr r), some (.inr 0), some (.inr (-1))]) (st := []) rfl rfl rfl ?_
    show Ex _ _ (cod m7_move 10, [some (.inl 0), some (.inr f), some (.inr r), some (.inr 0), some (.inr (-1))], [], τ) _ _
    refine ex_k 4 (P := none) (g := (cod m7_move 14, [some (.inl 0), some (.inr f), some (.inr r), some (.inr 0), some (.inr (-1))], [.inl 1, .inl 14], τ)) rfl trivial ?_
    refine ex_c (s_keepH (τ := τ) hx hc) (is := cod m7_move 15) (L := [some (.inl 0), some (.inr f), some (.inr r), some (.inr 0), some (.inr (-1))]) (st := []) rfl rfl rfl ?_
    show Ex _ _ (cod m7_move 15, [some (.inl 0), some (.inr f), some (.inr r), some (.inr 0), some (.inr (-1))], [], hkp τ) _ _
    refine ex_k 5 (P := none) (g := (cod m7_move 20, [some (.inl 0), some (.inr f), some (.inr r), some (.inr 0), some (.inr (-1))], [.inr (-1), .inr r, .inr f, .inl 7], hkp τ)) rfl trivial ?_
    refine ex_c (s_makeMove (τ := hkp τ) (f := f) (r := r) (s := (-1)) (Or.inl ⟨rfl, rfl, rfl⟩) hS (by omega) (by omega) (by omega) (hgo0 hob) (hov0 hob) (by omega)) (is := cod m7_move 21) (L := [some (.inl 0), some (.inr f), some (.inr r), some (.inr 0), some (.inr (-1))]) (st := []) rfl rfl rfl ?_
    show Ex _ _ (cod m7_move 21, [some (.inl 0), some (.inr f), some (.inr r), some (.inr 0), some (.inr (-1))], [.inr (mkp (τ 4) f r (-1))], (zr (hkp τ) 4 (mkm (τ 4) f r (-1)))) _ _
    exact ex_r rfl trivial rfl ((by rw [hob]; rfl))
  ·
    refine ex_c (s_objM1 (τ := τ) (f := f) (r := r) (s := (-1)) ⟨by omega, by omega⟩ ⟨by omega, by omega⟩ (by omega) hS hob) (is := cod m7_move 9) (L := [some (.inl 0), some (.inr f), some (.inr r), some (.inr 0), some (.inr (-1))]) (st := []) rfl rfl rfl ?_
    show Ex _ _ (cod m7_move 9, [some (.inl 0), some (.inr f), some (.inr r), some (.inr 0), some (.inr (-1))], [.inr 1], τ) _ _
    ·
      exact ex_x (s_needNone_1 (τ := τ) ) rfl rfl rfl ((by rw [hob]; rfl))
  ·
    refine ex_c (s_objM3 (τ := τ) (f := f) (r := r) (s := (-1)) ⟨by omega, by omega⟩ ⟨by omega, by omega⟩ (by omega) hS hob) (is := cod m7_move 9) (L := [some (.inl 0), some (.inr f), some (.inr r), some (.inr 0), some (.inr (-1))]) (st := []) rfl rfl rfl ?_
    show Ex _ _ (cod m7_move 9, [some (.inl 0), some (.inr f), some (.inr r), some (.inr 0), some (.inr (-1))], [.inr 3], rpa (rkp τ (ocn (τ 4) f r (-1)) (dtl (τ 4) (ocn (τ 4) f r (-1)) f r (-1))) 4 f) _ _
    ·
      exact ex_x (s_needNone_3 (τ := rpa (rkp τ (ocn (τ 4) f r (-1)) (dtl (τ 4) (ocn (τ 4) f r (-1)) f r (-1))) 4 f) ) rfl rfl rfl ((by rw [hob]; rfl))
theorem c_move_1 {f r : Int} {τ : SZ} (hf : Rng f) (hr : Rng r) {B : Int} (hI : Iv B (τ 4)) (hB : B + 7 ≤ 100000000) (hx : 0 ≤ τ 14 1 ∧ τ 14 1 < 8) (hc : 0 ≤ τ 14 2 ∧ τ 14 2 ≤ 8) : RZ 8 m7_move [.inl 0, .inr f, .inr r, .inr 1] τ (if obM (τ 4) f r 1 = 1 then .inr ("java/lang/IndexOutOfBoundsException", τ) else if obM (τ 4) f r 1 = 3 then .inr ("java/lang/UnsupportedOperationException", rpa (rkp τ (ocn (τ 4) f r 1) (dtl (τ 4) (ocn (τ 4) f r 1) f r 1)) 4 f) else .inl (some (.inr (mkp (τ 4) f r 1)), zr (hkp τ) 4 (mkm (τ 4) f r 1))) := by
  have hS := hI.1
  have hN := hS.n
  have hC := hI.2.1
  obtain ⟨hf1, hf2⟩ := hf
  obtain ⟨hr1, hr2⟩ := hr
  have hr0 : obM (τ 4) f r 1 = 0 → (0 ≤ f ∧ f < cel (τ 4) 107) ∧ (0 ≤ r ∧ r < 2) := fun q => ⟨(obM_ok q).1, (obM_ok q).2.1⟩
  have hgo0 : obM (τ 4) f r 1 = 0 → 0 ≤ gol (τ 4) f r 1 ∧ gol (τ 4) f r 1 < 12 := fun q => (gol_ok (obM_ok q).2.2).1
  have hov0 : obM (τ 4) f r 1 = 0 → (ovr (τ 4) f r 1 = -1 ∨ ovr (τ 4) f r 1 = 8 ∨ (0 ≤ ovr (τ 4) f r 1 ∧ ovr (τ 4) f r 1 < cel (τ 4) 107)) := fun q => hC.ov (obM_ok q).2.1
  refine Ex.call ?_ rfl rfl
  show Ex _ _ (cod m7_move 0, [some (.inl 0), some (.inr f), some (.inr r), some (.inr 1), none], [], τ) _ _
  refine ex_k 1 (P := none) (g := (cod m7_move 1, [some (.inl 0), some (.inr f), some (.inr r), some (.inr 1), none], [.inr 1], τ)) rfl trivial ?_
  refine ex_c (s_stepTo (τ := τ) (z := 1) ⟨by omega, by omega⟩) (is := cod m7_move 2) (L := [some (.inl 0), some (.inr f), some (.inr r), some (.inr 1), none]) (st := []) rfl rfl rfl ?_
  show Ex _ _ (cod m7_move 2, [some (.inl 0), some (.inr f), some (.inr r), some (.inr 1), none], [.inr 1], τ) _ _
  refine ex_k 6 (P := none) (g := (cod m7_move 8, [some (.inl 0), some (.inr f), some (.inr r), some (.inr 1), some (.inr 1)], [.inr 1, .inr r, .inr f, .inl 12], τ)) rfl trivial ?_
  rcases @obM_in (τ 4) f r 1 with hob | hob | hob
  ·
    refine ex_c (s_objM0 (τ := τ) (f := f) (r := r) (s := 1) ⟨by omega, by omega⟩ ⟨by omega, by omega⟩ (by omega) hS hob) (is := cod m7_move 9) (L := [some (.inl 0), some (.inr f), some (.inr r), some (.inr 1), some (.inr 1)]) (st := []) rfl rfl rfl ?_
    show Ex _ _ (cod m7_move 9, [some (.inl 0), some (.inr f), some (.inr r), some (.inr 1), some (.inr 1)], [.inr 0], τ) _ _
    refine ex_c (s_needNone_0 (τ := τ) ) (is := cod m7_move 10) (L := [some (.inl 0), some (.inr f), some (.inr r), some (.inr 1), some (.inr 1)]) (st := []) rfl rfl rfl ?_
    show Ex _ _ (cod m7_move 10, [some (.inl 0), some (.inr f), some (.inr r), some (.inr 1), some (.inr 1)], [], τ) _ _
    refine ex_k 4 (P := none) (g := (cod m7_move 14, [some (.inl 0), some (.inr f), some (.inr r), some (.inr 1), some (.inr 1)], [.inl 1, .inl 14], τ)) rfl trivial ?_
    refine ex_c (s_keepH (τ := τ) hx hc) (is := cod m7_move 15) (L := [some (.inl 0), some (.inr f), some (.inr r), some (.inr 1), some (.inr 1)]) (st := []) rfl rfl rfl ?_
    show Ex _ _ (cod m7_move 15, [some (.inl 0), some (.inr f), some (.inr r), some (.inr 1), some (.inr 1)], [], hkp τ) _ _
    refine ex_k 5 (P := none) (g := (cod m7_move 20, [some (.inl 0), some (.inr f), some (.inr r), some (.inr 1), some (.inr 1)], [.inr 1, .inr r, .inr f, .inl 7], hkp τ)) rfl trivial ?_
    refine ex_c (s_makeMove (τ := hkp τ) (f := f) (r := r) (s := 1) (Or.inl ⟨rfl, rfl, rfl⟩) hS (by omega) (by omega) (by omega) (hgo0 hob) (hov0 hob) (by omega)) (is := cod m7_move 21) (L := [some (.inl 0), some (.inr f), some (.inr r), some (.inr 1), some (.inr 1)]) (st := []) rfl rfl rfl ?_
    show Ex _ _ (cod m7_move 21, [some (.inl 0), some (.inr f), some (.inr r), some (.inr 1), some (.inr 1)], [.inr (mkp (τ 4) f r 1)], (zr (hkp τ) 4 (mkm (τ 4) f r 1))) _ _
    exact ex_r rfl trivial rfl ((by rw [hob]; rfl))
  ·
    refine ex_c (s_objM1 (τ := τ) (f := f) (r := r) (s := 1) ⟨by omega, by omega⟩ ⟨by omega, by omega⟩ (by omega) hS hob) (is := cod m7_move 9) (L := [some (.inl 0), some (.inr f), some (.inr r), some (.inr 1), some (.inr 1)]) (st := []) rfl rfl rfl ?_
    show Ex _ _ (cod m7_move 9, [some (.inl 0), some (.inr f), some (.inr r), some (.inr 1), some (.inr 1)], [.inr 1], τ) _ _
    ·
      exact ex_x (s_needNone_1 (τ := τ) ) rfl rfl rfl ((by rw [hob]; rfl))
  ·
    refine ex_c (s_objM3 (τ := τ) (f := f) (r := r) (s := 1) ⟨by omega, by omega⟩ ⟨by omega, by omega⟩ (by omega) hS hob) (is := cod m7_move 9) (L := [some (.inl 0), some (.inr f), some (.inr r), some (.inr 1), some (.inr 1)]) (st := []) rfl rfl rfl ?_
    show Ex _ _ (cod m7_move 9, [some (.inl 0), some (.inr f), some (.inr r), some (.inr 1), some (.inr 1)], [.inr 3], rpa (rkp τ (ocn (τ 4) f r 1) (dtl (τ 4) (ocn (τ 4) f r 1) f r 1)) 4 f) _ _
    ·
      exact ex_x (s_needNone_3 (τ := rpa (rkp τ (ocn (τ 4) f r 1) (dtl (τ 4) (ocn (τ 4) f r 1) f r 1)) 4 f) ) rfl rfl rfl ((by rw [hob]; rfl))
theorem c_pass {τ : SZ} {B : Int} (hI : Iv B (τ 4)) (hB : B + 7 ≤ 100000000) (hx : 0 ≤ τ 14 1 ∧ τ 14 1 < 8) (hc : 0 ≤ τ 14 2 ∧ τ 14 2 ≤ 8) : RZ 7 m7_pass [.inl 0] τ (if obP (τ 4) = 3 then .inr ("java/lang/UnsupportedOperationException", rkp τ 5 (fsm (τ 4) (cel (τ 4) 107).toNat 0)) else .inl (some (.inr (cel (psT (τ 4)) 108)), zr (hkp τ) 4 (psT (τ 4)))) := by
  have hS := hI.1
  have hN := hS.n
  have hC := hI.2.1
  refine Ex.call ?_ rfl rfl
  show Ex _ _ (cod m7_pass 0, [some (.inl 0)], [], τ) _ _
  refine ex_k 2 (P := none) (g := (cod m7_pass 2, [some (.inl 0)], [.inl 12], τ)) rfl trivial ?_
  rcases @obP_in (τ 4)  with hob | hob
  ·
    refine ex_c (s_objP0 (τ := τ)   hS hob) (is := cod m7_pass 3) (L := [some (.inl 0)]) (st := []) rfl rfl rfl ?_
    show Ex _ _ (cod m7_pass 3, [some (.inl 0)], [.inr 0], τ) _ _
    refine ex_c (s_needNone_0 (τ := τ) ) (is := cod m7_pass 4) (L := [some (.inl 0)]) (st := []) rfl rfl rfl ?_
    show Ex _ _ (cod m7_pass 4, [some (.inl 0)], [], τ) _ _
    refine ex_k 4 (P := none) (g := (cod m7_pass 8, [some (.inl 0)], [.inl 1, .inl 14], τ)) rfl trivial ?_
    refine ex_c (s_keepH (τ := τ) hx hc) (is := cod m7_pass 9) (L := [some (.inl 0)]) (st := []) rfl rfl rfl ?_
    show Ex _ _ (cod m7_pass 9, [some (.inl 0)], [], hkp τ) _ _
    refine ex_k 2 (P := none) (g := (cod m7_pass 11, [some (.inl 0)], [.inl 7], hkp τ)) rfl trivial ?_
    refine ex_c (s_passTurn (τ := hkp τ) (Or.inl ⟨rfl, rfl, rfl⟩) hS (by omega)) (is := cod m7_pass 12) (L := [some (.inl 0)]) (st := []) rfl rfl rfl ?_
    show Ex _ _ (cod m7_pass 12, [some (.inl 0)], [.inr (cel (psT (τ 4)) 108)], (zr (hkp τ) 4 (psT (τ 4)))) _ _
    exact ex_r rfl trivial rfl ((by rw [hob]; rfl))
  ·
    refine ex_c (s_objP3 (τ := τ)   hS hob) (is := cod m7_pass 3) (L := [some (.inl 0)]) (st := []) rfl rfl rfl ?_
    show Ex _ _ (cod m7_pass 3, [some (.inl 0)], [.inr 3], rkp τ 5 (fsm (τ 4) (cel (τ 4) 107).toNat 0)) _ _
    ·
      exact ex_x (s_needNone_3 (τ := rkp τ 5 (fsm (τ 4) (cel (τ 4) 107).toNat 0)) ) rfl rfl rfl ((by rw [hob]; rfl))
theorem c_ferryOf {f w : Int} {τ : SZ} (hf : Rng f) (hw : Rng w) {B : Int} (hS : Sh B (τ 4)) : RZ 6 m7_ferryOf [.inl 0, .inr f, .inr w] τ (if (0 ≤ f ∧ f < cel (τ 4) 107) then (if 0 ≤ w ∧ w < 6 then .inl (some (.inr (cel (τ 4) (0 + f * 6 + w))), τ) else .inr ("java/lang/IllegalArgumentException", τ)) else .inr ("java/lang/IndexOutOfBoundsException", τ)) := by
  have hN := hS.n
  obtain ⟨hf1, hf2⟩ := hf
  obtain ⟨hw1, hw2⟩ := hw
  refine Ex.call ?_ rfl rfl
  show Ex _ _ (cod m7_ferryOf 0, [some (.inl 0), some (.inr f), some (.inr w)], [], τ) _ _
  refine ex_k 2 (P := none) (g := (cod m7_ferryOf 2, [some (.inl 0), some (.inr f), some (.inr w)], [.inr f, .inl 0], τ)) rfl trivial ?_
  by_cases hc1 : 0 ≤ f ∧ f < cel (τ 4) 107
  ·
    refine ex_c (s_needFerry_ok (τ := τ) (f := f) hS ⟨by omega, by omega⟩ hc1) (is := cod m7_ferryOf 3) (L := [some (.inl 0), some (.inr f), some (.inr w)]) (st := []) rfl rfl rfl ?_
    show Ex _ _ (cod m7_ferryOf 3, [some (.inl 0), some (.inr f), some (.inr w)], [], τ) _ _
    refine ex_k 1 (P := none) (g := (cod m7_ferryOf 4, [some (.inl 0), some (.inr f), some (.inr w)], [.inr w], τ)) rfl trivial ?_
    refine ex_b (P := w < 0) (ct := (cod m7_ferryOf 8, [some (.inl 0), some (.inr f), some (.inr w)], [], τ)) (cf := (cod m7_ferryOf 5, [some (.inl 0), some (.inr f), some (.inr w)], [], τ)) rfl ⟨by omega, by omega⟩ (fun h1 => ?_) (fun h1 => ?_)
    · first
      | (exfalso; omega)
      | (
          exact ex_t rfl rfl ((by (repeat (first | rw [if_pos (by omega)] | rw [if_neg (by omega)])); first | done | rfl)))
    · first
      | (exfalso; omega)
      | (
          refine ex_k 2 (P := none) (g := (cod m7_ferryOf 7, [some (.inl 0), some (.inr f), some (.inr w)], [.inr 6, .inr w], τ)) rfl trivial ?_
          refine ex_b (P := w < 6) (ct := (cod m7_ferryOf 12, [some (.inl 0), some (.inr f), some (.inr w)], [], τ)) (cf := (cod m7_ferryOf 8, [some (.inl 0), some (.inr f), some (.inr w)], [], τ)) rfl ⟨⟨by omega, by omega⟩, ⟨by decide, by decide⟩⟩ (fun h2 => ?_) (fun h2 => ?_)
          · first
            | (exfalso; omega)
            | (
                refine ex_k 4 (P := none) (g := (cod m7_ferryOf 16, [some (.inl 0), some (.inr f), some (.inr w)], [.inr w, .inr f, .inl 1], τ)) rfl trivial ?_
                refine ex_c (s_number (τ := τ) (f := f) (w := w) (Or.inl ⟨rfl, rfl⟩) (by omega) (by omega)) (is := cod m7_ferryOf 17) (L := [some (.inl 0), some (.inr f), some (.inr w)]) (st := []) rfl rfl rfl ?_
                show Ex _ _ (cod m7_ferryOf 17, [some (.inl 0), some (.inr f), some (.inr w)], [.inr (cel (τ 4) (0 + f * 6 + w))], τ) _ _
                exact ex_r rfl trivial rfl ((by (repeat (first | rw [if_pos (by omega)] | rw [if_neg (by omega)])); first | done | rfl)))
          · first
            | (exfalso; omega)
            | (
                exact ex_t rfl rfl ((by (repeat (first | rw [if_pos (by omega)] | rw [if_neg (by omega)])); first | done | rfl))))
  ·
    exact ex_x (s_needFerry_x (τ := τ) (f := f) hS ⟨by omega, by omega⟩ hc1) rfl rfl rfl ((by (repeat (first | rw [if_pos (by omega)] | rw [if_neg (by omega)])); first | done | rfl))
theorem c_at {r p : Int} {τ : SZ} (hr : Rng r) (hp : Rng p) : RZ 6 m7_at [.inl 0, .inr r, .inr p] τ (if (0 ≤ r ∧ r < 2) ∧ (0 ≤ p ∧ p < 12) then .inl (some (.inr (whz (τ 4) r p)), τ) else .inr ("java/lang/IndexOutOfBoundsException", τ)) := by
  obtain ⟨hr1, hr2⟩ := hr
  obtain ⟨hp1, hp2⟩ := hp
  refine Ex.call ?_ rfl rfl
  show Ex _ _ (cod m7_at 0, [some (.inl 0), some (.inr r), some (.inr p)], [], τ) _ _
  refine ex_k 2 (P := none) (g := (cod m7_at 2, [some (.inl 0), some (.inr r), some (.inr p)], [.inr p, .inr r], τ)) rfl trivial ?_
  by_cases hc1 : (0 ≤ r ∧ r < 2) ∧ (0 ≤ p ∧ p < 12)
  ·
    refine ex_c (s_needSpot_ok (τ := τ) (r := r) (p := p) ⟨by omega, by omega⟩ ⟨by omega, by omega⟩ hc1) (is := cod m7_at 3) (L := [some (.inl 0), some (.inr r), some (.inr p)]) (st := []) rfl rfl rfl ?_
    show Ex _ _ (cod m7_at 3, [some (.inl 0), some (.inr r), some (.inr p)], [], τ) _ _
    refine ex_k 4 (P := none) (g := (cod m7_at 7, [some (.inl 0), some (.inr r), some (.inr p)], [.inr p, .inr r, .inl 1], τ)) rfl trivial ?_
    refine ex_c (s_whoIsAt (τ := τ) (r := r) (p := p) (Or.inl ⟨rfl, rfl⟩) (by omega) ⟨by omega, by omega⟩) (is := cod m7_at 8) (L := [some (.inl 0), some (.inr r), some (.inr p)]) (st := []) rfl rfl rfl ?_
    show Ex _ _ (cod m7_at 8, [some (.inl 0), some (.inr r), some (.inr p)], [.inr (whz (τ 4) r p)], τ) _ _
    exact ex_r rfl trivial rfl ((by (repeat (first | rw [if_pos (by omega)] | rw [if_neg (by omega)])); first | done | rfl))
  ·
    exact ex_x (s_needSpot_x (τ := τ) (r := r) (p := p) ⟨by omega, by omega⟩ ⟨by omega, by omega⟩ hc1) rfl rfl rfl ((by (repeat (first | rw [if_pos (by omega)] | rw [if_neg (by omega)])); first | done | rfl))
theorem c_lockAt {r p : Int} {τ : SZ} (hr : Rng r) (hp : Rng p) : RZ 6 m7_lockAt [.inl 0, .inr r, .inr p] τ (if (0 ≤ r ∧ r < 2) ∧ (0 ≤ p ∧ p < 12) then .inl (some (.inr (usz (τ 4) r p)), τ) else .inr ("java/lang/IndexOutOfBoundsException", τ)) := by
  obtain ⟨hr1, hr2⟩ := hr
  obtain ⟨hp1, hp2⟩ := hp
  refine Ex.call ?_ rfl rfl
  show Ex _ _ (cod m7_lockAt 0, [some (.inl 0), some (.inr r), some (.inr p)], [], τ) _ _
  refine ex_k 2 (P := none) (g := (cod m7_lockAt 2, [some (.inl 0), some (.inr r), some (.inr p)], [.inr p, .inr r], τ)) rfl trivial ?_
  by_cases hc1 : (0 ≤ r ∧ r < 2) ∧ (0 ≤ p ∧ p < 12)
  ·
    refine ex_c (s_needSpot_ok (τ := τ) (r := r) (p := p) ⟨by omega, by omega⟩ ⟨by omega, by omega⟩ hc1) (is := cod m7_lockAt 3) (L := [some (.inl 0), some (.inr r), some (.inr p)]) (st := []) rfl rfl rfl ?_
    show Ex _ _ (cod m7_lockAt 3, [some (.inl 0), some (.inr r), some (.inr p)], [], τ) _ _
    refine ex_k 4 (P := none) (g := (cod m7_lockAt 7, [some (.inl 0), some (.inr r), some (.inr p)], [.inr p, .inr r, .inl 1], τ)) rfl trivial ?_
    refine ex_c (s_usesAt (τ := τ) (r := r) (p := p) (Or.inl ⟨rfl, rfl⟩) (by omega) ⟨by omega, by omega⟩) (is := cod m7_lockAt 8) (L := [some (.inl 0), some (.inr r), some (.inr p)]) (st := []) rfl rfl rfl ?_
    show Ex _ _ (cod m7_lockAt 8, [some (.inl 0), some (.inr r), some (.inr p)], [.inr (usz (τ 4) r p)], τ) _ _
    exact ex_r rfl trivial rfl ((by (repeat (first | rw [if_pos (by omega)] | rw [if_neg (by omega)])); first | done | rfl))
  ·
    exact ex_x (s_needSpot_x (τ := τ) (r := r) (p := p) ⟨by omega, by omega⟩ ⟨by omega, by omega⟩ hc1) rfl rfl rfl ((by (repeat (first | rw [if_pos (by omega)] | rw [if_neg (by omega)])); first | done | rfl))
theorem c_isFog {r p : Int} {τ : SZ} (hr : Rng r) (hp : Rng p) {B : Int} (hS : Sh B (τ 4)) : RZ 6 m7_isFog [.inl 0, .inr r, .inr p] τ (if (0 ≤ r ∧ r < 2) ∧ (0 ≤ p ∧ p < 12) then .inl (some (.inr (b2 (fgd (τ 4) r p))), τ) else .inr ("java/lang/IndexOutOfBoundsException", τ)) := by
  obtain ⟨hr1, hr2⟩ := hr
  obtain ⟨hp1, hp2⟩ := hp
  refine Ex.call ?_ rfl rfl
  show Ex _ _ (cod m7_isFog 0, [some (.inl 0), some (.inr r), some (.inr p)], [], τ) _ _
  refine ex_k 2 (P := none) (g := (cod m7_isFog 2, [some (.inl 0), some (.inr r), some (.inr p)], [.inr p, .inr r], τ)) rfl trivial ?_
  by_cases hc1 : (0 ≤ r ∧ r < 2) ∧ (0 ≤ p ∧ p < 12)
  ·
    refine ex_c (s_needSpot_ok (τ := τ) (r := r) (p := p) ⟨by omega, by omega⟩ ⟨by omega, by omega⟩ hc1) (is := cod m7_isFog 3) (L := [some (.inl 0), some (.inr r), some (.inr p)]) (st := []) rfl rfl rfl ?_
    show Ex _ _ (cod m7_isFog 3, [some (.inl 0), some (.inr r), some (.inr p)], [], τ) _ _
    refine ex_k 4 (P := none) (g := (cod m7_isFog 7, [some (.inl 0), some (.inr r), some (.inr p)], [.inr p, .inr r, .inl 1], τ)) rfl trivial ?_
    refine ex_c (s_liesInFog (τ := τ) (r := r) (p := p) (Or.inl ⟨rfl, rfl⟩) (by omega) (by omega) hS.fog hS.bd) (is := cod m7_isFog 8) (L := [some (.inl 0), some (.inr r), some (.inr p)]) (st := []) rfl rfl rfl ?_
    show Ex _ _ (cod m7_isFog 8, [some (.inl 0), some (.inr r), some (.inr p)], [.inr (b2 ((p - cel (τ 4) (96 + r) + 12) % 12 < cel (τ 4) (98 + r)))], τ) _ _
    exact ex_r rfl b2_or rfl ((by (repeat (first | rw [if_pos (by omega)] | rw [if_neg (by omega)])); first | done | rfl))
  ·
    exact ex_x (s_needSpot_x (τ := τ) (r := r) (p := p) ⟨by omega, by omega⟩ ⟨by omega, by omega⟩ hc1) rfl rfl rfl ((by (repeat (first | rw [if_pos (by omega)] | rw [if_neg (by omega)])); first | done | rfl))
theorem c_turn {τ : SZ} : RZ 6 m7_turn [.inl 0] τ (.inl (some (.inr (cel (τ 4) 108)), τ)) := by
  refine Ex.call ?_ rfl rfl
  show Ex _ _ (cod m7_turn 0, [some (.inl 0)], [], τ) _ _
  refine ex_k 3 (P := none) (g := (cod m7_turn 3, [some (.inl 0)], [.inr 8, .inl 1], τ)) rfl trivial ?_
  refine ex_c (s_total (τ := τ) (w := 8) (Or.inl ⟨rfl, rfl⟩) (by omega)) (is := cod m7_turn 4) (L := [some (.inl 0)]) (st := []) rfl rfl rfl ?_
  show Ex _ _ (cod m7_turn 4, [some (.inl 0)], [.inr (cel (τ 4) 108)], τ) _ _
  exact ex_r rfl trivial rfl (rfl)
theorem c_would_0 {f r : Int} {τ : SZ} (hf : Rng f) (hr : Rng r) {B : Int} (hS : Sh B (τ 4)) : RZ 7 m7_would [.inl 0, .inr f, .inr r, .inr 0] τ (if (0 ≤ f ∧ f < cel (τ 4) 107) ∧ (0 ≤ r ∧ r < 2) then .inl (some (.inr (if (ocn (τ 4) f r (-1) = 1 ∨ ocn (τ 4) f r (-1) = 2 ∨ ocn (τ 4) f r (-1) = 3) then ocn (τ 4) f r (-1) else 0)), τ) else .inr ("java/lang/IndexOutOfBoundsException", τ)) := by
  have hN := hS.n
  have ho := @ocn_in (τ 4) f r (-1)
  obtain ⟨hf1, hf2⟩ := hf
  obtain ⟨hr1, hr2⟩ := hr
  refine Ex.call ?_ rfl rfl
  show Ex _ _ (cod m7_would 0, [some (.inl 0), some (.inr f), some (.inr r), some (.inr 0), none], [], τ) _ _
  refine ex_k 3 (P := none) (g := (cod m7_would 3, [some (.inl 0), some (.inr f), some (.inr r), some (.inr 0), none], [.inr r, .inr f, .inl 0], τ)) rfl trivial ?_
  by_cases hc1 : (0 ≤ f ∧ f < cel (τ 4) 107) ∧ (0 ≤ r ∧ r < 2)
  ·
    refine ex_c (s_needFerryAndRiver_ok (τ := τ) (f := f) (r := r) hS ⟨by omega, by omega⟩ ⟨by omega, by omega⟩ hc1) (is := cod m7_would 4) (L := [some (.inl 0), some (.inr f), some (.inr r), some (.inr 0), none]) (st := []) rfl rfl rfl ?_
    show Ex _ _ (cod m7_would 4, [some (.inl 0), some (.inr f), some (.inr r), some (.inr 0), none], [], τ) _ _
    refine ex_k 5 (P := none) (g := (cod m7_would 9, [some (.inl 0), some (.inr f), some (.inr r), some (.inr 0), none], [.inr 0, .inr r, .inr f, .inl 7], τ)) rfl trivial ?_
    refine ex_c (s_stepTo (τ := τ) (z := 0) ⟨by omega, by omega⟩) (is := cod m7_would 10) (L := [some (.inl 0), some (.inr f), some (.inr r), some (.inr 0), none]) (st := [.inr r, .inr f, .inl 7]) rfl rfl rfl ?_
    show Ex _ _ (cod m7_would 10, [some (.inl 0), some (.inr f), some (.inr r), some (.inr 0), none], [.inr (-1), .inr r, .inr f, .inl 7], τ) _ _
    refine ex_c (s_outcomeNow (τ := τ) (f := f) (r := r) (s := (-1)) (Or.inl ⟨rfl, rfl, rfl⟩) (by omega) (by omega) (by omega) hS.cw) (is := cod m7_would 11) (L := [some (.inl 0), some (.inr f), some (.inr r), some (.inr 0), none]) (st := []) rfl rfl rfl ?_
    show Ex _ _ (cod m7_would 11, [some (.inl 0), some (.inr f), some (.inr r), some (.inr 0), none], [.inr (ocn (τ 4) f r (-1))], τ) _ _
    refine ex_k 2 (P := none) (g := (cod m7_would 13, [some (.inl 0), some (.inr f), some (.inr r), some (.inr 0), some (.inr (ocn (τ 4) f r (-1)))], [.inr (ocn (τ 4) f r (-1))], τ)) rfl trivial ?_
    refine ex_c (s_isMove (τ := τ) (z := ocn (τ 4) f r (-1)) ⟨by omega, by omega⟩) (is := cod m7_would 14) (L := [some (.inl 0), some (.inr f), some (.inr r), some (.inr 0), some (.inr (ocn (τ 4) f r (-1)))]) (st := []) rfl rfl rfl ?_
    show Ex _ _ (cod m7_would 14, [some (.inl 0), some (.inr f), some (.inr r), some (.inr 0), some (.inr (ocn (τ 4) f r (-1)))], [.inr (b2 ((ocn (τ 4) f r (-1)) = 1 ∨ (ocn (τ 4) f r (-1)) = 2 ∨ (ocn (τ 4) f r (-1)) = 3))], τ) _ _
    refine ex_b (P := (b2 ((ocn (τ 4) f r (-1)) = 1 ∨ (ocn (τ 4) f r (-1)) = 2 ∨ (ocn (τ 4) f r (-1)) = 3)) = 0) (ct := (cod m7_would 17, [some (.inl 0), some (.inr f), some (.inr r), some (.inr 0), some (.inr (ocn (τ 4) f r (-1)))], [], τ)) (cf := (cod m7_would 15, [some (.inl 0), some (.inr f), some (.inr r), some (.inr 0), some (.inr (ocn (τ 4) f r (-1)))], [], τ)) rfl b2_rng (fun h1 => ?_) (fun h1 => ?_)
    · first
      | (exfalso; have h1 := b2_e0 h1; omega)
      | (
          have h1 := b2_e0 h1
          refine ex_k 1 (P := none) (g := (cod m7_would 18, [some (.inl 0), some (.inr f), some (.inr r), some (.inr 0), some (.inr (ocn (τ 4) f r (-1)))], [.inr 0], τ)) rfl trivial ?_
          exact ex_r rfl trivial rfl ((by (repeat (first | rw [if_pos (by omega)] | rw [if_neg (by omega)])); first | done | rfl)))
    · first
      | (exfalso; have h1 := b2_n0 h1; omega)
      | (
          have h1 := b2_n0 h1
          refine ex_k 2 (P := none) (g := (cod m7_would 18, [some (.inl 0), some (.inr f), some (.inr r), some (.inr 0), some (.inr (ocn (τ 4) f r (-1)))], [.inr (ocn (τ 4) f r (-1))], τ)) rfl trivial ?_
          exact ex_r rfl trivial rfl ((by (repeat (first | rw [if_pos (by omega)] | rw [if_neg (by omega)])); first | done | rfl)))
  ·
    exact ex_x (s_needFerryAndRiver_x (τ := τ) (f := f) (r := r) hS ⟨by omega, by omega⟩ ⟨by omega, by omega⟩ hc1) rfl rfl rfl ((by (repeat (first | rw [if_pos (by omega)] | rw [if_neg (by omega)])); first | done | rfl))
theorem c_why_0_0 {f r : Int} {τ : SZ} (hf : Rng f) (hr : Rng r) {B : Int} (hS : Sh B (τ 4)) : RZ 7 m7_why [.inl 0, .inr f, .inr r, .inr 0, .inr 0] τ (if (0 ≤ f ∧ f < cel (τ 4) 107) ∧ (0 ≤ r ∧ r < 2) then (if (ocn (τ 4) f r (-1) = 1 ∨ ocn (τ 4) f r (-1) = 2 ∨ ocn (τ 4) f r (-1) = 3) then .inr ("java/util/NoSuchElementException", τ) else .inl (some (.inr (ocn (τ 4) f r (-1))), τ)) else .inr ("java/lang/IndexOutOfBoundsException", τ)) := by
  have hN := hS.n
  have ho := @ocn_in (τ 4) f r (-1)
  obtain ⟨hf1, hf2⟩ := hf
  obtain ⟨hr1, hr2⟩ := hr
  refine Ex.call ?_ rfl rfl
  show Ex _ _ (cod m7_why 0, [some (.inl 0), some (.inr f), some (.inr r), some (.inr 0), some (.inr 0), none, none], [], τ) _ _
  refine ex_k 3 (P := none) (g := (cod m7_why 3, [some (.inl 0), some (.inr f), some (.inr r), some (.inr 0), some (.inr 0), none, none], [.inr r, .inr f, .inl 0], τ)) rfl trivial ?_
  by_cases hc1 : (0 ≤ f ∧ f < cel (τ 4) 107) ∧ (0 ≤ r ∧ r < 2)
  ·
    refine ex_c (s_needFerryAndRiver_ok (τ := τ) (f := f) (r := r) hS ⟨by omega, by omega⟩ ⟨by omega, by omega⟩ hc1) (is := cod m7_why 4) (L := [some (.inl 0), some (.inr f), some (.inr r), some (.inr 0), some (.inr 0), none, none]) (st := []) rfl rfl rfl ?_
    show Ex _ _ (cod m7_why 4, [some (.inl 0), some (.inr f), some (.inr r), some (.inr 0), some (.inr 0), none, none], [], τ) _ _
    refine ex_k 1 (P := none) (g := (cod m7_why 5, [some (.inl 0), some (.inr f), some (.inr r), some (.inr 0), some (.inr 0), none, none], [.inr 0], τ)) rfl trivial ?_
    refine ex_c (s_stepTo (τ := τ) (z := 0) ⟨by omega, by omega⟩) (is := cod m7_why 6) (L := [some (.inl 0), some (.inr f), some (.inr r), some (.inr 0), some (.inr 0), none, none]) (st := []) rfl rfl rfl ?_
    show Ex _ _ (cod m7_why 6, [some (.inl 0), some (.inr f), some (.inr r), some (.inr 0), some (.inr 0), none, none], [.inr (-1)], τ) _ _
    refine ex_k 6 (P := none) (g := (cod m7_why 12, [some (.inl 0), some (.inr f), some (.inr r), some (.inr 0), some (.inr 0), some (.inr (-1)), none], [.inr (-1), .inr r, .inr f, .inl 7], τ)) rfl trivial ?_
    refine ex_c (s_outcomeNow (τ := τ) (f := f) (r := r) (s := (-1)) (Or.inl ⟨rfl, rfl, rfl⟩) (by omega) (by omega) (by omega) hS.cw) (is := cod m7_why 13) (L := [some (.inl 0), some (.inr f), some (.inr r), some (.inr 0), some (.inr 0), some (.inr (-1)), none]) (st := []) rfl rfl rfl ?_
    show Ex _ _ (cod m7_why 13, [some (.inl 0), some (.inr f), some (.inr r), some (.inr 0), some (.inr 0), some (.inr (-1)), none], [.inr (ocn (τ 4) f r (-1))], τ) _ _
    refine ex_k 2 (P := none) (g := (cod m7_why 15, [some (.inl 0), some (.inr f), some (.inr r), some (.inr 0), some (.inr 0), some (.inr (-1)), some (.inr (ocn (τ 4) f r (-1)))], [.inr (ocn (τ 4) f r (-1))], τ)) rfl trivial ?_
    refine ex_c (s_isMove (τ := τ) (z := ocn (τ 4) f r (-1)) ⟨by omega, by omega⟩) (is := cod m7_why 16) (L := [some (.inl 0), some (.inr f), some (.inr r), some (.inr 0), some (.inr 0), some (.inr (-1)), some (.inr (ocn (τ 4) f r (-1)))]) (st := []) rfl rfl rfl ?_
    show Ex _ _ (cod m7_why 16, [some (.inl 0), some (.inr f), some (.inr r), some (.inr 0), some (.inr 0), some (.inr (-1)), some (.inr (ocn (τ 4) f r (-1)))], [.inr (b2 ((ocn (τ 4) f r (-1)) = 1 ∨ (ocn (τ 4) f r (-1)) = 2 ∨ (ocn (τ 4) f r (-1)) = 3))], τ) _ _
    refine ex_b (P := (b2 ((ocn (τ 4) f r (-1)) = 1 ∨ (ocn (τ 4) f r (-1)) = 2 ∨ (ocn (τ 4) f r (-1)) = 3)) = 0) (ct := (cod m7_why 21, [some (.inl 0), some (.inr f), some (.inr r), some (.inr 0), some (.inr 0), some (.inr (-1)), some (.inr (ocn (τ 4) f r (-1)))], [], τ)) (cf := (cod m7_why 17, [some (.inl 0), some (.inr f), some (.inr r), some (.inr 0), some (.inr 0), some (.inr (-1)), some (.inr (ocn (τ 4) f r (-1)))], [], τ)) rfl b2_rng (fun h1 => ?_) (fun h1 => ?_)
    · first
      | (exfalso; have h1 := b2_e0 h1; omega)
      | (
          have h1 := b2_e0 h1
          refine ex_k 1 (P := none) (g := (cod m7_why 22, [some (.inl 0), some (.inr f), some (.inr r), some (.inr 0), some (.inr 0), some (.inr (-1)), some (.inr (ocn (τ 4) f r (-1)))], [.inr 0], τ)) rfl trivial ?_
          refine ex_b (P := 0 = 0) (ct := (cod m7_why 31, [some (.inl 0), some (.inr f), some (.inr r), some (.inr 0), some (.inr 0), some (.inr (-1)), some (.inr (ocn (τ 4) f r (-1)))], [], τ)) (cf := (cod m7_why 23, [some (.inl 0), some (.inr f), some (.inr r), some (.inr 0), some (.inr 0), some (.inr (-1)), some (.inr (ocn (τ 4) f r (-1)))], [], τ)) rfl ⟨by decide, by decide⟩ (fun _ => ?_) (fun hh => absurd (by decide) hh)
          refine ex_k 1 (P := none) (g := (cod m7_why 32, [some (.inl 0), some (.inr f), some (.inr r), some (.inr 0), some (.inr 0), some (.inr (-1)), some (.inr (ocn (τ 4) f r (-1)))], [.inr (ocn (τ 4) f r (-1))], τ)) rfl trivial ?_
          exact ex_r rfl trivial rfl ((by (repeat (first | rw [if_pos (by omega)] | rw [if_neg (by omega)])); first | done | rfl)))
    · first
      | (exfalso; have h1 := b2_n0 h1; omega)
      | (
          have h1 := b2_n0 h1
          exact ex_t rfl rfl ((by (repeat (first | rw [if_pos (by omega)] | rw [if_neg (by omega)])); first | done | rfl)))
  ·
    exact ex_x (s_needFerryAndRiver_x (τ := τ) (f := f) (r := r) hS ⟨by omega, by omega⟩ ⟨by omega, by omega⟩ hc1) rfl rfl rfl ((by (repeat (first | rw [if_pos (by omega)] | rw [if_neg (by omega)])); first | done | rfl))
theorem c_why_0_1 {f r : Int} {τ : SZ} (hf : Rng f) (hr : Rng r) {B : Int} (hS : Sh B (τ 4)) : RZ 7 m7_why [.inl 0, .inr f, .inr r, .inr 0, .inr 1] τ (if (0 ≤ f ∧ f < cel (τ 4) 107) ∧ (0 ≤ r ∧ r < 2) then (if (ocn (τ 4) f r (-1) = 1 ∨ ocn (τ 4) f r (-1) = 2 ∨ ocn (τ 4) f r (-1) = 3) then .inr ("java/util/NoSuchElementException", τ) else .inl (some (.inr (dtl (τ 4) (ocn (τ 4) f r (-1)) f r (-1))), τ)) else .inr ("java/lang/IndexOutOfBoundsException", τ)) := by
  have hN := hS.n
  have ho := @ocn_in (τ 4) f r (-1)
  obtain ⟨hf1, hf2⟩ := hf
  obtain ⟨hr1, hr2⟩ := hr
  refine Ex.call ?_ rfl rfl
  show Ex _ _ (cod m7_why 0, [some (.inl 0), some (.inr f), some (.inr r), some (.inr 0), some (.inr 1), none, none], [], τ) _ _
  refine ex_k 3 (P := none) (g := (cod m7_why 3, [some (.inl 0), some (.inr f), some (.inr r), some (.inr 0), some (.inr 1), none, none], [.inr r, .inr f, .inl 0], τ)) rfl trivial ?_
  by_cases hc1 : (0 ≤ f ∧ f < cel (τ 4) 107) ∧ (0 ≤ r ∧ r < 2)
  ·
    refine ex_c (s_needFerryAndRiver_ok (τ := τ) (f := f) (r := r) hS ⟨by omega, by omega⟩ ⟨by omega, by omega⟩ hc1) (is := cod m7_why 4) (L := [some (.inl 0), some (.inr f), some (.inr r), some (.inr 0), some (.inr 1), none, none]) (st := []) rfl rfl rfl ?_
    show Ex _ _ (cod m7_why 4, [some (.inl 0), some (.inr f), some (.inr r), some (.inr 0), some (.inr 1), none, none], [], τ) _ _
    refine ex_k 1 (P := none) (g := (cod m7_why 5, [some (.inl 0), some (.inr f), some (.inr r), some (.inr 0), some (.inr 1), none, none], [.inr 0], τ)) rfl trivial ?_
    refine ex_c (s_stepTo (τ := τ) (z := 0) ⟨by omega, by omega⟩) (is := cod m7_why 6) (L := [some (.inl 0), some (.inr f), some (.inr r), some (.inr 0), some (.inr 1), none, none]) (st := []) rfl rfl rfl ?_
    show Ex _ _ (cod m7_why 6, [some (.inl 0), some (.inr f), some (.inr r), some (.inr 0), some (.inr 1), none, none], [.inr (-1)], τ) _ _
    refine ex_k 6 (P := none) (g := (cod m7_why 12, [some (.inl 0), some (.inr f), some (.inr r), some (.inr 0), some (.inr 1), some (.inr (-1)), none], [.inr (-1), .inr r, .inr f, .inl 7], τ)) rfl trivial ?_
    refine ex_c (s_outcomeNow (τ := τ) (f := f) (r := r) (s := (-1)) (Or.inl ⟨rfl, rfl, rfl⟩) (by omega) (by omega) (by omega) hS.cw) (is := cod m7_why 13) (L := [some (.inl 0), some (.inr f), some (.inr r), some (.inr 0), some (.inr 1), some (.inr (-1)), none]) (st := []) rfl rfl rfl ?_
    show Ex _ _ (cod m7_why 13, [some (.inl 0), some (.inr f), some (.inr r), some (.inr 0), some (.inr 1), some (.inr (-1)), none], [.inr (ocn (τ 4) f r (-1))], τ) _ _
    refine ex_k 2 (P := none) (g := (cod m7_why 15, [some (.inl 0), some (.inr f), some (.inr r), some (.inr 0), some (.inr 1), some (.inr (-1)), some (.inr (ocn (τ 4) f r (-1)))], [.inr (ocn (τ 4) f r (-1))], τ)) rfl trivial ?_
    refine ex_c (s_isMove (τ := τ) (z := ocn (τ 4) f r (-1)) ⟨by omega, by omega⟩) (is := cod m7_why 16) (L := [some (.inl 0), some (.inr f), some (.inr r), some (.inr 0), some (.inr 1), some (.inr (-1)), some (.inr (ocn (τ 4) f r (-1)))]) (st := []) rfl rfl rfl ?_
    show Ex _ _ (cod m7_why 16, [some (.inl 0), some (.inr f), some (.inr r), some (.inr 0), some (.inr 1), some (.inr (-1)), some (.inr (ocn (τ 4) f r (-1)))], [.inr (b2 ((ocn (τ 4) f r (-1)) = 1 ∨ (ocn (τ 4) f r (-1)) = 2 ∨ (ocn (τ 4) f r (-1)) = 3))], τ) _ _
    refine ex_b (P := (b2 ((ocn (τ 4) f r (-1)) = 1 ∨ (ocn (τ 4) f r (-1)) = 2 ∨ (ocn (τ 4) f r (-1)) = 3)) = 0) (ct := (cod m7_why 21, [some (.inl 0), some (.inr f), some (.inr r), some (.inr 0), some (.inr 1), some (.inr (-1)), some (.inr (ocn (τ 4) f r (-1)))], [], τ)) (cf := (cod m7_why 17, [some (.inl 0), some (.inr f), some (.inr r), some (.inr 0), some (.inr 1), some (.inr (-1)), some (.inr (ocn (τ 4) f r (-1)))], [], τ)) rfl b2_rng (fun h1 => ?_) (fun h1 => ?_)
    · first
      | (exfalso; have h1 := b2_e0 h1; omega)
      | (
          have h1 := b2_e0 h1
          refine ex_k 1 (P := none) (g := (cod m7_why 22, [some (.inl 0), some (.inr f), some (.inr r), some (.inr 0), some (.inr 1), some (.inr (-1)), some (.inr (ocn (τ 4) f r (-1)))], [.inr 1], τ)) rfl trivial ?_
          refine ex_b (P := 1 = 0) (ct := (cod m7_why 31, [some (.inl 0), some (.inr f), some (.inr r), some (.inr 0), some (.inr 1), some (.inr (-1)), some (.inr (ocn (τ 4) f r (-1)))], [], τ)) (cf := (cod m7_why 23, [some (.inl 0), some (.inr f), some (.inr r), some (.inr 0), some (.inr 1), some (.inr (-1)), some (.inr (ocn (τ 4) f r (-1)))], [], τ)) rfl ⟨by decide, by decide⟩ (fun hh => absurd hh (by decide)) (fun _ => ?_)
          refine ex_k 6 (P := none) (g := (cod m7_why 29, [some (.inl 0), some (.inr f), some (.inr r), some (.inr 0), some (.inr 1), some (.inr (-1)), some (.inr (ocn (τ 4) f r (-1)))], [.inr (-1), .inr r, .inr f, .inr (ocn (τ 4) f r (-1)), .inl 7], τ)) rfl trivial ?_
          refine ex_c (s_detailOf (τ := τ) (x := ocn (τ 4) f r (-1)) (f := f) (r := r) (s := (-1)) (Or.inl ⟨rfl, rfl, rfl⟩) (by omega) (by omega) (by omega) (by omega) hS.cw) (is := cod m7_why 30) (L := [some (.inl 0), some (.inr f), some (.inr r), some (.inr 0), some (.inr 1), some (.inr (-1)), some (.inr (ocn (τ 4) f r (-1)))]) (st := []) rfl rfl rfl ?_
          show Ex _ _ (cod m7_why 30, [some (.inl 0), some (.inr f), some (.inr r), some (.inr 0), some (.inr 1), some (.inr (-1)), some (.inr (ocn (τ 4) f r (-1)))], [.inr (dtl (τ 4) (ocn (τ 4) f r (-1)) f r (-1))], τ) _ _
          refine ex_k 1 (P := none) (g := (cod m7_why 32, [some (.inl 0), some (.inr f), some (.inr r), some (.inr 0), some (.inr 1), some (.inr (-1)), some (.inr (ocn (τ 4) f r (-1)))], [.inr (dtl (τ 4) (ocn (τ 4) f r (-1)) f r (-1))], τ)) rfl trivial ?_
          exact ex_r rfl trivial rfl ((by (repeat (first | rw [if_pos (by omega)] | rw [if_neg (by omega)])); first | done | rfl)))
    · first
      | (exfalso; have h1 := b2_n0 h1; omega)
      | (
          have h1 := b2_n0 h1
          exact ex_t rfl rfl ((by (repeat (first | rw [if_pos (by omega)] | rw [if_neg (by omega)])); first | done | rfl)))
  ·
    exact ex_x (s_needFerryAndRiver_x (τ := τ) (f := f) (r := r) hS ⟨by omega, by omega⟩ ⟨by omega, by omega⟩ hc1) rfl rfl rfl ((by (repeat (first | rw [if_pos (by omega)] | rw [if_neg (by omega)])); first | done | rfl))
theorem c_to_0 {f r : Int} {τ : SZ} (hf : Rng f) (hr : Rng r) {B : Int} (hS : Sh B (τ 4)) : RZ 7 m7_to [.inl 0, .inr f, .inr r, .inr 0] τ (if (0 ≤ f ∧ f < cel (τ 4) 107) ∧ (0 ≤ r ∧ r < 2) then (if (ocn (τ 4) f r (-1) = 1 ∨ ocn (τ 4) f r (-1) = 2 ∨ ocn (τ 4) f r (-1) = 3) then .inl (some (.inr (gol (τ 4) f r (-1))), τ) else .inr ("java/util/NoSuchElementException", τ)) else .inr ("java/lang/IndexOutOfBoundsException", τ)) := by
  have hN := hS.n
  have ho := @ocn_in (τ 4) f r (-1)
  obtain ⟨hf1, hf2⟩ := hf
  obtain ⟨hr1, hr2⟩ := hr
  refine Ex.call ?_ rfl rfl
  show Ex _ _ (cod m7_to 0, [some (.inl 0), some (.inr f), some (.inr r), some (.inr 0), none], [], τ) _ _
  refine ex_k 3 (P := none) (g := (cod m7_to 3, [some (.inl 0), some (.inr f), some (.inr r), some (.inr 0), none], [.inr r, .inr f, .inl 0], τ)) rfl trivial ?_
  by_cases hc1 : (0 ≤ f ∧ f < cel (τ 4) 107) ∧ (0 ≤ r ∧ r < 2)
  ·
    refine ex_c (s_needFerryAndRiver_ok (τ := τ) (f := f) (r := r) hS ⟨by omega, by omega⟩ ⟨by omega, by omega⟩ hc1) (is := cod m7_to 4) (L := [some (.inl 0), some (.inr f), some (.inr r), some (.inr 0), none]) (st := []) rfl rfl rfl ?_
    show Ex _ _ (cod m7_to 4, [some (.inl 0), some (.inr f), some (.inr r), some (.inr 0), none], [], τ) _ _
    refine ex_k 1 (P := none) (g := (cod m7_to 5, [some (.inl 0), some (.inr f), some (.inr r), some (.inr 0), none], [.inr 0], τ)) rfl trivial ?_
    refine ex_c (s_stepTo (τ := τ) (z := 0) ⟨by omega, by omega⟩) (is := cod m7_to 6) (L := [some (.inl 0), some (.inr f), some (.inr r), some (.inr 0), none]) (st := []) rfl rfl rfl ?_
    show Ex _ _ (cod m7_to 6, [some (.inl 0), some (.inr f), some (.inr r), some (.inr 0), none], [.inr (-1)], τ) _ _
    refine ex_k 6 (P := none) (g := (cod m7_to 12, [some (.inl 0), some (.inr f), some (.inr r), some (.inr 0), some (.inr (-1))], [.inr (-1), .inr r, .inr f, .inl 7], τ)) rfl trivial ?_
    refine ex_c (s_outcomeNow (τ := τ) (f := f) (r := r) (s := (-1)) (Or.inl ⟨rfl, rfl, rfl⟩) (by omega) (by omega) (by omega) hS.cw) (is := cod m7_to 13) (L := [some (.inl 0), some (.inr f), some (.inr r), some (.inr 0), some (.inr (-1))]) (st := []) rfl rfl rfl ?_
    show Ex _ _ (cod m7_to 13, [some (.inl 0), some (.inr f), some (.inr r), some (.inr 0), some (.inr (-1))], [.inr (ocn (τ 4) f r (-1))], τ) _ _
    refine ex_c (s_isMove (τ := τ) (z := ocn (τ 4) f r (-1)) ⟨by omega, by omega⟩) (is := cod m7_to 14) (L := [some (.inl 0), some (.inr f), some (.inr r), some (.inr 0), some (.inr (-1))]) (st := []) rfl rfl rfl ?_
    show Ex _ _ (cod m7_to 14, [some (.inl 0), some (.inr f), some (.inr r), some (.inr 0), some (.inr (-1))], [.inr (b2 ((ocn (τ 4) f r (-1)) = 1 ∨ (ocn (τ 4) f r (-1)) = 2 ∨ (ocn (τ 4) f r (-1)) = 3))], τ) _ _
    refine ex_b (P := ¬ (b2 ((ocn (τ 4) f r (-1)) = 1 ∨ (ocn (τ 4) f r (-1)) = 2 ∨ (ocn (τ 4) f r (-1)) = 3)) = 0) (ct := (cod m7_to 19, [some (.inl 0), some (.inr f), some (.inr r), some (.inr 0), some (.inr (-1))], [], τ)) (cf := (cod m7_to 15, [some (.inl 0), some (.inr f), some (.inr r), some (.inr 0), some (.inr (-1))], [], τ)) rfl b2_rng (fun h1 => ?_) (fun h1 => ?_)
    · first
      | (exfalso; have h1 := b2_n0 h1; omega)
      | (
          have h1 := b2_n0 h1
          refine ex_k 5 (P := none) (g := (cod m7_to 24, [some (.inl 0), some (.inr f), some (.inr r), some (.inr 0), some (.inr (-1))], [.inr (-1), .inr r, .inr f, .inl 7], τ)) rfl trivial ?_
          refine ex_c (s_goalOf (τ := τ) (f := f) (r := r) (s := (-1)) (Or.inl ⟨rfl, rfl, rfl⟩) (by omega) (by omega) (by omega) hS.cw) (is := cod m7_to 25) (L := [some (.inl 0), some (.inr f), some (.inr r), some (.inr 0), some (.inr (-1))]) (st := []) rfl rfl rfl ?_
          show Ex _ _ (cod m7_to 25, [some (.inl 0), some (.inr f), some (.inr r), some (.inr 0), some (.inr (-1))], [.inr (gol (τ 4) f r (-1))], τ) _ _
          exact ex_r rfl trivial rfl ((by (repeat (first | rw [if_pos (by omega)] | rw [if_neg (by omega)])); first | done | rfl)))
    · first
      | (exfalso; have h1 := b2_nn0 h1; omega)
      | (
          have h1 := b2_nn0 h1
          exact ex_t rfl rfl ((by (repeat (first | rw [if_pos (by omega)] | rw [if_neg (by omega)])); first | done | rfl)))
  ·
    exact ex_x (s_needFerryAndRiver_x (τ := τ) (f := f) (r := r) hS ⟨by omega, by omega⟩ ⟨by omega, by omega⟩ hc1) rfl rfl rfl ((by (repeat (first | rw [if_pos (by omega)] | rw [if_neg (by omega)])); first | done | rfl))
theorem c_would_1 {f r : Int} {τ : SZ} (hf : Rng f) (hr : Rng r) {B : Int} (hS : Sh B (τ 4)) : RZ 7 m7_would [.inl 0, .inr f, .inr r, .inr 1] τ (if (0 ≤ f ∧ f < cel (τ 4) 107) ∧ (0 ≤ r ∧ r < 2) then .inl (some (.inr (if (ocn (τ 4) f r 1 = 1 ∨ ocn (τ 4) f r 1 = 2 ∨ ocn (τ 4) f r 1 = 3) then ocn (τ 4) f r 1 else 0)), τ) else .inr ("java/lang/IndexOutOfBoundsException", τ)) := by
  have hN := hS.n
  have ho := @ocn_in (τ 4) f r 1
  obtain ⟨hf1, hf2⟩ := hf
  obtain ⟨hr1, hr2⟩ := hr
  refine Ex.call ?_ rfl rfl
  show Ex _ _ (cod m7_would 0, [some (.inl 0), some (.inr f), some (.inr r), some (.inr 1), none], [], τ) _ _
  refine ex_k 3 (P := none) (g := (cod m7_would 3, [some (.inl 0), some (.inr f), some (.inr r), some (.inr 1), none], [.inr r, .inr f, .inl 0], τ)) rfl trivial ?_
  by_cases hc1 : (0 ≤ f ∧ f < cel (τ 4) 107) ∧ (0 ≤ r ∧ r < 2)
  ·
    refine ex_c (s_needFerryAndRiver_ok (τ := τ) (f := f) (r := r) hS ⟨by omega, by omega⟩ ⟨by omega, by omega⟩ hc1) (is := cod m7_would 4) (L := [some (.inl 0), some (.inr f), some (.inr r), some (.inr 1), none]) (st := []) rfl rfl rfl ?_
    show Ex _ _ (cod m7_would 4, [some (.inl 0), some (.inr f), some (.inr r), some (.inr 1), none], [], τ) _ _
    refine ex_k 5 (P := none) (g := (cod m7_would 9, [some (.inl 0), some (.inr f), some (.inr r), some (.inr 1), none], [.inr 1, .inr r, .inr f, .inl 7], τ)) rfl trivial ?_
    refine ex_c (s_stepTo (τ := τ) (z := 1) ⟨by omega, by omega⟩) (is := cod m7_would 10) (L := [some (.inl 0), some (.inr f), some (.inr r), some (.inr 1), none]) (st := [.inr r, .inr f, .inl 7]) rfl rfl rfl ?_
    show Ex _ _ (cod m7_would 10, [some (.inl 0), some (.inr f), some (.inr r), some (.inr 1), none], [.inr 1, .inr r, .inr f, .inl 7], τ) _ _
    refine ex_c (s_outcomeNow (τ := τ) (f := f) (r := r) (s := 1) (Or.inl ⟨rfl, rfl, rfl⟩) (by omega) (by omega) (by omega) hS.cw) (is := cod m7_would 11) (L := [some (.inl 0), some (.inr f), some (.inr r), some (.inr 1), none]) (st := []) rfl rfl rfl ?_
    show Ex _ _ (cod m7_would 11, [some (.inl 0), some (.inr f), some (.inr r), some (.inr 1), none], [.inr (ocn (τ 4) f r 1)], τ) _ _
    refine ex_k 2 (P := none) (g := (cod m7_would 13, [some (.inl 0), some (.inr f), some (.inr r), some (.inr 1), some (.inr (ocn (τ 4) f r 1))], [.inr (ocn (τ 4) f r 1)], τ)) rfl trivial ?_
    refine ex_c (s_isMove (τ := τ) (z := ocn (τ 4) f r 1) ⟨by omega, by omega⟩) (is := cod m7_would 14) (L := [some (.inl 0), some (.inr f), some (.inr r), some (.inr 1), some (.inr (ocn (τ 4) f r 1))]) (st := []) rfl rfl rfl ?_
    show Ex _ _ (cod m7_would 14, [some (.inl 0), some (.inr f), some (.inr r), some (.inr 1), some (.inr (ocn (τ 4) f r 1))], [.inr (b2 ((ocn (τ 4) f r 1) = 1 ∨ (ocn (τ 4) f r 1) = 2 ∨ (ocn (τ 4) f r 1) = 3))], τ) _ _
    refine ex_b (P := (b2 ((ocn (τ 4) f r 1) = 1 ∨ (ocn (τ 4) f r 1) = 2 ∨ (ocn (τ 4) f r 1) = 3)) = 0) (ct := (cod m7_would 17, [some (.inl 0), some (.inr f), some (.inr r), some (.inr 1), some (.inr (ocn (τ 4) f r 1))], [], τ)) (cf := (cod m7_would 15, [some (.inl 0), some (.inr f), some (.inr r), some (.inr 1), some (.inr (ocn (τ 4) f r 1))], [], τ)) rfl b2_rng (fun h1 => ?_) (fun h1 => ?_)
    · first
      | (exfalso; have h1 := b2_e0 h1; omega)
      | (
          have h1 := b2_e0 h1
          refine ex_k 1 (P := none) (g := (cod m7_would 18, [some (.inl 0), some (.inr f), some (.inr r), some (.inr 1), some (.inr (ocn (τ 4) f r 1))], [.inr 0], τ)) rfl trivial ?_
          exact ex_r rfl trivial rfl ((by (repeat (first | rw [if_pos (by omega)] | rw [if_neg (by omega)])); first | done | rfl)))
    · first
      | (exfalso; have h1 := b2_n0 h1; omega)
      | (
          have h1 := b2_n0 h1
          refine ex_k 2 (P := none) (g := (cod m7_would 18, [some (.inl 0), some (.inr f), some (.inr r), some (.inr 1), some (.inr (ocn (τ 4) f r 1))], [.inr (ocn (τ 4) f r 1)], τ)) rfl trivial ?_
          exact ex_r rfl trivial rfl ((by (repeat (first | rw [if_pos (by omega)] | rw [if_neg (by omega)])); first | done | rfl)))
  ·
    exact ex_x (s_needFerryAndRiver_x (τ := τ) (f := f) (r := r) hS ⟨by omega, by omega⟩ ⟨by omega, by omega⟩ hc1) rfl rfl rfl ((by (repeat (first | rw [if_pos (by omega)] | rw [if_neg (by omega)])); first | done | rfl))
theorem c_why_1_0 {f r : Int} {τ : SZ} (hf : Rng f) (hr : Rng r) {B : Int} (hS : Sh B (τ 4)) : RZ 7 m7_why [.inl 0, .inr f, .inr r, .inr 1, .inr 0] τ (if (0 ≤ f ∧ f < cel (τ 4) 107) ∧ (0 ≤ r ∧ r < 2) then (if (ocn (τ 4) f r 1 = 1 ∨ ocn (τ 4) f r 1 = 2 ∨ ocn (τ 4) f r 1 = 3) then .inr ("java/util/NoSuchElementException", τ) else .inl (some (.inr (ocn (τ 4) f r 1)), τ)) else .inr ("java/lang/IndexOutOfBoundsException", τ)) := by
  have hN := hS.n
  have ho := @ocn_in (τ 4) f r 1
  obtain ⟨hf1, hf2⟩ := hf
  obtain ⟨hr1, hr2⟩ := hr
  refine Ex.call ?_ rfl rfl
  show Ex _ _ (cod m7_why 0, [some (.inl 0), some (.inr f), some (.inr r), some (.inr 1), some (.inr 0), none, none], [], τ) _ _
  refine ex_k 3 (P := none) (g := (cod m7_why 3, [some (.inl 0), some (.inr f), some (.inr r), some (.inr 1), some (.inr 0), none, none], [.inr r, .inr f, .inl 0], τ)) rfl trivial ?_
  by_cases hc1 : (0 ≤ f ∧ f < cel (τ 4) 107) ∧ (0 ≤ r ∧ r < 2)
  ·
    refine ex_c (s_needFerryAndRiver_ok (τ := τ) (f := f) (r := r) hS ⟨by omega, by omega⟩ ⟨by omega, by omega⟩ hc1) (is := cod m7_why 4) (L := [some (.inl 0), some (.inr f), some (.inr r), some (.inr 1), some (.inr 0), none, none]) (st := []) rfl rfl rfl ?_
    show Ex _ _ (cod m7_why 4, [some (.inl 0), some (.inr f), some (.inr r), some (.inr 1), some (.inr 0), none, none], [], τ) _ _
    refine ex_k 1 (P := none) (g := (cod m7_why 5, [some (.inl 0), some (.inr f), some (.inr r), some (.inr 1), some (.inr 0), none, none], [.inr 1], τ)) rfl trivial ?_
    refine ex_c (s_stepTo (τ := τ) (z := 1) ⟨by omega, by omega⟩) (is := cod m7_why 6) (L := [some (.inl 0), some (.inr f), some (.inr r), some (.inr 1), some (.inr 0), none, none]) (st := []) rfl rfl rfl ?_
    show Ex _ _ (cod m7_why 6, [some (.inl 0), some (.inr f), some (.inr r), some (.inr 1), some (.inr 0), none, none], [.inr 1], τ) _ _
    refine ex_k 6 (P := none) (g := (cod m7_why 12, [some (.inl 0), some (.inr f), some (.inr r), some (.inr 1), some (.inr 0), some (.inr 1), none], [.inr 1, .inr r, .inr f, .inl 7], τ)) rfl trivial ?_
    refine ex_c (s_outcomeNow (τ := τ) (f := f) (r := r) (s := 1) (Or.inl ⟨rfl, rfl, rfl⟩) (by omega) (by omega) (by omega) hS.cw) (is := cod m7_why 13) (L := [some (.inl 0), some (.inr f), some (.inr r), some (.inr 1), some (.inr 0), some (.inr 1), none]) (st := []) rfl rfl rfl ?_
    show Ex _ _ (cod m7_why 13, [some (.inl 0), some (.inr f), some (.inr r), some (.inr 1), some (.inr 0), some (.inr 1), none], [.inr (ocn (τ 4) f r 1)], τ) _ _
    refine ex_k 2 (P := none) (g := (cod m7_why 15, [some (.inl 0), some (.inr f), some (.inr r), some (.inr 1), some (.inr 0), some (.inr 1), some (.inr (ocn (τ 4) f r 1))], [.inr (ocn (τ 4) f r 1)], τ)) rfl trivial ?_
    refine ex_c (s_isMove (τ := τ) (z := ocn (τ 4) f r 1) ⟨by omega, by omega⟩) (is := cod m7_why 16) (L := [some (.inl 0), some (.inr f), some (.inr r), some (.inr 1), some (.inr 0), some (.inr 1), some (.inr (ocn (τ 4) f r 1))]) (st := []) rfl rfl rfl ?_
    show Ex _ _ (cod m7_why 16, [some (.inl 0), some (.inr f), some (.inr r), some (.inr 1), some (.inr 0), some (.inr 1), some (.inr (ocn (τ 4) f r 1))], [.inr (b2 ((ocn (τ 4) f r 1) = 1 ∨ (ocn (τ 4) f r 1) = 2 ∨ (ocn (τ 4) f r 1) = 3))], τ) _ _
    refine ex_b (P := (b2 ((ocn (τ 4) f r 1) = 1 ∨ (ocn (τ 4) f r 1) = 2 ∨ (ocn (τ 4) f r 1) = 3)) = 0) (ct := (cod m7_why 21, [some (.inl 0), some (.inr f), some (.inr r), some (.inr 1), some (.inr 0), some (.inr 1), some (.inr (ocn (τ 4) f r 1))], [], τ)) (cf := (cod m7_why 17, [some (.inl 0), some (.inr f), some (.inr r), some (.inr 1), some (.inr 0), some (.inr 1), some (.inr (ocn (τ 4) f r 1))], [], τ)) rfl b2_rng (fun h1 => ?_) (fun h1 => ?_)
    · first
      | (exfalso; have h1 := b2_e0 h1; omega)
      | (
          have h1 := b2_e0 h1
          refine ex_k 1 (P := none) (g := (cod m7_why 22, [some (.inl 0), some (.inr f), some (.inr r), some (.inr 1), some (.inr 0), some (.inr 1), some (.inr (ocn (τ 4) f r 1))], [.inr 0], τ)) rfl trivial ?_
          refine ex_b (P := 0 = 0) (ct := (cod m7_why 31, [some (.inl 0), some (.inr f), some (.inr r), some (.inr 1), some (.inr 0), some (.inr 1), some (.inr (ocn (τ 4) f r 1))], [], τ)) (cf := (cod m7_why 23, [some (.inl 0), some (.inr f), some (.inr r), some (.inr 1), some (.inr 0), some (.inr 1), some (.inr (ocn (τ 4) f r 1))], [], τ)) rfl ⟨by decide, by decide⟩ (fun _ => ?_) (fun hh => absurd (by decide) hh)
          refine ex_k 1 (P := none) (g := (cod m7_why 32, [some (.inl 0), some (.inr f), some (.inr r), some (.inr 1), some (.inr 0), some (.inr 1), some (.inr (ocn (τ 4) f r 1))], [.inr (ocn (τ 4) f r 1)], τ)) rfl trivial ?_
          exact ex_r rfl trivial rfl ((by (repeat (first | rw [if_pos (by omega)] | rw [if_neg (by omega)])); first | done | rfl)))
    · first
      | (exfalso; have h1 := b2_n0 h1; omega)
      | (
          have h1 := b2_n0 h1
          exact ex_t rfl rfl ((by (repeat (first | rw [if_pos (by omega)] | rw [if_neg (by omega)])); first | done | rfl)))
  ·
    exact ex_x (s_needFerryAndRiver_x (τ := τ) (f := f) (r := r) hS ⟨by omega, by omega⟩ ⟨by omega, by omega⟩ hc1) rfl rfl rfl ((by (repeat (first | rw [if_pos (by omega)] | rw [if_neg (by omega)])); first | done | rfl))
theorem c_why_1_1 {f r : Int} {τ : SZ} (hf : Rng f) (hr : Rng r) {B : Int} (hS : Sh B (τ 4)) : RZ 7 m7_why [.inl 0, .inr f, .inr r, .inr 1, .inr 1] τ (if (0 ≤ f ∧ f < cel (τ 4) 107) ∧ (0 ≤ r ∧ r < 2) then (if (ocn (τ 4) f r 1 = 1 ∨ ocn (τ 4) f r 1 = 2 ∨ ocn (τ 4) f r 1 = 3) then .inr ("java/util/NoSuchElementException", τ) else .inl (some (.inr (dtl (τ 4) (ocn (τ 4) f r 1) f r 1)), τ)) else .inr ("java/lang/IndexOutOfBoundsException", τ)) := by
  have hN := hS.n
  have ho := @ocn_in (τ 4) f r 1
  obtain ⟨hf1, hf2⟩ := hf
  obtain ⟨hr1, hr2⟩ := hr
  refine Ex.call ?_ rfl rfl
  show Ex _ _ (cod m7_why 0, [some (.inl 0), some (.inr f), some (.inr r), some (.inr 1), some (.inr 1), none, none], [], τ) _ _
  refine ex_k 3 (P := none) (g := (cod m7_why 3, [some (.inl 0), some (.inr f), some (.inr r), some (.inr 1), some (.inr 1), none, none], [.inr r, .inr f, .inl 0], τ)) rfl trivial ?_
  by_cases hc1 : (0 ≤ f ∧ f < cel (τ 4) 107) ∧ (0 ≤ r ∧ r < 2)
  ·
    refine ex_c (s_needFerryAndRiver_ok (τ := τ) (f := f) (r := r) hS ⟨by omega, by omega⟩ ⟨by omega, by omega⟩ hc1) (is := cod m7_why 4) (L := [some (.inl 0), some (.inr f), some (.inr r), some (.inr 1), some (.inr 1), none, none]) (st := []) rfl rfl rfl ?_
    show Ex _ _ (cod m7_why 4, [some (.inl 0), some (.inr f), some (.inr r), some (.inr 1), some (.inr 1), none, none], [], τ) _ _
    refine ex_k 1 (P := none) (g := (cod m7_why 5, [some (.inl 0), some (.inr f), some (.inr r), some (.inr 1), some (.inr 1), none, none], [.inr 1], τ)) rfl trivial ?_
    refine ex_c (s_stepTo (τ := τ) (z := 1) ⟨by omega, by omega⟩) (is := cod m7_why 6) (L := [some (.inl 0), some (.inr f), some (.inr r), some (.inr 1), some (.inr 1), none, none]) (st := []) rfl rfl rfl ?_
    show Ex _ _ (cod m7_why 6, [some (.inl 0), some (.inr f), some (.inr r), some (.inr 1), some (.inr 1), none, none], [.inr 1], τ) _ _
    refine ex_k 6 (P := none) (g := (cod m7_why 12, [some (.inl 0), some (.inr f), some (.inr r), some (.inr 1), some (.inr 1), some (.inr 1), none], [.inr 1, .inr r, .inr f, .inl 7], τ)) rfl trivial ?_
    refine ex_c (s_outcomeNow (τ := τ) (f := f) (r := r) (s := 1) (Or.inl ⟨rfl, rfl, rfl⟩) (by omega) (by omega) (by omega) hS.cw) (is := cod m7_why 13) (L := [some (.inl 0), some (.inr f), some (.inr r), some (.inr 1), some (.inr 1), some (.inr 1), none]) (st := []) rfl rfl rfl ?_
    show Ex _ _ (cod m7_why 13, [some (.inl 0), some (.inr f), some (.inr r), some (.inr 1), some (.inr 1), some (.inr 1), none], [.inr (ocn (τ 4) f r 1)], τ) _ _
    refine ex_k 2 (P := none) (g := (cod m7_why 15, [some (.inl 0), some (.inr f), some (.inr r), some (.inr 1), some (.inr 1), some (.inr 1), some (.inr (ocn (τ 4) f r 1))], [.inr (ocn (τ 4) f r 1)], τ)) rfl trivial ?_
    refine ex_c (s_isMove (τ := τ) (z := ocn (τ 4) f r 1) ⟨by omega, by omega⟩) (is := cod m7_why 16) (L := [some (.inl 0), some (.inr f), some (.inr r), some (.inr 1), some (.inr 1), some (.inr 1), some (.inr (ocn (τ 4) f r 1))]) (st := []) rfl rfl rfl ?_
    show Ex _ _ (cod m7_why 16, [some (.inl 0), some (.inr f), some (.inr r), some (.inr 1), some (.inr 1), some (.inr 1), some (.inr (ocn (τ 4) f r 1))], [.inr (b2 ((ocn (τ 4) f r 1) = 1 ∨ (ocn (τ 4) f r 1) = 2 ∨ (ocn (τ 4) f r 1) = 3))], τ) _ _
    refine ex_b (P := (b2 ((ocn (τ 4) f r 1) = 1 ∨ (ocn (τ 4) f r 1) = 2 ∨ (ocn (τ 4) f r 1) = 3)) = 0) (ct := (cod m7_why 21, [some (.inl 0), some (.inr f), some (.inr r), some (.inr 1), some (.inr 1), some (.inr 1), some (.inr (ocn (τ 4) f r 1))], [], τ)) (cf := (cod m7_why 17, [some (.inl 0), some (.inr f), some (.inr r), some (.inr 1), some (.inr 1), some (.inr 1), some (.inr (ocn (τ 4) f r 1))], [], τ)) rfl b2_rng (fun h1 => ?_) (fun h1 => ?_)
    · first
      | (exfalso; have h1 := b2_e0 h1; omega)
      | (
          have h1 := b2_e0 h1
          refine ex_k 1 (P := none) (g := (cod m7_why 22, [some (.inl 0), some (.inr f), some (.inr r), some (.inr 1), some (.inr 1), some (.inr 1), some (.inr (ocn (τ 4) f r 1))], [.inr 1], τ)) rfl trivial ?_
          refine ex_b (P := 1 = 0) (ct := (cod m7_why 31, [some (.inl 0), some (.inr f), some (.inr r), some (.inr 1), some (.inr 1), some (.inr 1), some (.inr (ocn (τ 4) f r 1))], [], τ)) (cf := (cod m7_why 23, [some (.inl 0), some (.inr f), some (.inr r), some (.inr 1), some (.inr 1), some (.inr 1), some (.inr (ocn (τ 4) f r 1))], [], τ)) rfl ⟨by decide, by decide⟩ (fun hh => absurd hh (by decide)) (fun _ => ?_)
          refine ex_k 6 (P := none) (g := (cod m7_why 29, [some (.inl 0), some (.inr f), some (.inr r), some (.inr 1), some (.inr 1), some (.inr 1), some (.inr (ocn (τ 4) f r 1))], [.inr 1, .inr r, .inr f, .inr (ocn (τ 4) f r 1), .inl 7], τ)) rfl trivial ?_
          refine ex_c (s_detailOf (τ := τ) (x := ocn (τ 4) f r 1) (f := f) (r := r) (s := 1) (Or.inl ⟨rfl, rfl, rfl⟩) (by omega) (by omega) (by omega) (by omega) hS.cw) (is := cod m7_why 30) (L := [some (.inl 0), some (.inr f), some (.inr r), some (.inr 1), some (.inr 1), some (.inr 1), some (.inr (ocn (τ 4) f r 1))]) (st := []) rfl rfl rfl ?_
          show Ex _ _ (cod m7_why 30, [some (.inl 0), some (.inr f), some (.inr r), some (.inr 1), some (.inr 1), some (.inr 1), some (.inr (ocn (τ 4) f r 1))], [.inr (dtl (τ 4) (ocn (τ 4) f r 1) f r 1)], τ) _ _
          refine ex_k 1 (P := none) (g := (cod m7_why 32, [some (.inl 0), some (.inr f), some (.inr r), some (.inr 1), some (.inr 1), some (.inr 1), some (.inr (ocn (τ 4) f r 1))], [.inr (dtl (τ 4) (ocn (τ 4) f r 1) f r 1)], τ)) rfl trivial ?_
          exact ex_r rfl trivial rfl ((by (repeat (first | rw [if_pos (by omega)] | rw [if_neg (by omega)])); first | done | rfl)))
    · first
      | (exfalso; have h1 := b2_n0 h1; omega)
      | (
          have h1 := b2_n0 h1
          exact ex_t rfl rfl ((by (repeat (first | rw [if_pos (by omega)] | rw [if_neg (by omega)])); first | done | rfl)))
  ·
    exact ex_x (s_needFerryAndRiver_x (τ := τ) (f := f) (r := r) hS ⟨by omega, by omega⟩ ⟨by omega, by omega⟩ hc1) rfl rfl rfl ((by (repeat (first | rw [if_pos (by omega)] | rw [if_neg (by omega)])); first | done | rfl))
theorem c_to_1 {f r : Int} {τ : SZ} (hf : Rng f) (hr : Rng r) {B : Int} (hS : Sh B (τ 4)) : RZ 7 m7_to [.inl 0, .inr f, .inr r, .inr 1] τ (if (0 ≤ f ∧ f < cel (τ 4) 107) ∧ (0 ≤ r ∧ r < 2) then (if (ocn (τ 4) f r 1 = 1 ∨ ocn (τ 4) f r 1 = 2 ∨ ocn (τ 4) f r 1 = 3) then .inl (some (.inr (gol (τ 4) f r 1)), τ) else .inr ("java/util/NoSuchElementException", τ)) else .inr ("java/lang/IndexOutOfBoundsException", τ)) := by
  have hN := hS.n
  have ho := @ocn_in (τ 4) f r 1
  obtain ⟨hf1, hf2⟩ := hf
  obtain ⟨hr1, hr2⟩ := hr
  refine Ex.call ?_ rfl rfl
  show Ex _ _ (cod m7_to 0, [some (.inl 0), some (.inr f), some (.inr r), some (.inr 1), none], [], τ) _ _
  refine ex_k 3 (P := none) (g := (cod m7_to 3, [some (.inl 0), some (.inr f), some (.inr r), some (.inr 1), none], [.inr r, .inr f, .inl 0], τ)) rfl trivial ?_
  by_cases hc1 : (0 ≤ f ∧ f < cel (τ 4) 107) ∧ (0 ≤ r ∧ r < 2)
  ·
    refine ex_c (s_needFerryAndRiver_ok (τ := τ) (f := f) (r := r) hS ⟨by omega, by omega⟩ ⟨by omega, by omega⟩ hc1) (is := cod m7_to 4) (L := [some (.inl 0), some (.inr f), some (.inr r), some (.inr 1), none]) (st := []) rfl rfl rfl ?_
    show Ex _ _ (cod m7_to 4, [some (.inl 0), some (.inr f), some (.inr r), some (.inr 1), none], [], τ) _ _
    refine ex_k 1 (P := none) (g := (cod m7_to 5, [some (.inl 0), some (.inr f), some (.inr r), some (.inr 1), none], [.inr 1], τ)) rfl trivial ?_
    refine ex_c (s_stepTo (τ := τ) (z := 1) ⟨by omega, by omega⟩) (is := cod m7_to 6) (L := [some (.inl 0), some (.inr f), some (.inr r), some (.inr 1), none]) (st := []) rfl rfl rfl ?_
    show Ex _ _ (cod m7_to 6, [some (.inl 0), some (.inr f), some (.inr r), some (.inr 1), none], [.inr 1], τ) _ _
    refine ex_k 6 (P := none) (g := (cod m7_to 12, [some (.inl 0), some (.inr f), some (.inr r), some (.inr 1), some (.inr 1)], [.inr 1, .inr r, .inr f, .inl 7], τ)) rfl trivial ?_
    refine ex_c (s_outcomeNow (τ := τ) (f := f) (r := r) (s := 1) (Or.inl ⟨rfl, rfl, rfl⟩) (by omega) (by omega) (by omega) hS.cw) (is := cod m7_to 13) (L := [some (.inl 0), some (.inr f), some (.inr r), some (.inr 1), some (.inr 1)]) (st := []) rfl rfl rfl ?_
    show Ex _ _ (cod m7_to 13, [some (.inl 0), some (.inr f), some (.inr r), some (.inr 1), some (.inr 1)], [.inr (ocn (τ 4) f r 1)], τ) _ _
    refine ex_c (s_isMove (τ := τ) (z := ocn (τ 4) f r 1) ⟨by omega, by omega⟩) (is := cod m7_to 14) (L := [some (.inl 0), some (.inr f), some (.inr r), some (.inr 1), some (.inr 1)]) (st := []) rfl rfl rfl ?_
    show Ex _ _ (cod m7_to 14, [some (.inl 0), some (.inr f), some (.inr r), some (.inr 1), some (.inr 1)], [.inr (b2 ((ocn (τ 4) f r 1) = 1 ∨ (ocn (τ 4) f r 1) = 2 ∨ (ocn (τ 4) f r 1) = 3))], τ) _ _
    refine ex_b (P := ¬ (b2 ((ocn (τ 4) f r 1) = 1 ∨ (ocn (τ 4) f r 1) = 2 ∨ (ocn (τ 4) f r 1) = 3)) = 0) (ct := (cod m7_to 19, [some (.inl 0), some (.inr f), some (.inr r), some (.inr 1), some (.inr 1)], [], τ)) (cf := (cod m7_to 15, [some (.inl 0), some (.inr f), some (.inr r), some (.inr 1), some (.inr 1)], [], τ)) rfl b2_rng (fun h1 => ?_) (fun h1 => ?_)
    · first
      | (exfalso; have h1 := b2_n0 h1; omega)
      | (
          have h1 := b2_n0 h1
          refine ex_k 5 (P := none) (g := (cod m7_to 24, [some (.inl 0), some (.inr f), some (.inr r), some (.inr 1), some (.inr 1)], [.inr 1, .inr r, .inr f, .inl 7], τ)) rfl trivial ?_
          refine ex_c (s_goalOf (τ := τ) (f := f) (r := r) (s := 1) (Or.inl ⟨rfl, rfl, rfl⟩) (by omega) (by omega) (by omega) hS.cw) (is := cod m7_to 25) (L := [some (.inl 0), some (.inr f), some (.inr r), some (.inr 1), some (.inr 1)]) (st := []) rfl rfl rfl ?_
          show Ex _ _ (cod m7_to 25, [some (.inl 0), some (.inr f), some (.inr r), some (.inr 1), some (.inr 1)], [.inr (gol (τ 4) f r 1)], τ) _ _
          exact ex_r rfl trivial rfl ((by (repeat (first | rw [if_pos (by omega)] | rw [if_neg (by omega)])); first | done | rfl)))
    · first
      | (exfalso; have h1 := b2_nn0 h1; omega)
      | (
          have h1 := b2_nn0 h1
          exact ex_t rfl rfl ((by (repeat (first | rw [if_pos (by omega)] | rw [if_neg (by omega)])); first | done | rfl)))
  ·
    exact ex_x (s_needFerryAndRiver_x (τ := τ) (f := f) (r := r) hS ⟨by omega, by omega⟩ ⟨by omega, by omega⟩ hc1) rfl rfl rfl ((by (repeat (first | rw [if_pos (by omega)] | rw [if_neg (by omega)])); first | done | rfl))
theorem c_moves_0 {x : Int} {τ : SZ} (hx : Rng x) {B : Int} (hS : Sh B (τ 4)) {N : Nat} (hn : cel (τ 4) 107 = (N : Int)) : RZ 8 m7_moves [.inl 0, .inr x, .inr 0] τ (if 0 ≤ x ∧ x < 2 then .inl (some (.inr (mbf (τ 4) x N)), τ) else .inr ("java/lang/IllegalArgumentException", τ)) := by
  obtain ⟨hx1, hx2⟩ := hx
  refine Ex.call ?_ rfl rfl
  show Ex _ _ (cod m7_moves 0, [some (.inl 0), some (.inr x), some (.inr 0)], [], τ) _ _
  refine ex_k 1 (P := none) (g := (cod m7_moves 1, [some (.inl 0), some (.inr x), some (.inr 0)], [.inr x], τ)) rfl trivial ?_
  by_cases hc1 : 0 ≤ x ∧ x < 2
  ·
    refine ex_c (s_needSide_ok (τ := τ) (x := x) ⟨by omega, by omega⟩ hc1) (is := cod m7_moves 2) (L := [some (.inl 0), some (.inr x), some (.inr 0)]) (st := []) rfl rfl rfl ?_
    show Ex _ _ (cod m7_moves 2, [some (.inl 0), some (.inr x), some (.inr 0)], [], τ) _ _
    refine ex_k 1 (P := none) (g := (cod m7_moves 3, [some (.inl 0), some (.inr x), some (.inr 0)], [.inr 0], τ)) rfl trivial ?_
    refine ex_b (P := 0 = 0) (ct := (cod m7_moves 9, [some (.inl 0), some (.inr x), some (.inr 0)], [], τ)) (cf := (cod m7_moves 4, [some (.inl 0), some (.inr x), some (.inr 0)], [], τ)) rfl ⟨by decide, by decide⟩ (fun _ => ?_) (fun hh => absurd (by decide) hh)
    refine ex_k 3 (P := none) (g := (cod m7_moves 12, [some (.inl 0), some (.inr x), some (.inr 0)], [.inr x, .inl 7], τ)) rfl trivial ?_
    refine ex_c (s_movesByFerry (τ := τ) (x := x) (Or.inl ⟨rfl, rfl, rfl⟩) (by omega) hS hn) (is := cod m7_moves 13) (L := [some (.inl 0), some (.inr x), some (.inr 0)]) (st := []) rfl rfl rfl ?_
    show Ex _ _ (cod m7_moves 13, [some (.inl 0), some (.inr x), some (.inr 0)], [.inr (mbf (τ 4) x N)], τ) _ _
    exact ex_r rfl trivial rfl ((by (repeat (first | rw [if_pos (by omega)] | rw [if_neg (by omega)])); first | done | rfl))
  ·
    exact ex_x (s_needSide_x (τ := τ) (x := x) ⟨by omega, by omega⟩ hc1) rfl rfl rfl ((by (repeat (first | rw [if_pos (by omega)] | rw [if_neg (by omega)])); first | done | rfl))
theorem c_captures_0 {x : Int} {τ : SZ} (hx : Rng x) {B : Int} (hS : Sh B (τ 4)) {N : Nat} (hn : cel (τ 4) 107 = (N : Int)) : RZ 8 m7_captures [.inl 0, .inr x, .inr 0] τ (if 0 ≤ x ∧ x < 2 then .inl (some (.inr (cbj (τ 4) x N)), τ) else .inr ("java/lang/IllegalArgumentException", τ)) := by
  obtain ⟨hx1, hx2⟩ := hx
  refine Ex.call ?_ rfl rfl
  show Ex _ _ (cod m7_captures 0, [some (.inl 0), some (.inr x), some (.inr 0)], [], τ) _ _
  refine ex_k 1 (P := none) (g := (cod m7_captures 1, [some (.inl 0), some (.inr x), some (.inr 0)], [.inr x], τ)) rfl trivial ?_
  by_cases hc1 : 0 ≤ x ∧ x < 2
  ·
    refine ex_c (s_needSide_ok (τ := τ) (x := x) ⟨by omega, by omega⟩ hc1) (is := cod m7_captures 2) (L := [some (.inl 0), some (.inr x), some (.inr 0)]) (st := []) rfl rfl rfl ?_
    show Ex _ _ (cod m7_captures 2, [some (.inl 0), some (.inr x), some (.inr 0)], [], τ) _ _
    refine ex_k 1 (P := none) (g := (cod m7_captures 3, [some (.inl 0), some (.inr x), some (.inr 0)], [.inr 0], τ)) rfl trivial ?_
    refine ex_b (P := 0 = 0) (ct := (cod m7_captures 9, [some (.inl 0), some (.inr x), some (.inr 0)], [], τ)) (cf := (cod m7_captures 4, [some (.inl 0), some (.inr x), some (.inr 0)], [], τ)) rfl ⟨by decide, by decide⟩ (fun _ => ?_) (fun hh => absurd (by decide) hh)
    refine ex_k 3 (P := none) (g := (cod m7_captures 12, [some (.inl 0), some (.inr x), some (.inr 0)], [.inr x, .inl 7], τ)) rfl trivial ?_
    refine ex_c (s_capturesByJumper (τ := τ) (x := x) (Or.inl ⟨rfl, rfl, rfl⟩) (by omega) hS hn) (is := cod m7_captures 13) (L := [some (.inl 0), some (.inr x), some (.inr 0)]) (st := []) rfl rfl rfl ?_
    show Ex _ _ (cod m7_captures 13, [some (.inl 0), some (.inr x), some (.inr 0)], [.inr (cbj (τ 4) x N)], τ) _ _
    exact ex_r rfl trivial rfl ((by (repeat (first | rw [if_pos (by omega)] | rw [if_neg (by omega)])); first | done | rfl))
  ·
    exact ex_x (s_needSide_x (τ := τ) (x := x) ⟨by omega, by omega⟩ hc1) rfl rfl rfl ((by (repeat (first | rw [if_pos (by omega)] | rw [if_neg (by omega)])); first | done | rfl))
theorem c_moves_1 {x : Int} {τ : SZ} (hx : Rng x) {B : Int} (hS : Sh B (τ 4)) {N : Nat} (hn : cel (τ 4) 107 = (N : Int)) : RZ 8 m7_moves [.inl 0, .inr x, .inr 1] τ (if 0 ≤ x ∧ x < 2 then .inl (some (.inr (mbp (τ 4) x)), τ) else .inr ("java/lang/IllegalArgumentException", τ)) := by
  obtain ⟨hx1, hx2⟩ := hx
  refine Ex.call ?_ rfl rfl
  show Ex _ _ (cod m7_moves 0, [some (.inl 0), some (.inr x), some (.inr 1)], [], τ) _ _
  refine ex_k 1 (P := none) (g := (cod m7_moves 1, [some (.inl 0), some (.inr x), some (.inr 1)], [.inr x], τ)) rfl trivial ?_
  by_cases hc1 : 0 ≤ x ∧ x < 2
  ·
    refine ex_c (s_needSide_ok (τ := τ) (x := x) ⟨by omega, by omega⟩ hc1) (is := cod m7_moves 2) (L := [some (.inl 0), some (.inr x), some (.inr 1)]) (st := []) rfl rfl rfl ?_
    show Ex _ _ (cod m7_moves 2, [some (.inl 0), some (.inr x), some (.inr 1)], [], τ) _ _
    refine ex_k 1 (P := none) (g := (cod m7_moves 3, [some (.inl 0), some (.inr x), some (.inr 1)], [.inr 1], τ)) rfl trivial ?_
    refine ex_b (P := 1 = 0) (ct := (cod m7_moves 9, [some (.inl 0), some (.inr x), some (.inr 1)], [], τ)) (cf := (cod m7_moves 4, [some (.inl 0), some (.inr x), some (.inr 1)], [], τ)) rfl ⟨by decide, by decide⟩ (fun hh => absurd hh (by decide)) (fun _ => ?_)
    refine ex_k 3 (P := none) (g := (cod m7_moves 7, [some (.inl 0), some (.inr x), some (.inr 1)], [.inr x, .inl 7], τ)) rfl trivial ?_
    refine ex_c (s_movesByPlace (τ := τ) (x := x) (Or.inl ⟨rfl, rfl, rfl⟩) (by omega) hS) (is := cod m7_moves 8) (L := [some (.inl 0), some (.inr x), some (.inr 1)]) (st := []) rfl rfl rfl ?_
    show Ex _ _ (cod m7_moves 8, [some (.inl 0), some (.inr x), some (.inr 1)], [.inr (mbp (τ 4) x)], τ) _ _
    refine ex_k 1 (P := none) (g := (cod m7_moves 13, [some (.inl 0), some (.inr x), some (.inr 1)], [.inr (mbp (τ 4) x)], τ)) rfl trivial ?_
    exact ex_r rfl trivial rfl ((by (repeat (first | rw [if_pos (by omega)] | rw [if_neg (by omega)])); first | done | rfl))
  ·
    exact ex_x (s_needSide_x (τ := τ) (x := x) ⟨by omega, by omega⟩ hc1) rfl rfl rfl ((by (repeat (first | rw [if_pos (by omega)] | rw [if_neg (by omega)])); first | done | rfl))
theorem c_captures_1 {x : Int} {τ : SZ} (hx : Rng x) {B : Int} (hS : Sh B (τ 4)) {N : Nat} (hn : cel (τ 4) 107 = (N : Int)) : RZ 8 m7_captures [.inl 0, .inr x, .inr 1] τ (if 0 ≤ x ∧ x < 2 then .inl (some (.inr (cbd (τ 4) x N)), τ) else .inr ("java/lang/IllegalArgumentException", τ)) := by
  obtain ⟨hx1, hx2⟩ := hx
  refine Ex.call ?_ rfl rfl
  show Ex _ _ (cod m7_captures 0, [some (.inl 0), some (.inr x), some (.inr 1)], [], τ) _ _
  refine ex_k 1 (P := none) (g := (cod m7_captures 1, [some (.inl 0), some (.inr x), some (.inr 1)], [.inr x], τ)) rfl trivial ?_
  by_cases hc1 : 0 ≤ x ∧ x < 2
  ·
    refine ex_c (s_needSide_ok (τ := τ) (x := x) ⟨by omega, by omega⟩ hc1) (is := cod m7_captures 2) (L := [some (.inl 0), some (.inr x), some (.inr 1)]) (st := []) rfl rfl rfl ?_
    show Ex _ _ (cod m7_captures 2, [some (.inl 0), some (.inr x), some (.inr 1)], [], τ) _ _
    refine ex_k 1 (P := none) (g := (cod m7_captures 3, [some (.inl 0), some (.inr x), some (.inr 1)], [.inr 1], τ)) rfl trivial ?_
    refine ex_b (P := 1 = 0) (ct := (cod m7_captures 9, [some (.inl 0), some (.inr x), some (.inr 1)], [], τ)) (cf := (cod m7_captures 4, [some (.inl 0), some (.inr x), some (.inr 1)], [], τ)) rfl ⟨by decide, by decide⟩ (fun hh => absurd hh (by decide)) (fun _ => ?_)
    refine ex_k 3 (P := none) (g := (cod m7_captures 7, [some (.inl 0), some (.inr x), some (.inr 1)], [.inr x, .inl 7], τ)) rfl trivial ?_
    refine ex_c (s_capturesByJumped (τ := τ) (x := x) (Or.inl ⟨rfl, rfl, rfl⟩) (by omega) hS hn) (is := cod m7_captures 8) (L := [some (.inl 0), some (.inr x), some (.inr 1)]) (st := []) rfl rfl rfl ?_
    show Ex _ _ (cod m7_captures 8, [some (.inl 0), some (.inr x), some (.inr 1)], [.inr (cbd (τ 4) x N)], τ) _ _
    refine ex_k 1 (P := none) (g := (cod m7_captures 13, [some (.inl 0), some (.inr x), some (.inr 1)], [.inr (cbd (τ 4) x N)], τ)) rfl trivial ?_
    exact ex_r rfl trivial rfl ((by (repeat (first | rw [if_pos (by omega)] | rw [if_neg (by omega)])); first | done | rfl))
  ·
    exact ex_x (s_needSide_x (τ := τ) (x := x) ⟨by omega, by omega⟩ hc1) rfl rfl rfl ((by (repeat (first | rw [if_pos (by omega)] | rw [if_neg (by omega)])); first | done | rfl))
theorem c_isThreatened {f : Int} {τ : SZ} (hf : Rng f) {B : Int} (hS : Sh B (τ 4)) : RZ 7 m7_isThreatened [.inl 0, .inr f] τ (if (0 ≤ f ∧ f < cel (τ 4) 107) then .inl (some (.inr (b2 (0 < jov (τ 4) f))), τ) else .inr ("java/lang/IndexOutOfBoundsException", τ)) := by
  have hN := hS.n
  have hj := @jov_in (τ 4) f
  obtain ⟨hf1, hf2⟩ := hf
  refine Ex.call ?_ rfl rfl
  show Ex _ _ (cod m7_isThreatened 0, [some (.inl 0), some (.inr f)], [], τ) _ _
  refine ex_k 2 (P := none) (g := (cod m7_isThreatened 2, [some (.inl 0), some (.inr f)], [.inr f, .inl 0], τ)) rfl trivial ?_
  by_cases hc1 : 0 ≤ f ∧ f < cel (τ 4) 107
  ·
    refine ex_c (s_needFerry_ok (τ := τ) (f := f) hS ⟨by omega, by omega⟩ hc1) (is := cod m7_isThreatened 3) (L := [some (.inl 0), some (.inr f)]) (st := []) rfl rfl rfl ?_
    show Ex _ _ (cod m7_isThreatened 3, [some (.inl 0), some (.inr f)], [], τ) _ _
    refine ex_k 3 (P := none) (g := (cod m7_isThreatened 6, [some (.inl 0), some (.inr f)], [.inr f, .inl 7], τ)) rfl trivial ?_
    refine ex_c (s_jumpsOver (τ := τ) (f := f) (Or.inl ⟨rfl, rfl, rfl⟩) (by omega) hS) (is := cod m7_isThreatened 7) (L := [some (.inl 0), some (.inr f)]) (st := []) rfl rfl rfl ?_
    show Ex _ _ (cod m7_isThreatened 7, [some (.inl 0), some (.inr f)], [.inr (jov (τ 4) f)], τ) _ _
    refine ex_b (P := (jov (τ 4) f) ≤ 0) (ct := (cod m7_isThreatened 10, [some (.inl 0), some (.inr f)], [], τ)) (cf := (cod m7_isThreatened 8, [some (.inl 0), some (.inr f)], [], τ)) rfl ⟨by omega, by omega⟩ (fun h1 => ?_) (fun h1 => ?_)
    · first
      | (exfalso; omega)
      | (
          refine ex_k 1 (P := none) (g := (cod m7_isThreatened 11, [some (.inl 0), some (.inr f)], [.inr 0], τ)) rfl trivial ?_
          exact ex_r rfl (by first | exact Or.inl rfl | exact Or.inr rfl | omega) rfl ((by (repeat (first | rw [if_pos (by omega)] | rw [if_neg (by omega)])); first | done | rfl | (rw [b2_t (by omega)]; done) | (rw [b2_f (by omega)]; done))))
    · first
      | (exfalso; omega)
      | (
          refine ex_k 2 (P := none) (g := (cod m7_isThreatened 11, [some (.inl 0), some (.inr f)], [.inr 1], τ)) rfl trivial ?_
          exact ex_r rfl (by first | exact Or.inl rfl | exact Or.inr rfl | omega) rfl ((by (repeat (first | rw [if_pos (by omega)] | rw [if_neg (by omega)])); first | done | rfl | (rw [b2_t (by omega)]; done) | (rw [b2_f (by omega)]; done))))
  ·
    exact ex_x (s_needFerry_x (τ := τ) (f := f) hS ⟨by omega, by omega⟩ hc1) rfl rfl rfl ((by (repeat (first | rw [if_pos (by omega)] | rw [if_neg (by omega)])); first | done | rfl | (rw [b2_t (by omega)]; done) | (rw [b2_f (by omega)]; done)))
theorem wtl_in {c : Nat → Int} {f r : Int} : ∀ (j : Nat), j ≤ 11 → 0 ≤ wtl c f r j ∧ wtl c f r j ≤ 11 := by
  intro j
  induction j with
  | zero => intro _; show (0 : Int) ≤ 0 ∧ (0 : Int) ≤ 11; omega
  | succ j ih =>
    intro h
    have q := ih (by omega)
    unfold wtl
    split <;> omega
theorem c_toLock {f r : Int} {τ : SZ} (hf : Rng f) (hr : Rng r) {B : Int} (hS : Sh B (τ 4)) : RZ 7 m7_toLock [.inl 0, .inr f, .inr r] τ (if (0 ≤ f ∧ f < cel (τ 4) 107) ∧ (0 ≤ r ∧ r < 2) then (if wtl (τ 4) f r 11 = 0 then .inr ("java/util/NoSuchElementException", τ) else .inl (some (.inr (wtl (τ 4) f r 11)), τ)) else .inr ("java/lang/IndexOutOfBoundsException", τ)) := by
  have hN := hS.n
  have hw := @wtl_in (τ 4) f r 11 (by omega)
  obtain ⟨hf1, hf2⟩ := hf
  obtain ⟨hr1, hr2⟩ := hr
  refine Ex.call ?_ rfl rfl
  show Ex _ _ (cod m7_toLock 0, [some (.inl 0), some (.inr f), some (.inr r), none], [], τ) _ _
  refine ex_k 3 (P := none) (g := (cod m7_toLock 3, [some (.inl 0), some (.inr f), some (.inr r), none], [.inr r, .inr f, .inl 0], τ)) rfl trivial ?_
  by_cases hc1 : (0 ≤ f ∧ f < cel (τ 4) 107) ∧ (0 ≤ r ∧ r < 2)
  ·
    refine ex_c (s_needFerryAndRiver_ok (τ := τ) (f := f) (r := r) hS ⟨by omega, by omega⟩ ⟨by omega, by omega⟩ hc1) (is := cod m7_toLock 4) (L := [some (.inl 0), some (.inr f), some (.inr r), none]) (st := []) rfl rfl rfl ?_
    show Ex _ _ (cod m7_toLock 4, [some (.inl 0), some (.inr f), some (.inr r), none], [], τ) _ _
    refine ex_k 4 (P := none) (g := (cod m7_toLock 8, [some (.inl 0), some (.inr f), some (.inr r), none], [.inr r, .inr f, .inl 7], τ)) rfl trivial ?_
    refine ex_c (s_wayToLock (τ := τ) (f := f) (r := r) (Or.inl ⟨rfl, rfl, rfl⟩) (by omega) (by omega) hS) (is := cod m7_toLock 9) (L := [some (.inl 0), some (.inr f), some (.inr r), none]) (st := []) rfl rfl rfl ?_
    show Ex _ _ (cod m7_toLock 9, [some (.inl 0), some (.inr f), some (.inr r), none], [.inr (wtl (τ 4) f r 11)], τ) _ _
    refine ex_k 2 (P := none) (g := (cod m7_toLock 11, [some (.inl 0), some (.inr f), some (.inr r), some (.inr (wtl (τ 4) f r 11))], [.inr (wtl (τ 4) f r 11)], τ)) rfl trivial ?_
    refine ex_b (P := ¬ (wtl (τ 4) f r 11) = 0) (ct := (cod m7_toLock 16, [some (.inl 0), some (.inr f), some (.inr r), some (.inr (wtl (τ 4) f r 11))], [], τ)) (cf := (cod m7_toLock 12, [some (.inl 0), some (.inr f), some (.inr r), some (.inr (wtl (τ 4) f r 11))], [], τ)) rfl ⟨by omega, by omega⟩ (fun h1 => ?_) (fun h1 => ?_)
    · first
      | (exfalso; omega)
      | (
          refine ex_k 1 (P := none) (g := (cod m7_toLock 17, [some (.inl 0), some (.inr f), some (.inr r), some (.inr (wtl (τ 4) f r 11))], [.inr (wtl (τ 4) f r 11)], τ)) rfl trivial ?_
          exact ex_r rfl trivial rfl ((by (repeat (first | rw [if_pos (by omega)] | rw [if_neg (by omega)])); first | done | rfl)))
    · first
      | (exfalso; omega)
      | (
          exact ex_t rfl rfl ((by (repeat (first | rw [if_pos (by omega)] | rw [if_neg (by omega)])); first | done | rfl)))
  ·
    exact ex_x (s_needFerryAndRiver_x (τ := τ) (f := f) (r := r) hS ⟨by omega, by omega⟩ ⟨by omega, by omega⟩ hc1) rfl rfl rfl ((by (repeat (first | rw [if_pos (by omega)] | rw [if_neg (by omega)])); first | done | rfl))
end MA2
