/-! contracts of the game, part two: printed by wip/whole/db6.py -/
section GAM2
theorem cnt_t {v S : Int} {P : Prop} [Decidable P] (hv : v = S) (h : P) : v + 1 = S + b2 P := by rw [hv, b2_t h]
theorem cnt_f {v S : Int} {P : Prop} [Decidable P] (hv : v = S) (h : ¬ P) : v = S + b2 P := by rw [hv, b2_f h]; omega
theorem add_t {v S x : Int} {P : Prop} [Decidable P] (hv : v = S) (h : P) : v + x = S + (if P then x else 0) := by rw [hv, if_pos h]
theorem add_f {v S x : Int} {P : Prop} [Decidable P] (hv : v = S) (h : ¬ P) : v = S + (if P then x else 0) := by rw [hv, if_neg h]; omega
def mvo (c : Nat → Int) (f : Int) : Int := 0 + b2 (oco c f 0 (-1) = 1 ∨ oco c f 0 (-1) = 2 ∨ oco c f 0 (-1) = 3) + b2 (oco c f 0 1 = 1 ∨ oco c f 0 1 = 2 ∨ oco c f 0 1 = 3) + b2 (oco c f 1 (-1) = 1 ∨ oco c f 1 (-1) = 2 ∨ oco c f 1 (-1) = 3) + b2 (oco c f 1 1 = 1 ∨ oco c f 1 1 = 2 ∨ oco c f 1 1 = 3)
theorem mvo_in {c : Nat → Int} {f : Int} : 0 ≤ mvo c f ∧ mvo c f ≤ 4 := by
  have h0 := @b2_01 (oco c f 0 (-1) = 1 ∨ oco c f 0 (-1) = 2 ∨ oco c f 0 (-1) = 3) _
  have h1 := @b2_01 (oco c f 0 1 = 1 ∨ oco c f 0 1 = 2 ∨ oco c f 0 1 = 3) _
  have h2 := @b2_01 (oco c f 1 (-1) = 1 ∨ oco c f 1 (-1) = 2 ∨ oco c f 1 (-1) = 3) _
  have h3 := @b2_01 (oco c f 1 1 = 1 ∨ oco c f 1 1 = 2 ∨ oco c f 1 1 = 3) _
  unfold mvo
  omega
theorem s_movesOf {γ ρ a : Nat} {f : Int} {τ : SZ} (hγ : GA γ ρ a) (hf : 0 ≤ f ∧ f < 8) {B : Int} (hS : Sh B (τ a)) : RZ 4 m1_movesOf [.inl γ, .inr f] τ (.inl (some (.inr (mvo (τ a) f)), τ)) := by
  rcases hγ with ⟨rfl, rfl, rfl⟩ | ⟨rfl, rfl, rfl⟩
  · have hsd := hS.sd hf
    have hp1 := hS.p1 hf
    have hp2 := hS.p2 hf
    have ho0 := @oco_in (τ 4) f 0 (-1)
    have ho1 := @oco_in (τ 4) f 0 1
    have ho2 := @oco_in (τ 4) f 1 (-1)
    have ho3 := @oco_in (τ 4) f 1 1
    have q3 : ∀ (v : Int), v = 0 + b2 (oco (τ 4) f 0 (-1) = 1 ∨ oco (τ 4) f 0 (-1) = 2 ∨ oco (τ 4) f 0 (-1) = 3) + b2 (oco (τ 4) f 0 1 = 1 ∨ oco (τ 4) f 0 1 = 2 ∨ oco (τ 4) f 0 1 = 3) + b2 (oco (τ 4) f 1 (-1) = 1 ∨ oco (τ 4) f 1 (-1) = 2 ∨ oco (τ 4) f 1 (-1) = 3) → Ex 3 m1_movesOf (cod m1_movesOf 9, [some (.inl 7), some (.inr f), some (.inr v), some (.inr 1), some (.inr 1)], [], τ) 0 (.inl (some (.inr (mvo (τ 4) f)), τ)) := by
      intro v hv
      refine ex_k 2 (P := none) (g := (cod m1_movesOf 11, [some (.inl 7), some (.inr f), some (.inr v), some (.inr 1), some (.inr 1)], [.inr 1, .inr 1], τ)) rfl trivial ?_
      refine ex_b (P := 1 < 1) (ct := (cod m1_movesOf 22, [some (.inl 7), some (.inr f), some (.inr v), some (.inr 1), some (.inr 1)], [], τ)) (cf := (cod m1_movesOf 12, [some (.inl 7), some (.inr f), some (.inr v), some (.inr 1), some (.inr 1)], [], τ)) rfl ⟨⟨by decide, by decide⟩, ⟨by decide, by decide⟩⟩ (fun hh => absurd hh (by decide)) (fun _ => ?_)
      refine ex_k 4 (P := none) (g := (cod m1_movesOf 16, [some (.inl 7), some (.inr f), some (.inr v), some (.inr 1), some (.inr 1)], [.inr 1, .inr 1, .inr f, .inl 7], τ)) rfl trivial ?_
      refine ex_c (s_outcomeOf (τ := τ) (f := f) (r := 1) (s := 1) (Or.inl ⟨rfl, rfl, rfl⟩) (by omega) (by omega) (by omega) hS.cw) (is := cod m1_movesOf 17) (L := [some (.inl 7), some (.inr f), some (.inr v), some (.inr 1), some (.inr 1)]) (st := []) rfl rfl rfl ?_
      show Ex _ _ (cod m1_movesOf 17, [some (.inl 7), some (.inr f), some (.inr v), some (.inr 1), some (.inr 1)], [.inr (oco (τ 4) f 1 1)], τ) _ _
      refine ex_c (s_isMove (τ := τ) (z := oco (τ 4) f 1 1) ⟨by omega, by omega⟩) (is := cod m1_movesOf 18) (L := [some (.inl 7), some (.inr f), some (.inr v), some (.inr 1), some (.inr 1)]) (st := []) rfl rfl rfl ?_
      show Ex _ _ (cod m1_movesOf 18, [some (.inl 7), some (.inr f), some (.inr v), some (.inr 1), some (.inr 1)], [.inr (b2 ((oco (τ 4) f 1 1) = 1 ∨ (oco (τ 4) f 1 1) = 2 ∨ (oco (τ 4) f 1 1) = 3))], τ) _ _
      refine ex_b (P := (b2 ((oco (τ 4) f 1 1) = 1 ∨ (oco (τ 4) f 1 1) = 2 ∨ (oco (τ 4) f 1 1) = 3)) = 0) (ct := (cod m1_movesOf 20, [some (.inl 7), some (.inr f), some (.inr v), some (.inr 1), some (.inr 1)], [], τ)) (cf := (cod m1_movesOf 19, [some (.inl 7), some (.inr f), some (.inr v), some (.inr 1), some (.inr 1)], [], τ)) rfl b2_rng (fun h2 => ?_) (fun h2 => ?_)
      · first
        | (exfalso; have h2 := b2_e0 h2; omega)
        | (
            have h2 := b2_e0 h2
            refine ex_k 4 (P := none) (g := (cod m1_movesOf 11, [some (.inl 7), some (.inr f), some (.inr v), some (.inr 1), some (.inr 3)], [.inr 1, .inr 3], τ)) rfl trivial ?_
            refine ex_b (P := 1 < 3) (ct := (cod m1_movesOf 22, [some (.inl 7), some (.inr f), some (.inr v), some (.inr 1), some (.inr 3)], [], τ)) (cf := (cod m1_movesOf 12, [some (.inl 7), some (.inr f), some (.inr v), some (.inr 1), some (.inr 3)], [], τ)) rfl ⟨⟨by decide, by decide⟩, ⟨by decide, by decide⟩⟩ (fun _ => ?_) (fun hh => absurd (by decide) hh)
            refine ex_k 4 (P := none) (g := (cod m1_movesOf 6, [some (.inl 7), some (.inr f), some (.inr v), some (.inr 2), some (.inr 3)], [.inr 2, .inr 2], τ)) rfl trivial ?_
            refine ex_b (P := 2 ≤ 2) (ct := (cod m1_movesOf 24, [some (.inl 7), some (.inr f), some (.inr v), some (.inr 2), some (.inr 3)], [], τ)) (cf := (cod m1_movesOf 7, [some (.inl 7), some (.inr f), some (.inr v), some (.inr 2), some (.inr 3)], [], τ)) rfl ⟨⟨by decide, by decide⟩, ⟨by decide, by decide⟩⟩ (fun _ => ?_) (fun hh => absurd (by decide) hh)
            refine ex_k 1 (P := none) (g := (cod m1_movesOf 25, [some (.inl 7), some (.inr f), some (.inr v), some (.inr 2), some (.inr 3)], [.inr v], τ)) rfl trivial ?_
            exact ex_r rfl trivial rfl (rI (by unfold mvo; first | exact (cnt_t hv (by omega)).symm | exact (cnt_f hv (by omega)).symm)))
      · first
        | (exfalso; have h2 := b2_n0 h2; omega)
        | (
            have h2 := b2_n0 h2
            refine ex_k 5 (P := none) (g := (cod m1_movesOf 11, [some (.inl 7), some (.inr f), some (.inr (v + 1)), some (.inr 1), some (.inr 3)], [.inr 1, .inr 3], τ)) rfl trivial ?_
            refine ex_b (P := 1 < 3) (ct := (cod m1_movesOf 22, [some (.inl 7), some (.inr f), some (.inr (v + 1)), some (.inr 1), some (.inr 3)], [], τ)) (cf := (cod m1_movesOf 12, [some (.inl 7), some (.inr f), some (.inr (v + 1)), some (.inr 1), some (.inr 3)], [], τ)) rfl ⟨⟨by decide, by decide⟩, ⟨by decide, by decide⟩⟩ (fun _ => ?_) (fun hh => absurd (by decide) hh)
            refine ex_k 4 (P := none) (g := (cod m1_movesOf 6, [some (.inl 7), some (.inr f), some (.inr (v + 1)), some (.inr 2), some (.inr 3)], [.inr 2, .inr 2], τ)) rfl trivial ?_
            refine ex_b (P := 2 ≤ 2) (ct := (cod m1_movesOf 24, [some (.inl 7), some (.inr f), some (.inr (v + 1)), some (.inr 2), some (.inr 3)], [], τ)) (cf := (cod m1_movesOf 7, [some (.inl 7), some (.inr f), some (.inr (v + 1)), some (.inr 2), some (.inr 3)], [], τ)) rfl ⟨⟨by decide, by decide⟩, ⟨by decide, by decide⟩⟩ (fun _ => ?_) (fun hh => absurd (by decide) hh)
            refine ex_k 1 (P := none) (g := (cod m1_movesOf 25, [some (.inl 7), some (.inr f), some (.inr (v + 1)), some (.inr 2), some (.inr 3)], [.inr (v + 1)], τ)) rfl trivial ?_
            exact ex_r rfl trivial rfl (rI (by unfold mvo; first | exact (cnt_t hv (by omega)).symm | exact (cnt_f hv (by omega)).symm)))
    have q2 : ∀ (v : Int), v = 0 + b2 (oco (τ 4) f 0 (-1) = 1 ∨ oco (τ 4) f 0 (-1) = 2 ∨ oco (τ 4) f 0 (-1) = 3) + b2 (oco (τ 4) f 0 1 = 1 ∨ oco (τ 4) f 0 1 = 2 ∨ oco (τ 4) f 0 1 = 3) → Ex 3 m1_movesOf (cod m1_movesOf 9, [some (.inl 7), some (.inr f), some (.inr v), some (.inr 1), some (.inr (-1))], [], τ) 0 (.inl (some (.inr (mvo (τ 4) f)), τ)) := by
      intro v hv
      refine ex_k 2 (P := none) (g := (cod m1_movesOf 11, [some (.inl 7), some (.inr f), some (.inr v), some (.inr 1), some (.inr (-1))], [.inr 1, .inr (-1)], τ)) rfl trivial ?_
      refine ex_b (P := 1 < (-1)) (ct := (cod m1_movesOf 22, [some (.inl 7), some (.inr f), some (.inr v), some (.inr 1), some (.inr (-1))], [], τ)) (cf := (cod m1_movesOf 12, [some (.inl 7), some (.inr f), some (.inr v), some (.inr 1), some (.inr (-1))], [], τ)) rfl ⟨⟨by decide, by decide⟩, ⟨by decide, by decide⟩⟩ (fun hh => absurd hh (by decide)) (fun _ => ?_)
      refine ex_k 4 (P := none) (g := (cod m1_movesOf 16, [some (.inl 7), some (.inr f), some (.inr v), some (.inr 1), some (.inr (-1))], [.inr (-1), .inr 1, .inr f, .inl 7], τ)) rfl trivial ?_
      refine ex_c (s_outcomeOf (τ := τ) (f := f) (r := 1) (s := (-1)) (Or.inl ⟨rfl, rfl, rfl⟩) (by omega) (by omega) (by omega) hS.cw) (is := cod m1_movesOf 17) (L := [some (.inl 7), some (.inr f), some (.inr v), some (.inr 1), some (.inr (-1))]) (st := []) rfl rfl rfl ?_
      show Ex _ _ (cod m1_movesOf 17, [some (.inl 7), some (.inr f), some (.inr v), some (.inr 1), some (.inr (-1))], [.inr (oco (τ 4) f 1 (-1))], τ) _ _
      refine ex_c (s_isMove (τ := τ) (z := oco (τ 4) f 1 (-1)) ⟨by omega, by omega⟩) (is := cod m1_movesOf 18) (L := [some (.inl 7), some (.inr f), some (.inr v), some (.inr 1), some (.inr (-1))]) (st := []) rfl rfl rfl ?_
      show Ex _ _ (cod m1_movesOf 18, [some (.inl 7), some (.inr f), some (.inr v), some (.inr 1), some (.inr (-1))], [.inr (b2 ((oco (τ 4) f 1 (-1)) = 1 ∨ (oco (τ 4) f 1 (-1)) = 2 ∨ (oco (τ 4) f 1 (-1)) = 3))], τ) _ _
      refine ex_b (P := (b2 ((oco (τ 4) f 1 (-1)) = 1 ∨ (oco (τ 4) f 1 (-1)) = 2 ∨ (oco (τ 4) f 1 (-1)) = 3)) = 0) (ct := (cod m1_movesOf 20, [some (.inl 7), some (.inr f), some (.inr v), some (.inr 1), some (.inr (-1))], [], τ)) (cf := (cod m1_movesOf 19, [some (.inl 7), some (.inr f), some (.inr v), some (.inr 1), some (.inr (-1))], [], τ)) rfl b2_rng (fun h2 => ?_) (fun h2 => ?_)
      · first
        | (exfalso; have h2 := b2_e0 h2; omega)
        | (
            have h2 := b2_e0 h2
            refine ex_k 2 (P := none) (g := (cod m1_movesOf 9, [some (.inl 7), some (.inr f), some (.inr v), some (.inr 1), some (.inr 1)], [], τ)) rfl trivial ?_
            exact q3 _ (by first | exact cnt_t hv (by omega) | exact cnt_f hv (by omega)))
      · first
        | (exfalso; have h2 := b2_n0 h2; omega)
        | (
            have h2 := b2_n0 h2
            refine ex_k 3 (P := none) (g := (cod m1_movesOf 9, [some (.inl 7), some (.inr f), some (.inr (v + 1)), some (.inr 1), some (.inr 1)], [], τ)) rfl trivial ?_
            exact q3 _ (by first | exact cnt_t hv (by omega) | exact cnt_f hv (by omega)))
    have q1 : ∀ (v : Int), v = 0 + b2 (oco (τ 4) f 0 (-1) = 1 ∨ oco (τ 4) f 0 (-1) = 2 ∨ oco (τ 4) f 0 (-1) = 3) → Ex 3 m1_movesOf (cod m1_movesOf 9, [some (.inl 7), some (.inr f), some (.inr v), some (.inr 0), some (.inr 1)], [], τ) 0 (.inl (some (.inr (mvo (τ 4) f)), τ)) := by
      intro v hv
      refine ex_k 2 (P := none) (g := (cod m1_movesOf 11, [some (.inl 7), some (.inr f), some (.inr v), some (.inr 0), some (.inr 1)], [.inr 1, .inr 1], τ)) rfl trivial ?_
      refine ex_b (P := 1 < 1) (ct := (cod m1_movesOf 22, [some (.inl 7), some (.inr f), some (.inr v), some (.inr 0), some (.inr 1)], [], τ)) (cf := (cod m1_movesOf 12, [some (.inl 7), some (.inr f), some (.inr v), some (.inr 0), some (.inr 1)], [], τ)) rfl ⟨⟨by decide, by decide⟩, ⟨by decide, by decide⟩⟩ (fun hh => absurd hh (by decide)) (fun _ => ?_)
      refine ex_k 4 (P := none) (g := (cod m1_movesOf 16, [some (.inl 7), some (.inr f), some (.inr v), some (.inr 0), some (.inr 1)], [.inr 1, .inr 0, .inr f, .inl 7], τ)) rfl trivial ?_
      refine ex_c (s_outcomeOf (τ := τ) (f := f) (r := 0) (s := 1) (Or.inl ⟨rfl, rfl, rfl⟩) (by omega) (by omega) (by omega) hS.cw) (is := cod m1_movesOf 17) (L := [some (.inl 7), some (.inr f), some (.inr v), some (.inr 0), some (.inr 1)]) (st := []) rfl rfl rfl ?_
      show Ex _ _ (cod m1_movesOf 17, [some (.inl 7), some (.inr f), some (.inr v), some (.inr 0), some (.inr 1)], [.inr (oco (τ 4) f 0 1)], τ) _ _
      refine ex_c (s_isMove (τ := τ) (z := oco (τ 4) f 0 1) ⟨by omega, by omega⟩) (is := cod m1_movesOf 18) (L := [some (.inl 7), some (.inr f), some (.inr v), some (.inr 0), some (.inr 1)]) (st := []) rfl rfl rfl ?_
      show Ex _ _ (cod m1_movesOf 18, [some (.inl 7), some (.inr f), some (.inr v), some (.inr 0), some (.inr 1)], [.inr (b2 ((oco (τ 4) f 0 1) = 1 ∨ (oco (τ 4) f 0 1) = 2 ∨ (oco (τ 4) f 0 1) = 3))], τ) _ _
      refine ex_b (P := (b2 ((oco (τ 4) f 0 1) = 1 ∨ (oco (τ 4) f 0 1) = 2 ∨ (oco (τ 4) f 0 1) = 3)) = 0) (ct := (cod m1_movesOf 20, [some (.inl 7), some (.inr f), some (.inr v), some (.inr 0), some (.inr 1)], [], τ)) (cf := (cod m1_movesOf 19, [some (.inl 7), some (.inr f), some (.inr v), some (.inr 0), some (.inr 1)], [], τ)) rfl b2_rng (fun h2 => ?_) (fun h2 => ?_)
      · first
        | (exfalso; have h2 := b2_e0 h2; omega)
        | (
            have h2 := b2_e0 h2
            refine ex_k 4 (P := none) (g := (cod m1_movesOf 11, [some (.inl 7), some (.inr f), some (.inr v), some (.inr 0), some (.inr 3)], [.inr 1, .inr 3], τ)) rfl trivial ?_
            refine ex_b (P := 1 < 3) (ct := (cod m1_movesOf 22, [some (.inl 7), some (.inr f), some (.inr v), some (.inr 0), some (.inr 3)], [], τ)) (cf := (cod m1_movesOf 12, [some (.inl 7), some (.inr f), some (.inr v), some (.inr 0), some (.inr 3)], [], τ)) rfl ⟨⟨by decide, by decide⟩, ⟨by decide, by decide⟩⟩ (fun _ => ?_) (fun hh => absurd (by decide) hh)
            refine ex_k 4 (P := none) (g := (cod m1_movesOf 6, [some (.inl 7), some (.inr f), some (.inr v), some (.inr 1), some (.inr 3)], [.inr 2, .inr 1], τ)) rfl trivial ?_
            refine ex_b (P := 2 ≤ 1) (ct := (cod m1_movesOf 24, [some (.inl 7), some (.inr f), some (.inr v), some (.inr 1), some (.inr 3)], [], τ)) (cf := (cod m1_movesOf 7, [some (.inl 7), some (.inr f), some (.inr v), some (.inr 1), some (.inr 3)], [], τ)) rfl ⟨⟨by decide, by decide⟩, ⟨by decide, by decide⟩⟩ (fun hh => absurd hh (by decide)) (fun _ => ?_)
            refine ex_k 2 (P := none) (g := (cod m1_movesOf 9, [some (.inl 7), some (.inr f), some (.inr v), some (.inr 1), some (.inr (-1))], [], τ)) rfl trivial ?_
            exact q2 _ (by first | exact cnt_t hv (by omega) | exact cnt_f hv (by omega)))
      · first
        | (exfalso; have h2 := b2_n0 h2; omega)
        | (
            have h2 := b2_n0 h2
            refine ex_k 5 (P := none) (g := (cod m1_movesOf 11, [some (.inl 7), some (.inr f), some (.inr (v + 1)), some (.inr 0), some (.inr 3)], [.inr 1, .inr 3], τ)) rfl trivial ?_
            refine ex_b (P := 1 < 3) (ct := (cod m1_movesOf 22, [some (.inl 7), some (.inr f), some (.inr (v + 1)), some (.inr 0), some (.inr 3)], [], τ)) (cf := (cod m1_movesOf 12, [some (.inl 7), some (.inr f), some (.inr (v + 1)), some (.inr 0), some (.inr 3)], [], τ)) rfl ⟨⟨by decide, by decide⟩, ⟨by decide, by decide⟩⟩ (fun _ => ?_) (fun hh => absurd (by decide) hh)
            refine ex_k 4 (P := none) (g := (cod m1_movesOf 6, [some (.inl 7), some (.inr f), some (.inr (v + 1)), some (.inr 1), some (.inr 3)], [.inr 2, .inr 1], τ)) rfl trivial ?_
            refine ex_b (P := 2 ≤ 1) (ct := (cod m1_movesOf 24, [some (.inl 7), some (.inr f), some (.inr (v + 1)), some (.inr 1), some (.inr 3)], [], τ)) (cf := (cod m1_movesOf 7, [some (.inl 7), some (.inr f), some (.inr (v + 1)), some (.inr 1), some (.inr 3)], [], τ)) rfl ⟨⟨by decide, by decide⟩, ⟨by decide, by decide⟩⟩ (fun hh => absurd hh (by decide)) (fun _ => ?_)
            refine ex_k 2 (P := none) (g := (cod m1_movesOf 9, [some (.inl 7), some (.inr f), some (.inr (v + 1)), some (.inr 1), some (.inr (-1))], [], τ)) rfl trivial ?_
            exact q2 _ (by first | exact cnt_t hv (by omega) | exact cnt_f hv (by omega)))
    have q0 : ∀ (v : Int), v = 0 → Ex 3 m1_movesOf (cod m1_movesOf 9, [some (.inl 7), some (.inr f), some (.inr v), some (.inr 0), some (.inr (-1))], [], τ) 0 (.inl (some (.inr (mvo (τ 4) f)), τ)) := by
      intro v hv
      refine ex_k 2 (P := none) (g := (cod m1_movesOf 11, [some (.inl 7), some (.inr f), some (.inr v), some (.inr 0), some (.inr (-1))], [.inr 1, .inr (-1)], τ)) rfl trivial ?_
      refine ex_b (P := 1 < (-1)) (ct := (cod m1_movesOf 22, [some (.inl 7), some (.inr f), some (.inr v), some (.inr 0), some (.inr (-1))], [], τ)) (cf := (cod m1_movesOf 12, [some (.inl 7), some (.inr f), some (.inr v), some (.inr 0), some (.inr (-1))], [], τ)) rfl ⟨⟨by decide, by decide⟩, ⟨by decide, by decide⟩⟩ (fun hh => absurd hh (by decide)) (fun _ => ?_)
      refine ex_k 4 (P := none) (g := (cod m1_movesOf 16, [some (.inl 7), some (.inr f), some (.inr v), some (.inr 0), some (.inr (-1))], [.inr (-1), .inr 0, .inr f, .inl 7], τ)) rfl trivial ?_
      refine ex_c (s_outcomeOf (τ := τ) (f := f) (r := 0) (s := (-1)) (Or.inl ⟨rfl, rfl, rfl⟩) (by omega) (by omega) (by omega) hS.cw) (is := cod m1_movesOf 17) (L := [some (.inl 7), some (.inr f), some (.inr v), some (.inr 0), some (.inr (-1))]) (st := []) rfl rfl rfl ?_
      show Ex _ _ (cod m1_movesOf 17, [some (.inl 7), some (.inr f), some (.inr v), some (.inr 0), some (.inr (-1))], [.inr (oco (τ 4) f 0 (-1))], τ) _ _
      refine ex_c (s_isMove (τ := τ) (z := oco (τ 4) f 0 (-1)) ⟨by omega, by omega⟩) (is := cod m1_movesOf 18) (L := [some (.inl 7), some (.inr f), some (.inr v), some (.inr 0), some (.inr (-1))]) (st := []) rfl rfl rfl ?_
      show Ex _ _ (cod m1_movesOf 18, [some (.inl 7), some (.inr f), some (.inr v), some (.inr 0), some (.inr (-1))], [.inr (b2 ((oco (τ 4) f 0 (-1)) = 1 ∨ (oco (τ 4) f 0 (-1)) = 2 ∨ (oco (τ 4) f 0 (-1)) = 3))], τ) _ _
      refine ex_b (P := (b2 ((oco (τ 4) f 0 (-1)) = 1 ∨ (oco (τ 4) f 0 (-1)) = 2 ∨ (oco (τ 4) f 0 (-1)) = 3)) = 0) (ct := (cod m1_movesOf 20, [some (.inl 7), some (.inr f), some (.inr v), some (.inr 0), some (.inr (-1))], [], τ)) (cf := (cod m1_movesOf 19, [some (.inl 7), some (.inr f), some (.inr v), some (.inr 0), some (.inr (-1))], [], τ)) rfl b2_rng (fun h2 => ?_) (fun h2 => ?_)
      · first
        | (exfalso; have h2 := b2_e0 h2; omega)
        | (
            have h2 := b2_e0 h2
            refine ex_k 2 (P := none) (g := (cod m1_movesOf 9, [some (.inl 7), some (.inr f), some (.inr v), some (.inr 0), some (.inr 1)], [], τ)) rfl trivial ?_
            exact q1 _ (by first | exact cnt_t hv (by omega) | exact cnt_f hv (by omega)))
      · first
        | (exfalso; have h2 := b2_n0 h2; omega)
        | (
            have h2 := b2_n0 h2
            refine ex_k 3 (P := none) (g := (cod m1_movesOf 9, [some (.inl 7), some (.inr f), some (.inr (v + 1)), some (.inr 0), some (.inr 1)], [], τ)) rfl trivial ?_
            exact q1 _ (by first | exact cnt_t hv (by omega) | exact cnt_f hv (by omega)))
    refine Ex.call ?_ rfl rfl
    show Ex _ _ (cod m1_movesOf 0, [some (.inl 7), some (.inr f), none, none, none], [], τ) _ _
    refine ex_k 6 (P := none) (g := (cod m1_movesOf 6, [some (.inl 7), some (.inr f), some (.inr 0), some (.inr 0), none], [.inr 2, .inr 0], τ)) rfl trivial ?_
    refine ex_b (P := 2 ≤ 0) (ct := (cod m1_movesOf 24, [some (.inl 7), some (.inr f), some (.inr 0), some (.inr 0), none], [], τ)) (cf := (cod m1_movesOf 7, [some (.inl 7), some (.inr f), some (.inr 0), some (.inr 0), none], [], τ)) rfl ⟨⟨by decide, by decide⟩, ⟨by decide, by decide⟩⟩ (fun hh => absurd hh (by decide)) (fun _ => ?_)
    refine ex_k 2 (P := none) (g := (cod m1_movesOf 9, [some (.inl 7), some (.inr f), some (.inr 0), some (.inr 0), some (.inr (-1))], [], τ)) rfl trivial ?_
    exact q0 0 rfl
  · have hsd := hS.sd hf
    have hp1 := hS.p1 hf
    have hp2 := hS.p2 hf
    have ho0 := @oco_in (τ 5) f 0 (-1)
    have ho1 := @oco_in (τ 5) f 0 1
    have ho2 := @oco_in (τ 5) f 1 (-1)
    have ho3 := @oco_in (τ 5) f 1 1
    have q3 : ∀ (v : Int), v = 0 + b2 (oco (τ 5) f 0 (-1) = 1 ∨ oco (τ 5) f 0 (-1) = 2 ∨ oco (τ 5) f 0 (-1) = 3) + b2 (oco (τ 5) f 0 1 = 1 ∨ oco (τ 5) f 0 1 = 2 ∨ oco (τ 5) f 0 1 = 3) + b2 (oco (τ 5) f 1 (-1) = 1 ∨ oco (τ 5) f 1 (-1) = 2 ∨ oco (τ 5) f 1 (-1) = 3) → Ex 3 m1_movesOf (cod m1_movesOf 9, [some (.inl 8), some (.inr f), some (.inr v), some (.inr 1), some (.inr 1)], [], τ) 0 (.inl (some (.inr (mvo (τ 5) f)), τ)) := by
      intro v hv
      refine ex_k 2 (P := none) (g := (cod m1_movesOf 11, [some (.inl 8), some (.inr f), some (.inr v), some (.inr 1), some (.inr 1)], [.inr 1, .inr 1], τ)) rfl trivial ?_
      refine ex_b (P := 1 < 1) (ct := (cod m1_movesOf 22, [some (.inl 8), some (.inr f), some (.inr v), some (.inr 1), some (.inr 1)], [], τ)) (cf := (cod m1_movesOf 12, [some (.inl 8), some (.inr f), some (.inr v), some (.inr 1), some (.inr 1)], [], τ)) rfl ⟨⟨by decide, by decide⟩, ⟨by decide, by decide⟩⟩ (fun hh => absurd hh (by decide)) (fun _ => ?_)
      refine ex_k 4 (P := none) (g := (cod m1_movesOf 16, [some (.inl 8), some (.inr f), some (.inr v), some (.inr 1), some (.inr 1)], [.inr 1, .inr 1, .inr f, .inl 8], τ)) rfl trivial ?_
      refine ex_c (s_outcomeOf (τ := τ) (f := f) (r := 1) (s := 1) (Or.inr ⟨rfl, rfl, rfl⟩) (by omega) (by omega) (by omega) hS.cw) (is := cod m1_movesOf 17) (L := [some (.inl 8), some (.inr f), some (.inr v), some (.inr 1), some (.inr 1)]) (st := []) rfl rfl rfl ?_
      show Ex _ _ (cod m1_movesOf 17, [some (.inl 8), some (.inr f), some (.inr v), some (.inr 1), some (.inr 1)], [.inr (oco (τ 5) f 1 1)], τ) _ _
      refine ex_c (s_isMove (τ := τ) (z := oco (τ 5) f 1 1) ⟨by omega, by omega⟩) (is := cod m1_movesOf 18) (L := [some (.inl 8), some (.inr f), some (.inr v), some (.inr 1), some (.inr 1)]) (st := []) rfl rfl rfl ?_
      show Ex _ _ (cod m1_movesOf 18, [some (.inl 8), some (.inr f), some (.inr v), some (.inr 1), some (.inr 1)], [.inr (b2 ((oco (τ 5) f 1 1) = 1 ∨ (oco (τ 5) f 1 1) = 2 ∨ (oco (τ 5) f 1 1) = 3))], τ) _ _
      refine ex_b (P := (b2 ((oco (τ 5) f 1 1) = 1 ∨ (oco (τ 5) f 1 1) = 2 ∨ (oco (τ 5) f 1 1) = 3)) = 0) (ct := (cod m1_movesOf 20, [some (.inl 8), some (.inr f), some (.inr v), some (.inr 1), some (.inr 1)], [], τ)) (cf := (cod m1_movesOf 19, [some (.inl 8), some (.inr f), some (.inr v), some (.inr 1), some (.inr 1)], [], τ)) rfl b2_rng (fun h2 => ?_) (fun h2 => ?_)
      · first
        | (exfalso; have h2 := b2_e0 h2; omega)
        | (
            have h2 := b2_e0 h2
            refine ex_k 4 (P := none) (g := (cod m1_movesOf 11, [some (.inl 8), some (.inr f), some (.inr v), some (.inr 1), some (.inr 3)], [.inr 1, .inr 3], τ)) rfl trivial ?_
            refine ex_b (P := 1 < 3) (ct := (cod m1_movesOf 22, [some (.inl 8), some (.inr f), some (.inr v), some (.inr 1), some (.inr 3)], [], τ)) (cf := (cod m1_movesOf 12, [some (.inl 8), some (.inr f), some (.inr v), some (.inr 1), some (.inr 3)], [], τ)) rfl ⟨⟨by decide, by decide⟩, ⟨by decide, by decide⟩⟩ (fun _ => ?_) (fun hh => absurd (by decide) hh)
            refine ex_k 4 (P := none) (g := (cod m1_movesOf 6, [some (.inl 8), some (.inr f), some (.inr v), some (.inr 2), some (.inr 3)], [.inr 2, .inr 2], τ)) rfl trivial ?_
            refine ex_b (P := 2 ≤ 2) (ct := (cod m1_movesOf 24, [some (.inl 8), some (.inr f), some (.inr v), some (.inr 2), some (.inr 3)], [], τ)) (cf := (cod m1_movesOf 7, [some (.inl 8), some (.inr f), some (.inr v), some (.inr 2), some (.inr 3)], [], τ)) rfl ⟨⟨by decide, by decide⟩, ⟨by decide, by decide⟩⟩ (fun _ => ?_) (fun hh => absurd (by decide) hh)
            refine ex_k 1 (P := none) (g := (cod m1_movesOf 25, [some (.inl 8), some (.inr f), some (.inr v), some (.inr 2), some (.inr 3)], [.inr v], τ)) rfl trivial ?_
            exact ex_r rfl trivial rfl (rI (by unfold mvo; first | exact (cnt_t hv (by omega)).symm | exact (cnt_f hv (by omega)).symm)))
      · first
        | (exfalso; have h2 := b2_n0 h2; omega)
        | (
            have h2 := b2_n0 h2
            refine ex_k 5 (P := none) (g := (cod m1_movesOf 11, [some (.inl 8), some (.inr f), some (.inr (v + 1)), some (.inr 1), some (.inr 3)], [.inr 1, .inr 3], τ)) rfl trivial ?_
            refine ex_b (P := 1 < 3) (ct := (cod m1_movesOf 22, [some (.inl 8), some (.inr f), some (.inr (v + 1)), some (.inr 1), some (.inr 3)], [], τ)) (cf := (cod m1_movesOf 12, [some (.inl 8), some (.inr f), some (.inr (v + 1)), some (.inr 1), some (.inr 3)], [], τ)) rfl ⟨⟨by decide, by decide⟩, ⟨by decide, by decide⟩⟩ (fun _ => ?_) (fun hh => absurd (by decide) hh)
            refine ex_k 4 (P := none) (g := (cod m1_movesOf 6, [some (.inl 8), some (.inr f), some (.inr (v + 1)), some (.inr 2), some (.inr 3)], [.inr 2, .inr 2], τ)) rfl trivial ?_
            refine ex_b (P := 2 ≤ 2) (ct := (cod m1_movesOf 24, [some (.inl 8), some (.inr f), some (.inr (v + 1)), some (.inr 2), some (.inr 3)], [], τ)) (cf := (cod m1_movesOf 7, [some (.inl 8), some (.inr f), some (.inr (v + 1)), some (.inr 2), some (.inr 3)], [], τ)) rfl ⟨⟨by decide, by decide⟩, ⟨by decide, by decide⟩⟩ (fun _ => ?_) (fun hh => absurd (by decide) hh)
            refine ex_k 1 (P := none) (g := (cod m1_movesOf 25, [some (.inl 8), some (.inr f), some (.inr (v + 1)), some (.inr 2), some (.inr 3)], [.inr (v + 1)], τ)) rfl trivial ?_
            exact ex_r rfl trivial rfl (rI (by unfold mvo; first | exact (cnt_t hv (by omega)).symm | exact (cnt_f hv (by omega)).symm)))
    have q2 : ∀ (v : Int), v = 0 + b2 (oco (τ 5) f 0 (-1) = 1 ∨ oco (τ 5) f 0 (-1) = 2 ∨ oco (τ 5) f 0 (-1) = 3) + b2 (oco (τ 5) f 0 1 = 1 ∨ oco (τ 5) f 0 1 = 2 ∨ oco (τ 5) f 0 1 = 3) → Ex 3 m1_movesOf (cod m1_movesOf 9, [some (.inl 8), some (.inr f), some (.inr v), some (.inr 1), some (.inr (-1))], [], τ) 0 (.inl (some (.inr (mvo (τ 5) f)), τ)) := by
      intro v hv
      refine ex_k 2 (P := none) (g := (cod m1_movesOf 11, [some (.inl 8), some (.inr f), some (.inr v), some (.inr 1), some (.inr (-1))], [.inr 1, .inr (-1)], τ)) rfl trivial ?_
      refine ex_b (P := 1 < (-1)) (ct := (cod m1_movesOf 22, [some (.inl 8), some (.inr f), some (.inr v), some (.inr 1), some (.inr (-1))], [], τ)) (cf := (cod m1_movesOf 12, [some (.inl 8), some (.inr f), some (.inr v), some (.inr 1), some (.inr (-1))], [], τ)) rfl ⟨⟨by decide, by decide⟩, ⟨by decide, by decide⟩⟩ (fun hh => absurd hh (by decide)) (fun _ => ?_)
      refine ex_k 4 (P := none) (g := (cod m1_movesOf 16, [some (.inl 8), some (.inr f), some (.inr v), some (.inr 1), some (.inr (-1))], [.inr (-1), .inr 1, .inr f, .inl 8], τ)) rfl trivial ?_
      refine ex_c (s_outcomeOf (τ := τ) (f := f) (r := 1) (s := (-1)) (Or.inr ⟨rfl, rfl, rfl⟩) (by omega) (by omega) (by omega) hS.cw) (is := cod m1_movesOf 17) (L := [some (.inl 8), some (.inr f), some (.inr v), some (.inr 1), some (.inr (-1))]) (st := []) rfl rfl rfl ?_
      show Ex _ _ (cod m1_movesOf 17, [some (.inl 8), some (.inr f), some (.inr v), some (.inr 1), some (.inr (-1))], [.inr (oco (τ 5) f 1 (-1))], τ) _ _
      refine ex_c (s_isMove (τ := τ) (z := oco (τ 5) f 1 (-1)) ⟨by omega, by omega⟩) (is := cod m1_movesOf 18) (L := [some (.inl 8), some (.inr f), some (.inr v), some (.inr 1), some (.inr (-1))]) (st := []) rfl rfl rfl ?_
      show Ex _ _ (cod m1_movesOf 18, [some (.inl 8), some (.inr f), some (.inr v), some (.inr 1), some (.inr (-1))], [.inr (b2 ((oco (τ 5) f 1 (-1)) = 1 ∨ (oco (τ 5) f 1 (-1)) = 2 ∨ (oco (τ 5) f 1 (-1)) = 3))], τ) _ _
      refine ex_b (P := (b2 ((oco (τ 5) f 1 (-1)) = 1 ∨ (oco (τ 5) f 1 (-1)) = 2 ∨ (oco (τ 5) f 1 (-1)) = 3)) = 0) (ct := (cod m1_movesOf 20, [some (.inl 8), some (.inr f), some (.inr v), some (.inr 1), some (.inr (-1))], [], τ)) (cf := (cod m1_movesOf 19, [some (.inl 8), some (.inr f), some (.inr v), some (.inr 1), some (.inr (-1))], [], τ)) rfl b2_rng (fun h2 => ?_) (fun h2 => ?_)
      · first
        | (exfalso; have h2 := b2_e0 h2; omega)
        | (
            have h2 := b2_e0 h2
            refine ex_k 2 (P := none) (g := (cod m1_movesOf 9, [some (.inl 8), some (.inr f), some (.inr v), some (.inr 1), some (.inr 1)], [], τ)) rfl trivial ?_
            exact q3 _ (by first | exact cnt_t hv (by omega) | exact cnt_f hv (by omega)))
      · first
        | (exfalso; have h2 := b2_n0 h2; omega)
        | (
            have h2 := b2_n0 h2
            refine ex_k 3 (P := none) (g := (cod m1_movesOf 9, [some (.inl 8), some (.inr f), some (.inr (v + 1)), some (.inr 1), some (.inr 1)], [], τ)) rfl trivial ?_
            exact q3 _ (by first | exact cnt_t hv (by omega) | exact cnt_f hv (by omega)))
    have q1 : ∀ (v : Int), v = 0 + b2 (oco (τ 5) f 0 (-1) = 1 ∨ oco (τ 5) f 0 (-1) = 2 ∨ oco (τ 5) f 0 (-1) = 3) → Ex 3 m1_movesOf (cod m1_movesOf 9, [some (.inl 8), some (.inr f), some (.inr v), some (.inr 0), some (.inr 1)], [], τ) 0 (.inl (some (.inr (mvo (τ 5) f)), τ)) := by
      intro v hv
      refine ex_k 2 (P := none) (g := (cod m1_movesOf 11, [some (.inl 8), some (.inr f), some (.inr v), some (.inr 0), some (.inr 1)], [.inr 1, .inr 1], τ)) rfl trivial ?_
      refine ex_b (P := 1 < 1) (ct := (cod m1_movesOf 22, [some (.inl 8), some (.inr f), some (.inr v), some (.inr 0), some (.inr 1)], [], τ)) (cf := (cod m1_movesOf 12, [some (.inl 8), some (.inr f), some (.inr v), some (.inr 0), some (.inr 1)], [], τ)) rfl ⟨⟨by decide, by decide⟩, ⟨by decide, by decide⟩⟩ (fun hh => absurd hh (by decide)) (fun _ => ?_)
      refine ex_k 4 (P := none) (g := (cod m1_movesOf 16, [some (.inl 8), some (.inr f), some (.inr v), some (.inr 0), some (.inr 1)], [.inr 1, .inr 0, .inr f, .inl 8], τ)) rfl trivial ?_
      refine ex_c (s_outcomeOf (τ := τ) (f := f) (r := 0) (s := 1) (Or.inr ⟨rfl, rfl, rfl⟩) (by omega) (by omega) (by omega) hS.cw) (is := cod m1_movesOf 17) (L := [some (.inl 8), some (.inr f), some (.inr v), some (.inr 0), some (.inr 1)]) (st := []) rfl rfl rfl ?_
      show Ex _ _ (cod m1_movesOf 17, [some (.inl 8), some (.inr f), some (.inr v), some (.inr 0), some (.inr 1)], [.inr (oco (τ 5) f 0 1)], τ) _ _
      refine ex_c (s_isMove (τ := τ) (z := oco (τ 5) f 0 1) ⟨by omega, by omega⟩) (is := cod m1_movesOf 18) (L := [some (.inl 8), some (.inr f), some (.inr v), some (.inr 0), some (.inr 1)]) (st := []) rfl rfl rfl ?_
      show Ex _ _ (cod m1_movesOf 18, [some (.inl 8), some (.inr f), some (.inr v), some (.inr 0), some (.inr 1)], [.inr (b2 ((oco (τ 5) f 0 1) = 1 ∨ (oco (τ 5) f 0 1) = 2 ∨ (oco (τ 5) f 0 1) = 3))], τ) _ _
      refine ex_b (P := (b2 ((oco (τ 5) f 0 1) = 1 ∨ (oco (τ 5) f 0 1) = 2 ∨ (oco (τ 5) f 0 1) = 3)) = 0) (ct := (cod m1_movesOf 20, [some (.inl 8), some (.inr f), some (.inr v), some (.inr 0), some (.inr 1)], [], τ)) (cf := (cod m1_movesOf 19, [some (.inl 8), some (.inr f), some (.inr v), some (.inr 0), some (.inr 1)], [], τ)) rfl b2_rng (fun h2 => ?_) (fun h2 => ?_)
      · first
        | (exfalso; have h2 := b2_e0 h2; omega)
        | (
            have h2 := b2_e0 h2
            refine ex_k 4 (P := none) (g := (cod m1_movesOf 11, [some (.inl 8), some (.inr f), some (.inr v), some (.inr 0), some (.inr 3)], [.inr 1, .inr 3], τ)) rfl trivial ?_
            refine ex_b (P := 1 < 3) (ct := (cod m1_movesOf 22, [some (.inl 8), some (.inr f), some (.inr v), some (.inr 0), some (.inr 3)], [], τ)) (cf := (cod m1_movesOf 12, [some (.inl 8), some (.inr f), some (.inr v), some (.inr 0), some (.inr 3)], [], τ)) rfl ⟨⟨by decide, by decide⟩, ⟨by decide, by decide⟩⟩ (fun _ => ?_) (fun hh => absurd (by decide) hh)
            refine ex_k 4 (P := none) (g := (cod m1_movesOf 6, [some (.inl 8), some (.inr f), some (.inr v), some (.inr 1), some (.inr 3)], [.inr 2, .inr 1], τ)) rfl trivial ?_
            refine ex_b (P := 2 ≤ 1) (ct := (cod m1_movesOf 24, [some (.inl 8), some (.inr f), some (.inr v), some (.inr 1), some (.inr 3)], [], τ)) (cf := (cod m1_movesOf 7, [some (.inl 8), some (.inr f), some (.inr v), some (.inr 1), some (.inr 3)], [], τ)) rfl ⟨⟨by decide, by decide⟩, ⟨by decide, by decide⟩⟩ (fun hh => absurd hh (by decide)) (fun _ => ?_)
            refine ex_k 2 (P := none) (g := (cod m1_movesOf 9, [some (.inl 8), some (.inr f), some (.inr v), some (.inr 1), some (.inr (-1))], [], τ)) rfl trivial ?_
            exact q2 _ (by first | exact cnt_t hv (by omega) | exact cnt_f hv (by omega)))
      · first
        | (exfalso; have h2 := b2_n0 h2; omega)
        | (
            have h2 := b2_n0 h2
            refine ex_k 5 (P := none) (g := (cod m1_movesOf 11, [some (.inl 8), some (.inr f), some (.inr (v + 1)), some (.inr 0), some (.inr 3)], [.inr 1, .inr 3], τ)) rfl trivial ?_
            refine ex_b (P := 1 < 3) (ct := (cod m1_movesOf 22, [some (.inl 8), some (.inr f), some (.inr (v + 1)), some (.inr 0), some (.inr 3)], [], τ)) (cf := (cod m1_movesOf 12, [some (.inl 8), some (.inr f), some (.inr (v + 1)), some (.inr 0), some (.inr 3)], [], τ)) rfl ⟨⟨by decide, by decide⟩, ⟨by decide, by decide⟩⟩ (fun _ => ?_) (fun hh => absurd (by decide) hh)
            refine ex_k 4 (P := none) (g := (cod m1_movesOf 6, [some (.inl 8), some (.inr f), some (.inr (v + 1)), some (.inr 1), some (.inr 3)], [.inr 2, .inr 1], τ)) rfl trivial ?_
            refine ex_b (P := 2 ≤ 1) (ct := (cod m1_movesOf 24, [some (.inl 8), some (.inr f), some (.inr (v + 1)), some (.inr 1), some (.inr 3)], [], τ)) (cf := (cod m1_movesOf 7, [some (.inl 8), some (.inr f), some (.inr (v + 1)), some (.inr 1), some (.inr 3)], [], τ)) rfl ⟨⟨by decide, by decide⟩, ⟨by decide, by decide⟩⟩ (fun hh => absurd hh (by decide)) (fun _ => ?_)
            refine ex_k 2 (P := none) (g := (cod m1_movesOf 9, [some (.inl 8), some (.inr f), some (.inr (v + 1)), some (.inr 1), some (.inr (-1))], [], τ)) rfl trivial ?_
            exact q2 _ (by first | exact cnt_t hv (by omega) | exact cnt_f hv (by omega)))
    have q0 : ∀ (v : Int), v = 0 → Ex 3 m1_movesOf (cod m1_movesOf 9, [some (.inl 8), some (.inr f), some (.inr v), some (.inr 0), some (.inr (-1))], [], τ) 0 (.inl (some (.inr (mvo (τ 5) f)), τ)) := by
      intro v hv
      refine ex_k 2 (P := none) (g := (cod m1_movesOf 11, [some (.inl 8), some (.inr f), some (.inr v), some (.inr 0), some (.inr (-1))], [.inr 1, .inr (-1)], τ)) rfl trivial ?_
      refine ex_b (P := 1 < (-1)) (ct := (cod m1_movesOf 22, [some (.inl 8), some (.inr f), some (.inr v), some (.inr 0), some (.inr (-1))], [], τ)) (cf := (cod m1_movesOf 12, [some (.inl 8), some (.inr f), some (.inr v), some (.inr 0), some (.inr (-1))], [], τ)) rfl ⟨⟨by decide, by decide⟩, ⟨by decide, by decide⟩⟩ (fun hh => absurd hh (by decide)) (fun _ => ?_)
      refine ex_k 4 (P := none) (g := (cod m1_movesOf 16, [some (.inl 8), some (.inr f), some (.inr v), some (.inr 0), some (.inr (-1))], [.inr (-1), .inr 0, .inr f, .inl 8], τ)) rfl trivial ?_
      refine ex_c (s_outcomeOf (τ := τ) (f := f) (r := 0) (s := (-1)) (Or.inr ⟨rfl, rfl, rfl⟩) (by omega) (by omega) (by omega) hS.cw) (is := cod m1_movesOf 17) (L := [some (.inl 8), some (.inr f), some (.inr v), some (.inr 0), some (.inr (-1))]) (st := []) rfl rfl rfl ?_
      show Ex _ _ (cod m1_movesOf 17, [some (.inl 8), some (.inr f), some (.inr v), some (.inr 0), some (.inr (-1))], [.inr (oco (τ 5) f 0 (-1))], τ) _ _
      refine ex_c (s_isMove (τ := τ) (z := oco (τ 5) f 0 (-1)) ⟨by omega, by omega⟩) (is := cod m1_movesOf 18) (L := [some (.inl 8), some (.inr f), some (.inr v), some (.inr 0), some (.inr (-1))]) (st := []) rfl rfl rfl ?_
      show Ex _ _ (cod m1_movesOf 18, [some (.inl 8), some (.inr f), some (.inr v), some (.inr 0), some (.inr (-1))], [.inr (b2 ((oco (τ 5) f 0 (-1)) = 1 ∨ (oco (τ 5) f 0 (-1)) = 2 ∨ (oco (τ 5) f 0 (-1)) = 3))], τ) _ _
      refine ex_b (P := (b2 ((oco (τ 5) f 0 (-1)) = 1 ∨ (oco (τ 5) f 0 (-1)) = 2 ∨ (oco (τ 5) f 0 (-1)) = 3)) = 0) (ct := (cod m1_movesOf 20, [some (.inl 8), some (.inr f), some (.inr v), some (.inr 0), some (.inr (-1))], [], τ)) (cf := (cod m1_movesOf 19, [some (.inl 8), some (.inr f), some (.inr v), some (.inr 0), some (.inr (-1))], [], τ)) rfl b2_rng (fun h2 => ?_) (fun h2 => ?_)
      · first
        | (exfalso; have h2 := b2_e0 h2; omega)
        | (
            have h2 := b2_e0 h2
            refine ex_k 2 (P := none) (g := (cod m1_movesOf 9, [some (.inl 8), some (.inr f), some (.inr v), some (.inr 0), some (.inr 1)], [], τ)) rfl trivial ?_
            exact q1 _ (by first | exact cnt_t hv (by omega) | exact cnt_f hv (by omega)))
      · first
        | (exfalso; have h2 := b2_n0 h2; omega)
        | (
            have h2 := b2_n0 h2
            refine ex_k 3 (P := none) (g := (cod m1_movesOf 9, [some (.inl 8), some (.inr f), some (.inr (v + 1)), some (.inr 0), some (.inr 1)], [], τ)) rfl trivial ?_
            exact q1 _ (by first | exact cnt_t hv (by omega) | exact cnt_f hv (by omega)))
    refine Ex.call ?_ rfl rfl
    show Ex _ _ (cod m1_movesOf 0, [some (.inl 8), some (.inr f), none, none, none], [], τ) _ _
    refine ex_k 6 (P := none) (g := (cod m1_movesOf 6, [some (.inl 8), some (.inr f), some (.inr 0), some (.inr 0), none], [.inr 2, .inr 0], τ)) rfl trivial ?_
    refine ex_b (P := 2 ≤ 0) (ct := (cod m1_movesOf 24, [some (.inl 8), some (.inr f), some (.inr 0), some (.inr 0), none], [], τ)) (cf := (cod m1_movesOf 7, [some (.inl 8), some (.inr f), some (.inr 0), some (.inr 0), none], [], τ)) rfl ⟨⟨by decide, by decide⟩, ⟨by decide, by decide⟩⟩ (fun hh => absurd hh (by decide)) (fun _ => ?_)
    refine ex_k 2 (P := none) (g := (cod m1_movesOf 9, [some (.inl 8), some (.inr f), some (.inr 0), some (.inr 0), some (.inr (-1))], [], τ)) rfl trivial ?_
    exact q0 0 rfl
def jby (c : Nat → Int) (f : Int) : Int := 0 + b2 (oco c f 0 (-1) = 3) + b2 (oco c f 0 1 = 3) + b2 (oco c f 1 (-1) = 3) + b2 (oco c f 1 1 = 3)
theorem jby_in {c : Nat → Int} {f : Int} : 0 ≤ jby c f ∧ jby c f ≤ 4 := by
  have h0 := @b2_01 (oco c f 0 (-1) = 3) _
  have h1 := @b2_01 (oco c f 0 1 = 3) _
  have h2 := @b2_01 (oco c f 1 (-1) = 3) _
  have h3 := @b2_01 (oco c f 1 1 = 3) _
  unfold jby
  omega
theorem s_jumpsBy {γ ρ a : Nat} {f : Int} {τ : SZ} (hγ : GA γ ρ a) (hf : 0 ≤ f ∧ f < 8) {B : Int} (hS : Sh B (τ a)) : RZ 4 m1_jumpsBy [.inl γ, .inr f] τ (.inl (some (.inr (jby (τ a) f)), τ)) := by
  rcases hγ with ⟨rfl, rfl, rfl⟩ | ⟨rfl, rfl, rfl⟩
  · have hsd := hS.sd hf
    have hp1 := hS.p1 hf
    have hp2 := hS.p2 hf
    have ho0 := @oco_in (τ 4) f 0 (-1)
    have ho1 := @oco_in (τ 4) f 0 1
    have ho2 := @oco_in (τ 4) f 1 (-1)
    have ho3 := @oco_in (τ 4) f 1 1
    have q3 : ∀ (v : Int), v = 0 + b2 (oco (τ 4) f 0 (-1) = 3) + b2 (oco (τ 4) f 0 1 = 3) + b2 (oco (τ 4) f 1 (-1) = 3) → Ex 3 m1_jumpsBy (cod m1_jumpsBy 9, [some (.inl 7), some (.inr f), some (.inr v), some (.inr 1), some (.inr 1)], [], τ) 0 (.inl (some (.inr (jby (τ 4) f)), τ)) := by
      intro v hv
      refine ex_k 2 (P := none) (g := (cod m1_jumpsBy 11, [some (.inl 7), some (.inr f), some (.inr v), some (.inr 1), some (.inr 1)], [.inr 1, .inr 1], τ)) rfl trivial ?_
      refine ex_b (P := 1 < 1) (ct := (cod m1_jumpsBy 22, [some (.inl 7), some (.inr f), some (.inr v), some (.inr 1), some (.inr 1)], [], τ)) (cf := (cod m1_jumpsBy 12, [some (.inl 7), some (.inr f), some (.inr v), some (.inr 1), some (.inr 1)], [], τ)) rfl ⟨⟨by decide, by decide⟩, ⟨by decide, by decide⟩⟩ (fun hh => absurd hh (by decide)) (fun _ => ?_)
      refine ex_k 4 (P := none) (g := (cod m1_jumpsBy 16, [some (.inl 7), some (.inr f), some (.inr v), some (.inr 1), some (.inr 1)], [.inr 1, .inr 1, .inr f, .inl 7], τ)) rfl trivial ?_
      refine ex_c (s_outcomeOf (τ := τ) (f := f) (r := 1) (s := 1) (Or.inl ⟨rfl, rfl, rfl⟩) (by omega) (by omega) (by omega) hS.cw) (is := cod m1_jumpsBy 17) (L := [some (.inl 7), some (.inr f), some (.inr v), some (.inr 1), some (.inr 1)]) (st := []) rfl rfl rfl ?_
      show Ex _ _ (cod m1_jumpsBy 17, [some (.inl 7), some (.inr f), some (.inr v), some (.inr 1), some (.inr 1)], [.inr (oco (τ 4) f 1 1)], τ) _ _
      refine ex_k 1 (P := none) (g := (cod m1_jumpsBy 18, [some (.inl 7), some (.inr f), some (.inr v), some (.inr 1), some (.inr 1)], [.inr 3, .inr (oco (τ 4) f 1 1)], τ)) rfl trivial ?_
      refine ex_b (P := ¬ (oco (τ 4) f 1 1) = 3) (ct := (cod m1_jumpsBy 20, [some (.inl 7), some (.inr f), some (.inr v), some (.inr 1), some (.inr 1)], [], τ)) (cf := (cod m1_jumpsBy 19, [some (.inl 7), some (.inr f), some (.inr v), some (.inr 1), some (.inr 1)], [], τ)) rfl ⟨⟨by omega, by omega⟩, ⟨by decide, by decide⟩⟩ (fun h2 => ?_) (fun h2 => ?_)
      · first
        | (exfalso; omega)
        | (
            refine ex_k 4 (P := none) (g := (cod m1_jumpsBy 11, [some (.inl 7), some (.inr f), some (.inr v), some (.inr 1), some (.inr 3)], [.inr 1, .inr 3], τ)) rfl trivial ?_
            refine ex_b (P := 1 < 3) (ct := (cod m1_jumpsBy 22, [some (.inl 7), some (.inr f), some (.inr v), some (.inr 1), some (.inr 3)], [], τ)) (cf := (cod m1_jumpsBy 12, [some (.inl 7), some (.inr f), some (.inr v), some (.inr 1), some (.inr 3)], [], τ)) rfl ⟨⟨by decide, by decide⟩, ⟨by decide, by decide⟩⟩ (fun _ => ?_) (fun hh => absurd (by decide) hh)
            refine ex_k 4 (P := none) (g := (cod m1_jumpsBy 6, [some (.inl 7), some (.inr f), some (.inr v), some (.inr 2), some (.inr 3)], [.inr 2, .inr 2], τ)) rfl trivial ?_
            refine ex_b (P := 2 ≤ 2) (ct := (cod m1_jumpsBy 24, [some (.inl 7), some (.inr f), some (.inr v), some (.inr 2), some (.inr 3)], [], τ)) (cf := (cod m1_jumpsBy 7, [some (.inl 7), some (.inr f), some (.inr v), some (.inr 2), some (.inr 3)], [], τ)) rfl ⟨⟨by decide, by decide⟩, ⟨by decide, by decide⟩⟩ (fun _ => ?_) (fun hh => absurd (by decide) hh)
            refine ex_k 1 (P := none) (g := (cod m1_jumpsBy 25, [some (.inl 7), some (.inr f), some (.inr v), some (.inr 2), some (.inr 3)], [.inr v], τ)) rfl trivial ?_
            exact ex_r rfl trivial rfl (rI (by unfold jby; first | exact (cnt_t hv (by omega)).symm | exact (cnt_f hv (by omega)).symm)))
      · first
        | (exfalso; omega)
        | (
            refine ex_k 5 (P := none) (g := (cod m1_jumpsBy 11, [some (.inl 7), some (.inr f), some (.inr (v + 1)), some (.inr 1), some (.inr 3)], [.inr 1, .inr 3], τ)) rfl trivial ?_
            refine ex_b (P := 1 < 3) (ct := (cod m1_jumpsBy 22, [some (.inl 7), some (.inr f), some (.inr (v + 1)), some (.inr 1), some (.inr 3)], [], τ)) (cf := (cod m1_jumpsBy 12, [some (.inl 7), some (.inr f), some (.inr (v + 1)), some (.inr 1), some (.inr 3)], [], τ)) rfl ⟨⟨by decide, by decide⟩, ⟨by decide, by decide⟩⟩ (fun _ => ?_) (fun hh => absurd (by decide) hh)
            refine ex_k 4 (P := none) (g := (cod m1_jumpsBy 6, [some (.inl 7), some (.inr f), some (.inr (v + 1)), some (.inr 2), some (.inr 3)], [.inr 2, .inr 2], τ)) rfl trivial ?_
            refine ex_b (P := 2 ≤ 2) (ct := (cod m1_jumpsBy 24, [some (.inl 7), some (.inr f), some (.inr (v + 1)), some (.inr 2), some (.inr 3)], [], τ)) (cf := (cod m1_jumpsBy 7, [some (.inl 7), some (.inr f), some (.inr (v + 1)), some (.inr 2), some (.inr 3)], [], τ)) rfl ⟨⟨by decide, by decide⟩, ⟨by decide, by decide⟩⟩ (fun _ => ?_) (fun hh => absurd (by decide) hh)
            refine ex_k 1 (P := none) (g := (cod m1_jumpsBy 25, [some (.inl 7), some (.inr f), some (.inr (v + 1)), some (.inr 2), some (.inr 3)], [.inr (v + 1)], τ)) rfl trivial ?_
            exact ex_r rfl trivial rfl (rI (by unfold jby; first | exact (cnt_t hv (by omega)).symm | exact (cnt_f hv (by omega)).symm)))
    have q2 : ∀ (v : Int), v = 0 + b2 (oco (τ 4) f 0 (-1) = 3) + b2 (oco (τ 4) f 0 1 = 3) → Ex 3 m1_jumpsBy (cod m1_jumpsBy 9, [some (.inl 7), some (.inr f), some (.inr v), some (.inr 1), some (.inr (-1))], [], τ) 0 (.inl (some (.inr (jby (τ 4) f)), τ)) := by
      intro v hv
      refine ex_k 2 (P := none) (g := (cod m1_jumpsBy 11, [some (.inl 7), some (.inr f), some (.inr v), some (.inr 1), some (.inr (-1))], [.inr 1, .inr (-1)], τ)) rfl trivial ?_
      refine ex_b (P := 1 < (-1)) (ct := (cod m1_jumpsBy 22, [some (.inl 7), some (.inr f), some (.inr v), some (.inr 1), some (.inr (-1))], [], τ)) (cf := (cod m1_jumpsBy 12, [some (.inl 7), some (.inr f), some (.inr v), some (.inr 1), some (.inr (-1))], [], τ)) rfl ⟨⟨by decide, by decide⟩, ⟨by decide, by decide⟩⟩ (fun hh => absurd hh (by decide)) (fun _ => ?_)
      refine ex_k 4 (P := none) (g := (cod m1_jumpsBy 16, [some (.inl 7), some (.inr f), some (.inr v), some (.inr 1), some (.inr (-1))], [.inr (-1), .inr 1, .inr f, .inl 7], τ)) rfl trivial ?_
      refine ex_c (s_outcomeOf (τ := τ) (f := f) (r := 1) (s := (-1)) (Or.inl ⟨rfl, rfl, rfl⟩) (by omega) (by omega) (by omega) hS.cw) (is := cod m1_jumpsBy 17) (L := [some (.inl 7), some (.inr f), some (.inr v), some (.inr 1), some (.inr (-1))]) (st := []) rfl rfl rfl ?_
      show Ex _ _ (cod m1_jumpsBy 17, [some (.inl 7), some (.inr f), some (.inr v), some (.inr 1), some (.inr (-1))], [.inr (oco (τ 4) f 1 (-1))], τ) _ _
      refine ex_k 1 (P := none) (g := (cod m1_jumpsBy 18, [some (.inl 7), some (.inr f), some (.inr v), some (.inr 1), some (.inr (-1))], [.inr 3, .inr (oco (τ 4) f 1 (-1))], τ)) rfl trivial ?_
      refine ex_b (P := ¬ (oco (τ 4) f 1 (-1)) = 3) (ct := (cod m1_jumpsBy 20, [some (.inl 7), some (.inr f), some (.inr v), some (.inr 1), some (.inr (-1))], [], τ)) (cf := (cod m1_jumpsBy 19, [some (.inl 7), some (.inr f), some (.inr v), some (.inr 1), some (.inr (-1))], [], τ)) rfl ⟨⟨by omega, by omega⟩, ⟨by decide, by decide⟩⟩ (fun h2 => ?_) (fun h2 => ?_)
      · first
        | (exfalso; omega)
        | (
            refine ex_k 2 (P := none) (g := (cod m1_jumpsBy 9, [some (.inl 7), some (.inr f), some (.inr v), some (.inr 1), some (.inr 1)], [], τ)) rfl trivial ?_
            exact q3 _ (by first | exact cnt_t hv (by omega) | exact cnt_f hv (by omega)))
      · first
        | (exfalso; omega)
        | (
            refine ex_k 3 (P := none) (g := (cod m1_jumpsBy 9, [some (.inl 7), some (.inr f), some (.inr (v + 1)), some (.inr 1), some (.inr 1)], [], τ)) rfl trivial ?_
            exact q3 _ (by first | exact cnt_t hv (by omega) | exact cnt_f hv (by omega)))
    have q1 : ∀ (v : Int), v = 0 + b2 (oco (τ 4) f 0 (-1) = 3) → Ex 3 m1_jumpsBy (cod m1_jumpsBy 9, [some (.inl 7), some (.inr f), some (.inr v), some (.inr 0), some (.inr 1)], [], τ) 0 (.inl (some (.inr (jby (τ 4) f)), τ)) := by
      intro v hv
      refine ex_k 2 (P := none) (g := (cod m1_jumpsBy 11, [some (.inl 7), some (.inr f), some (.inr v), some (.inr 0), some (.inr 1)], [.inr 1, .inr 1], τ)) rfl trivial ?_
      refine ex_b (P := 1 < 1) (ct := (cod m1_jumpsBy 22, [some (.inl 7), some (.inr f), some (.inr v), some (.inr 0), some (.inr 1)], [], τ)) (cf := (cod m1_jumpsBy 12, [some (.inl 7), some (.inr f), some (.inr v), some (.inr 0), some (.inr 1)], [], τ)) rfl ⟨⟨by decide, by decide⟩, ⟨by decide, by decide⟩⟩ (fun hh => absurd hh (by decide)) (fun _ => ?_)
      refine ex_k 4 (P := none) (g := (cod m1_jumpsBy 16, [some (.inl 7), some (.inr f), some (.inr v), some (.inr 0), some (.inr 1)], [.inr 1, .inr 0, .inr f, .inl 7], τ)) rfl trivial ?_
      refine ex_c (s_outcomeOf (τ := τ) (f := f) (r := 0) (s := 1) (Or.inl ⟨rfl, rfl, rfl⟩) (by omega) (by omega) (by omega) hS.cw) (is := cod m1_jumpsBy 17) (L := [some (.inl 7), some (.inr f), some (.inr v), some (.inr 0), some (.inr 1)]) (st := []) rfl rfl rfl ?_
      show Ex _ _ (cod m1_jumpsBy 17, [some (.inl 7), some (.inr f), some (.inr v), some (.inr 0), some (.inr 1)], [.inr (oco (τ 4) f 0 1)], τ) _ _
      refine ex_k 1 (P := none) (g := (cod m1_jumpsBy 18, [some (.inl 7), some (.inr f), some (.inr v), some (.inr 0), some (.inr 1)], [.inr 3, .inr (oco (τ 4) f 0 1)], τ)) rfl trivial ?_
      refine ex_b (P := ¬ (oco (τ 4) f 0 1) = 3) (ct := (cod m1_jumpsBy 20, [some (.inl 7), some (.inr f), some (.inr v), some (.inr 0), some (.inr 1)], [], τ)) (cf := (cod m1_jumpsBy 19, [some (.inl 7), some (.inr f), some (.inr v), some (.inr 0), some (.inr 1)], [], τ)) rfl ⟨⟨by omega, by omega⟩, ⟨by decide, by decide⟩⟩ (fun h2 => ?_) (fun h2 => ?_)
      · first
        | (exfalso; omega)
        | (
            refine ex_k 4 (P := none) (g := (cod m1_jumpsBy 11, [some (.inl 7), some (.inr f), some (.inr v), some (.inr 0), some (.inr 3)], [.inr 1, .inr 3], τ)) rfl trivial ?_
            refine ex_b (P := 1 < 3) (ct := (cod m1_jumpsBy 22, [some (.inl 7), some (.inr f), some (.inr v), some (.inr 0), some (.inr 3)], [], τ)) (cf := (cod m1_jumpsBy 12, [some (.inl 7), some (.inr f), some (.inr v), some (.inr 0), some (.inr 3)], [], τ)) rfl ⟨⟨by decide, by decide⟩, ⟨by decide, by decide⟩⟩ (fun _ => ?_) (fun hh => absurd (by decide) hh)
            refine ex_k 4 (P := none) (g := (cod m1_jumpsBy 6, [some (.inl 7), some (.inr f), some (.inr v), some (.inr 1), some (.inr 3)], [.inr 2, .inr 1], τ)) rfl trivial ?_
            refine ex_b (P := 2 ≤ 1) (ct := (cod m1_jumpsBy 24, [some (.inl 7), some (.inr f), some (.inr v), some (.inr 1), some (.inr 3)], [], τ)) (cf := (cod m1_jumpsBy 7, [some (.inl 7), some (.inr f), some (.inr v), some (.inr 1), some (.inr 3)], [], τ)) rfl ⟨⟨by decide, by decide⟩, ⟨by decide, by decide⟩⟩ (fun hh => absurd hh (by decide)) (fun _ => ?_)
            refine ex_k 2 (P := none) (g := (cod m1_jumpsBy 9, [some (.inl 7), some (.inr f), some (.inr v), some (.inr 1), some (.inr (-1))], [], τ)) rfl trivial ?_
            exact q2 _ (by first | exact cnt_t hv (by omega) | exact cnt_f hv (by omega)))
      · first
        | (exfalso; omega)
        | (
            refine ex_k 5 (P := none) (g := (cod m1_jumpsBy 11, [some (.inl 7), some (.inr f), some (.inr (v + 1)), some (.inr 0), some (.inr 3)], [.inr 1, .inr 3], τ)) rfl trivial ?_
            refine ex_b (P := 1 < 3) (ct := (cod m1_jumpsBy 22, [some (.inl 7), some (.inr f), some (.inr (v + 1)), some (.inr 0), some (.inr 3)], [], τ)) (cf := (cod m1_jumpsBy 12, [some (.inl 7), some (.inr f), some (.inr (v + 1)), some (.inr 0), some (.inr 3)], [], τ)) rfl ⟨⟨by decide, by decide⟩, ⟨by decide, by decide⟩⟩ (fun _ => ?_) (fun hh => absurd (by decide) hh)
            refine ex_k 4 (P := none) (g := (cod m1_jumpsBy 6, [some (.inl 7), some (.inr f), some (.inr (v + 1)), some (.inr 1), some (.inr 3)], [.inr 2, .inr 1], τ)) rfl trivial ?_
            refine ex_b (P := 2 ≤ 1) (ct := (cod m1_jumpsBy 24, [some (.inl 7), some (.inr f), some (.inr (v + 1)), some (.inr 1), some (.inr 3)], [], τ)) (cf := (cod m1_jumpsBy 7, [some (.inl 7), some (.inr f), some (.inr (v + 1)), some (.inr 1), some (.inr 3)], [], τ)) rfl ⟨⟨by decide, by decide⟩, ⟨by decide, by decide⟩⟩ (fun hh => absurd hh (by decide)) (fun _ => ?_)
            refine ex_k 2 (P := none) (g := (cod m1_jumpsBy 9, [some (.inl 7), some (.inr f), some (.inr (v + 1)), some (.inr 1), some (.inr (-1))], [], τ)) rfl trivial ?_
            exact q2 _ (by first | exact cnt_t hv (by omega) | exact cnt_f hv (by omega)))
    have q0 : ∀ (v : Int), v = 0 → Ex 3 m1_jumpsBy (cod m1_jumpsBy 9, [some (.inl 7), some (.inr f), some (.inr v), some (.inr 0), some (.inr (-1))], [], τ) 0 (.inl (some (.inr (jby (τ 4) f)), τ)) := by
      intro v hv
      refine ex_k 2 (P := none) (g := (cod m1_jumpsBy 11, [some (.inl 7), some (.inr f), some (.inr v), some (.inr 0), some (.inr (-1))], [.inr 1, .inr (-1)], τ)) rfl trivial ?_
      refine ex_b (P := 1 < (-1)) (ct := (cod m1_jumpsBy 22, [some (.inl 7), some (.inr f), some (.inr v), some (.inr 0), some (.inr (-1))], [], τ)) (cf := (cod m1_jumpsBy 12, [some (.inl 7), some (.inr f), some (.inr v), some (.inr 0), some (.inr (-1))], [], τ)) rfl ⟨⟨by decide, by decide⟩, ⟨by decide, by decide⟩⟩ (fun hh => absurd hh (by decide)) (fun _ => ?_)
      refine ex_k 4 (P := none) (g := (cod m1_jumpsBy 16, [some (.inl 7), some (.inr f), some (.inr v), some (.inr 0), some (.inr (-1))], [.inr (-1), .inr 0, .inr f, .inl 7], τ)) rfl trivial ?_
      refine ex_c (s_outcomeOf (τ := τ) (f := f) (r := 0) (s := (-1)) (Or.inl ⟨rfl, rfl, rfl⟩) (by omega) (by omega) (by omega) hS.cw) (is := cod m1_jumpsBy 17) (L := [some (.inl 7), some (.inr f), some (.inr v), some (.inr 0), some (.inr (-1))]) (st := []) rfl rfl rfl ?_
      show Ex _ _ (cod m1_jumpsBy 17, [some (.inl 7), some (.inr f), some (.inr v), some (.inr 0), some (.inr (-1))], [.inr (oco (τ 4) f 0 (-1))], τ) _ _
      refine ex_k 1 (P := none) (g := (cod m1_jumpsBy 18, [some (.inl 7), some (.inr f), some (.inr v), some (.inr 0), some (.inr (-1))], [.inr 3, .inr (oco (τ 4) f 0 (-1))], τ)) rfl trivial ?_
      refine ex_b (P := ¬ (oco (τ 4) f 0 (-1)) = 3) (ct := (cod m1_jumpsBy 20, [some (.inl 7), some (.inr f), some (.inr v), some (.inr 0), some (.inr (-1))], [], τ)) (cf := (cod m1_jumpsBy 19, [some (.inl 7), some (.inr f), some (.inr v), some (.inr 0), some (.inr (-1))], [], τ)) rfl ⟨⟨by omega, by omega⟩, ⟨by decide, by decide⟩⟩ (fun h2 => ?_) (fun h2 => ?_)
      · first
        | (exfalso; omega)
        | (
            refine ex_k 2 (P := none) (g := (cod m1_jumpsBy 9, [some (.inl 7), some (.inr f), some (.inr v), some (.inr 0), some (.inr 1)], [], τ)) rfl trivial ?_
            exact q1 _ (by first | exact cnt_t hv (by omega) | exact cnt_f hv (by omega)))
      · first
        | (exfalso; omega)
        | (
            refine ex_k 3 (P := none) (g := (cod m1_jumpsBy 9, [some (.inl 7), some (.inr f), some (.inr (v + 1)), some (.inr 0), some (.inr 1)], [], τ)) rfl trivial ?_
            exact q1 _ (by first | exact cnt_t hv (by omega) | exact cnt_f hv (by omega)))
    refine Ex.call ?_ rfl rfl
    show Ex _ _ (cod m1_jumpsBy 0, [some (.inl 7), some (.inr f), none, none, none], [], τ) _ _
    refine ex_k 6 (P := none) (g := (cod m1_jumpsBy 6, [some (.inl 7), some (.inr f), some (.inr 0), some (.inr 0), none], [.inr 2, .inr 0], τ)) rfl trivial ?_
    refine ex_b (P := 2 ≤ 0) (ct := (cod m1_jumpsBy 24, [some (.inl 7), some (.inr f), some (.inr 0), some (.inr 0), none], [], τ)) (cf := (cod m1_jumpsBy 7, [some (.inl 7), some (.inr f), some (.inr 0), some (.inr 0), none], [], τ)) rfl ⟨⟨by decide, by decide⟩, ⟨by decide, by decide⟩⟩ (fun hh => absurd hh (by decide)) (fun _ => ?_)
    refine ex_k 2 (P := none) (g := (cod m1_jumpsBy 9, [some (.inl 7), some (.inr f), some (.inr 0), some (.inr 0), some (.inr (-1))], [], τ)) rfl trivial ?_
    exact q0 0 rfl
  · have hsd := hS.sd hf
    have hp1 := hS.p1 hf
    have hp2 := hS.p2 hf
    have ho0 := @oco_in (τ 5) f 0 (-1)
    have ho1 := @oco_in (τ 5) f 0 1
    have ho2 := @oco_in (τ 5) f 1 (-1)
    have ho3 := @oco_in (τ 5) f 1 1
    have q3 : ∀ (v : Int), v = 0 + b2 (oco (τ 5) f 0 (-1) = 3) + b2 (oco (τ 5) f 0 1 = 3) + b2 (oco (τ 5) f 1 (-1) = 3) → Ex 3 m1_jumpsBy (cod m1_jumpsBy 9, [some (.inl 8), some (.inr f), some (.inr v), some (.inr 1), some (.inr 1)], [], τ) 0 (.inl (some (.inr (jby (τ 5) f)), τ)) := by
      intro v hv
      refine ex_k 2 (P := none) (g := (cod m1_jumpsBy 11, [some (.inl 8), some (.inr f), some (.inr v), some (.inr 1), some (.inr 1)], [.inr 1, .inr 1], τ)) rfl trivial ?_
      refine ex_b (P := 1 < 1) (ct := (cod m1_jumpsBy 22, [some (.inl 8), some (.inr f), some (.inr v), some (.inr 1), some (.inr 1)], [], τ)) (cf := (cod m1_jumpsBy 12, [some (.inl 8), some (.inr f), some (.inr v), some (.inr 1), some (.inr 1)], [], τ)) rfl ⟨⟨by decide, by decide⟩, ⟨by decide, by decide⟩⟩ (fun hh => absurd hh (by decide)) (fun _ => ?_)
      refine ex_k 4 (P := none) (g := (cod m1_jumpsBy 16, [some (.inl 8), some (.inr f), some (.inr v), some (.inr 1), some (.inr 1)], [.inr 1, .inr 1, .inr f, .inl 8], τ)) rfl trivial ?_
      refine ex_c (s_outcomeOf (τ := τ) (f := f) (r := 1) (s := 1) (Or.inr ⟨rfl, rfl, rfl⟩) (by omega) (by omega) (by omega) hS.cw) (is := cod m1_jumpsBy 17) (L := [some (.inl 8), some (.inr f), some (.inr v), some (.inr 1), some (.inr 1)]) (st := []) rfl rfl rfl ?_
      show Ex _ _ (cod m1_jumpsBy 17, [some (.inl 8), some (.inr f), some (.inr v), some (.inr 1), some (.inr 1)], [.inr (oco (τ 5) f 1 1)], τ) _ _
      refine ex_k 1 (P := none) (g := (cod m1_jumpsBy 18, [some (.inl 8), some (.inr f), some (.inr v), some (.inr 1), some (.inr 1)], [.inr 3, .inr (oco (τ 5) f 1 1)], τ)) rfl trivial ?_
      refine ex_b (P := ¬ (oco (τ 5) f 1 1) = 3) (ct := (cod m1_jumpsBy 20, [some (.inl 8), some (.inr f), some (.inr v), some (.inr 1), some (.inr 1)], [], τ)) (cf := (cod m1_jumpsBy 19, [some (.inl 8), some (.inr f), some (.inr v), some (.inr 1), some (.inr 1)], [], τ)) rfl ⟨⟨by omega, by omega⟩, ⟨by decide, by decide⟩⟩ (fun h2 => ?_) (fun h2 => ?_)
      · first
        | (exfalso; omega)
        | (
            refine ex_k 4 (P := none) (g := (cod m1_jumpsBy 11, [some (.inl 8), some (.inr f), some (.inr v), some (.inr 1), some (.inr 3)], [.inr 1, .inr 3], τ)) rfl trivial ?_
            refine ex_b (P := 1 < 3) (ct := (cod m1_jumpsBy 22, [some (.inl 8), some (.inr f), some (.inr v), some (.inr 1), some (.inr 3)], [], τ)) (cf := (cod m1_jumpsBy 12, [some (.inl 8), some (.inr f), some (.inr v), some (.inr 1), some (.inr 3)], [], τ)) rfl ⟨⟨by decide, by decide⟩, ⟨by decide, by decide⟩⟩ (fun _ => ?_) (fun hh => absurd (by decide) hh)
            refine ex_k 4 (P := none) (g := (cod m1_jumpsBy 6, [some (.inl 8), some (.inr f), some (.inr v), some (.inr 2), some (.inr 3)], [.inr 2, .inr 2], τ)) rfl trivial ?_
            refine ex_b (P := 2 ≤ 2) (ct := (cod m1_jumpsBy 24, [some (.inl 8), some (.inr f), some (.inr v), some (.inr 2), some (.inr 3)], [], τ)) (cf := (cod m1_jumpsBy 7, [some (.inl 8), some (.inr f), some (.inr v), some (.inr 2), some (.inr 3)], [], τ)) rfl ⟨⟨by decide, by decide⟩, ⟨by decide, by decide⟩⟩ (fun _ => ?_) (fun hh => absurd (by decide) hh)
            refine ex_k 1 (P := none) (g := (cod m1_jumpsBy 25, [some (.inl 8), some (.inr f), some (.inr v), some (.inr 2), some (.inr 3)], [.inr v], τ)) rfl trivial ?_
            exact ex_r rfl trivial rfl (rI (by unfold jby; first | exact (cnt_t hv (by omega)).symm | exact (cnt_f hv (by omega)).symm)))
      · first
        | (exfalso; omega)
        | (
            refine ex_k 5 (P := none) (g := (cod m1_jumpsBy 11, [some (.inl 8), some (.inr f), some (.inr (v + 1)), some (.inr 1), some (.inr 3)], [.inr 1, .inr 3], τ)) rfl trivial ?_
            refine ex_b (P := 1 < 3) (ct := (cod m1_jumpsBy 22, [some (.inl 8), some (.inr f), some (.inr (v + 1)), some (.inr 1), some (.inr 3)], [], τ)) (cf := (cod m1_jumpsBy 12, [some (.inl 8), some (.inr f), some (.inr (v + 1)), some (.inr 1), some (.inr 3)], [], τ)) rfl ⟨⟨by decide, by decide⟩, ⟨by decide, by decide⟩⟩ (fun _ => ?_) (fun hh => absurd (by decide) hh)
            refine ex_k 4 (P := none) (g := (cod m1_jumpsBy 6, [some (.inl 8), some (.inr f), some (.inr (v + 1)), some (.inr 2), some (.inr 3)], [.inr 2, .inr 2], τ)) rfl trivial ?_
            refine ex_b (P := 2 ≤ 2) (ct := (cod m1_jumpsBy 24, [some (.inl 8), some (.inr f), some (.inr (v + 1)), some (.inr 2), some (.inr 3)], [], τ)) (cf := (cod m1_jumpsBy 7, [some (.inl 8), some (.inr f), some (.inr (v + 1)), some (.inr 2), some (.inr 3)], [], τ)) rfl ⟨⟨by decide, by decide⟩, ⟨by decide, by decide⟩⟩ (fun _ => ?_) (fun hh => absurd (by decide) hh)
            refine ex_k 1 (P := none) (g := (cod m1_jumpsBy 25, [some (.inl 8), some (.inr f), some (.inr (v + 1)), some (.inr 2), some (.inr 3)], [.inr (v + 1)], τ)) rfl trivial ?_
            exact ex_r rfl trivial rfl (rI (by unfold jby; first | exact (cnt_t hv (by omega)).symm | exact (cnt_f hv (by omega)).symm)))
    have q2 : ∀ (v : Int), v = 0 + b2 (oco (τ 5) f 0 (-1) = 3) + b2 (oco (τ 5) f 0 1 = 3) → Ex 3 m1_jumpsBy (cod m1_jumpsBy 9, [some (.inl 8), some (.inr f), some (.inr v), some (.inr 1), some (.inr (-1))], [], τ) 0 (.inl (some (.inr (jby (τ 5) f)), τ)) := by
      intro v hv
      refine ex_k 2 (P := none) (g := (cod m1_jumpsBy 11, [some (.inl 8), some (.inr f), some (.inr v), some (.inr 1), some (.inr (-1))], [.inr 1, .inr (-1)], τ)) rfl trivial ?_
      refine ex_b (P := 1 < (-1)) (ct := (cod m1_jumpsBy 22, [some (.inl 8), some (.inr f), some (.inr v), some (.inr 1), some (.inr (-1))], [], τ)) (cf := (cod m1_jumpsBy 12, [some (.inl 8), some (.inr f), some (.inr v), some (.inr 1), some (.inr (-1))], [], τ)) rfl ⟨⟨by decide, by decide⟩, ⟨by decide, by decide⟩⟩ (fun hh => absurd hh (by decide)) (fun _ => ?_)
      refine ex_k 4 (P := none) (g := (cod m1_jumpsBy 16, [some (.inl 8), some (.inr f), some (.inr v), some (.inr 1), some (.inr (-1))], [.inr (-1), .inr 1, .inr f, .inl 8], τ)) rfl trivial ?_
      refine ex_c (s_outcomeOf (τ := τ) (f := f) (r := 1) (s := (-1)) (Or.inr ⟨rfl, rfl, rfl⟩) (by omega) (by omega) (by omega) hS.cw) (is := cod m1_jumpsBy 17) (L := [some (.inl 8), some (.inr f), some (.inr v), some (.inr 1), some (.inr (-1))]) (st := []) rfl rfl rfl ?_
      show Ex _ _ (cod m1_jumpsBy 17, [some (.inl 8), some (.inr f), some (.inr v), some (.inr 1), some (.inr (-1))], [.inr (oco (τ 5) f 1 (-1))], τ) _ _
      refine ex_k 1 (P := none) (g := (cod m1_jumpsBy 18, [some (.inl 8), some (.inr f), some (.inr v), some (.inr 1), some (.inr (-1))], [.inr 3, .inr (oco (τ 5) f 1 (-1))], τ)) rfl trivial ?_
      refine ex_b (P := ¬ (oco (τ 5) f 1 (-1)) = 3) (ct := (cod m1_jumpsBy 20, [some (.inl 8), some (.inr f), some (.inr v), some (.inr 1), some (.inr (-1))], [], τ)) (cf := (cod m1_jumpsBy 19, [some (.inl 8), some (.inr f), some (.inr v), some (.inr 1), some (.inr (-1))], [], τ)) rfl ⟨⟨by omega, by omega⟩, ⟨by decide, by decide⟩⟩ (fun h2 => ?_) (fun h2 => ?_)
      · first
        | (exfalso; omega)
        | (
            refine ex_k 2 (P := none) (g := (cod m1_jumpsBy 9, [some (.inl 8), some (.inr f), some (.inr v), some (.inr 1), some (.inr 1)], [], τ)) rfl trivial ?_
            exact q3 _ (by first | exact cnt_t hv (by omega) | exact cnt_f hv (by omega)))
      · first
        | (exfalso; omega)
        | (
            refine ex_k 3 (P := none) (g := (cod m1_jumpsBy 9, [some (.inl 8), some (.inr f), some (.inr (v + 1)), some (.inr 1), some (.inr 1)], [], τ)) rfl trivial ?_
            exact q3 _ (by first | exact cnt_t hv (by omega) | exact cnt_f hv (by omega)))
    have q1 : ∀ (v : Int), v = 0 + b2 (oco (τ 5) f 0 (-1) = 3) → Ex 3 m1_jumpsBy (cod m1_jumpsBy 9, [some (.inl 8), some (.inr f), some (.inr v), some (.inr 0), some (.inr 1)], [], τ) 0 (.inl (some (.inr (jby (τ 5) f)), τ)) := by
      intro v hv
      refine ex_k 2 (P := none) (g := (cod m1_jumpsBy 11, [some (.inl 8), some (.inr f), some (.inr v), some (.inr 0), some (.inr 1)], [.inr 1, .inr 1], τ)) rfl trivial ?_
      refine ex_b (P := 1 < 1) (ct := (cod m1_jumpsBy 22, [some (.inl 8), some (.inr f), some (.inr v), some (.inr 0), some (.inr 1)], [], τ)) (cf := (cod m1_jumpsBy 12, [some (.inl 8), some (.inr f), some (.inr v), some (.inr 0), some (.inr 1)], [], τ)) rfl ⟨⟨by decide, by decide⟩, ⟨by decide, by decide⟩⟩ (fun hh => absurd hh (by decide)) (fun _ => ?_)
      refine ex_k 4 (P := none) (g := (cod m1_jumpsBy 16, [some (.inl 8), some (.inr f), some (.inr v), some (.inr 0), some (.inr 1)], [.inr 1, .inr 0, .inr f, .inl 8], τ)) rfl trivial ?_
      refine ex_c (s_outcomeOf (τ := τ) (f := f) (r := 0) (s := 1) (Or.inr ⟨rfl, rfl, rfl⟩) (by omega) (by omega) (by omega) hS.cw) (is := cod m1_jumpsBy 17) (L := [some (.inl 8), some (.inr f), some (.inr v), some (.inr 0), some (.inr 1)]) (st := []) rfl rfl rfl ?_
      show Ex _ _ (cod m1_jumpsBy 17, [some (.inl 8), some (.inr f), some (.inr v), some (.inr 0), some (.inr 1)], [.inr (oco (τ 5) f 0 1)], τ) _ _
      refine ex_k 1 (P := none) (g := (cod m1_jumpsBy 18, [some (.inl 8), some (.inr f), some (.inr v), some (.inr 0), some (.inr 1)], [.inr 3, .inr (oco (τ 5) f 0 1)], τ)) rfl trivial ?_
      refine ex_b (P := ¬ (oco (τ 5) f 0 1) = 3) (ct := (cod m1_jumpsBy 20, [some (.inl 8), some (.inr f), some (.inr v), some (.inr 0), some (.inr 1)], [], τ)) (cf := (cod m1_jumpsBy 19, [some (.inl 8), some (.inr f), some (.inr v), some (.inr 0), some (.inr 1)], [], τ)) rfl ⟨⟨by omega, by omega⟩, ⟨by decide, by decide⟩⟩ (fun h2 => ?_) (fun h2 => ?_)
      · first
        | (exfalso; omega)
        | (
            refine ex_k 4 (P := none) (g := (cod m1_jumpsBy 11, [some (.inl 8), some (.inr f), some (.inr v), some (.inr 0), some (.inr 3)], [.inr 1, .inr 3], τ)) rfl trivial ?_
            refine ex_b (P := 1 < 3) (ct := (cod m1_jumpsBy 22, [some (.inl 8), some (.inr f), some (.inr v), some (.inr 0), some (.inr 3)], [], τ)) (cf := (cod m1_jumpsBy 12, [some (.inl 8), some (.inr f), some (.inr v), some (.inr 0), some (.inr 3)], [], τ)) rfl ⟨⟨by decide, by decide⟩, ⟨by decide, by decide⟩⟩ (fun _ => ?_) (fun hh => absurd (by decide) hh)
            refine ex_k 4 (P := none) (g := (cod m1_jumpsBy 6, [some (.inl 8), some (.inr f), some (.inr v), some (.inr 1), some (.inr 3)], [.inr 2, .inr 1], τ)) rfl trivial ?_
            refine ex_b (P := 2 ≤ 1) (ct := (cod m1_jumpsBy 24, [some (.inl 8), some (.inr f), some (.inr v), some (.inr 1), some (.inr 3)], [], τ)) (cf := (cod m1_jumpsBy 7, [some (.inl 8), some (.inr f), some (.inr v), some (.inr 1), some (.inr 3)], [], τ)) rfl ⟨⟨by decide, by decide⟩, ⟨by decide, by decide⟩⟩ (fun hh => absurd hh (by decide)) (fun _ => ?_)
            refine ex_k 2 (P := none) (g := (cod m1_jumpsBy 9, [some (.inl 8), some (.inr f), some (.inr v), some (.inr 1), some (.inr (-1))], [], τ)) rfl trivial ?_
            exact q2 _ (by first | exact cnt_t hv (by omega) | exact cnt_f hv (by omega)))
      · first
        | (exfalso; omega)
        | (
            refine ex_k 5 (P := none) (g := (cod m1_jumpsBy 11, [some (.inl 8), some (.inr f), some (.inr (v + 1)), some (.inr 0), some (.inr 3)], [.inr 1, .inr 3], τ)) rfl trivial ?_
            refine ex_b (P := 1 < 3) (ct := (cod m1_jumpsBy 22, [some (.inl 8), some (.inr f), some (.inr (v + 1)), some (.inr 0), some (.inr 3)], [], τ)) (cf := (cod m1_jumpsBy 12, [some (.inl 8), some (.inr f), some (.inr (v + 1)), some (.inr 0), some (.inr 3)], [], τ)) rfl ⟨⟨by decide, by decide⟩, ⟨by decide, by decide⟩⟩ (fun _ => ?_) (fun hh => absurd (by decide) hh)
            refine ex_k 4 (P := none) (g := (cod m1_jumpsBy 6, [some (.inl 8), some (.inr f), some (.inr (v + 1)), some (.inr 1), some (.inr 3)], [.inr 2, .inr 1], τ)) rfl trivial ?_
            refine ex_b (P := 2 ≤ 1) (ct := (cod m1_jumpsBy 24, [some (.inl 8), some (.inr f), some (.inr (v + 1)), some (.inr 1), some (.inr 3)], [], τ)) (cf := (cod m1_jumpsBy 7, [some (.inl 8), some (.inr f), some (.inr (v + 1)), some (.inr 1), some (.inr 3)], [], τ)) rfl ⟨⟨by decide, by decide⟩, ⟨by decide, by decide⟩⟩ (fun hh => absurd hh (by decide)) (fun _ => ?_)
            refine ex_k 2 (P := none) (g := (cod m1_jumpsBy 9, [some (.inl 8), some (.inr f), some (.inr (v + 1)), some (.inr 1), some (.inr (-1))], [], τ)) rfl trivial ?_
            exact q2 _ (by first | exact cnt_t hv (by omega) | exact cnt_f hv (by omega)))
    have q0 : ∀ (v : Int), v = 0 → Ex 3 m1_jumpsBy (cod m1_jumpsBy 9, [some (.inl 8), some (.inr f), some (.inr v), some (.inr 0), some (.inr (-1))], [], τ) 0 (.inl (some (.inr (jby (τ 5) f)), τ)) := by
      intro v hv
      refine ex_k 2 (P := none) (g := (cod m1_jumpsBy 11, [some (.inl 8), some (.inr f), some (.inr v), some (.inr 0), some (.inr (-1))], [.inr 1, .inr (-1)], τ)) rfl trivial ?_
      refine ex_b (P := 1 < (-1)) (ct := (cod m1_jumpsBy 22, [some (.inl 8), some (.inr f), some (.inr v), some (.inr 0), some (.inr (-1))], [], τ)) (cf := (cod m1_jumpsBy 12, [some (.inl 8), some (.inr f), some (.inr v), some (.inr 0), some (.inr (-1))], [], τ)) rfl ⟨⟨by decide, by decide⟩, ⟨by decide, by decide⟩⟩ (fun hh => absurd hh (by decide)) (fun _ => ?_)
      refine ex_k 4 (P := none) (g := (cod m1_jumpsBy 16, [some (.inl 8), some (.inr f), some (.inr v), some (.inr 0), some (.inr (-1))], [.inr (-1), .inr 0, .inr f, .inl 8], τ)) rfl trivial ?_
      refine ex_c (s_outcomeOf (τ := τ) (f := f) (r := 0) (s := (-1)) (Or.inr ⟨rfl, rfl, rfl⟩) (by omega) (by omega) (by omega) hS.cw) (is := cod m1_jumpsBy 17) (L := [some (.inl 8), some (.inr f), some (.inr v), some (.inr 0), some (.inr (-1))]) (st := []) rfl rfl rfl ?_
      show Ex _ _ (cod m1_jumpsBy 17, [some (.inl 8), some (.inr f), some (.inr v), some (.inr 0), some (.inr (-1))], [.inr (oco (τ 5) f 0 (-1))], τ) _ _
      refine ex_k 1 (P := none) (g := (cod m1_jumpsBy 18, [some (.inl 8), some (.inr f), some (.inr v), some (.inr 0), some (.inr (-1))], [.inr 3, .inr (oco (τ 5) f 0 (-1))], τ)) rfl trivial ?_
      refine ex_b (P := ¬ (oco (τ 5) f 0 (-1)) = 3) (ct := (cod m1_jumpsBy 20, [some (.inl 8), some (.inr f), some (.inr v), some (.inr 0), some (.inr (-1))], [], τ)) (cf := (cod m1_jumpsBy 19, [some (.inl 8), some (.inr f), some (.inr v), some (.inr 0), some (.inr (-1))], [], τ)) rfl ⟨⟨by omega, by omega⟩, ⟨by decide, by decide⟩⟩ (fun h2 => ?_) (fun h2 => ?_)
      · first
        | (exfalso; omega)
        | (
            refine ex_k 2 (P := none) (g := (cod m1_jumpsBy 9, [some (.inl 8), some (.inr f), some (.inr v), some (.inr 0), some (.inr 1)], [], τ)) rfl trivial ?_
            exact q1 _ (by first | exact cnt_t hv (by omega) | exact cnt_f hv (by omega)))
      · first
        | (exfalso; omega)
        | (
            refine ex_k 3 (P := none) (g := (cod m1_jumpsBy 9, [some (.inl 8), some (.inr f), some (.inr (v + 1)), some (.inr 0), some (.inr 1)], [], τ)) rfl trivial ?_
            exact q1 _ (by first | exact cnt_t hv (by omega) | exact cnt_f hv (by omega)))
    refine Ex.call ?_ rfl rfl
    show Ex _ _ (cod m1_jumpsBy 0, [some (.inl 8), some (.inr f), none, none, none], [], τ) _ _
    refine ex_k 6 (P := none) (g := (cod m1_jumpsBy 6, [some (.inl 8), some (.inr f), some (.inr 0), some (.inr 0), none], [.inr 2, .inr 0], τ)) rfl trivial ?_
    refine ex_b (P := 2 ≤ 0) (ct := (cod m1_jumpsBy 24, [some (.inl 8), some (.inr f), some (.inr 0), some (.inr 0), none], [], τ)) (cf := (cod m1_jumpsBy 7, [some (.inl 8), some (.inr f), some (.inr 0), some (.inr 0), none], [], τ)) rfl ⟨⟨by decide, by decide⟩, ⟨by decide, by decide⟩⟩ (fun hh => absurd hh (by decide)) (fun _ => ?_)
    refine ex_k 2 (P := none) (g := (cod m1_jumpsBy 9, [some (.inl 8), some (.inr f), some (.inr 0), some (.inr 0), some (.inr (-1))], [], τ)) rfl trivial ?_
    exact q0 0 rfl
def jov (c : Nat → Int) (f : Int) : Int := 0 + b2 (((0 ≤ (cel c (0 + f * 6 + 1) + (-1)) ∧ (cel c (0 + f * 6 + 1) + (-1)) < 12) ∧ cel c (48 + 0 * 12 + (cel c (0 + f * 6 + 1) + (-1))) = -1) ∧ ((¬ whz c 0 (cel c (0 + f * 6 + 1) - (-1)) = -1 ∧ ¬ whz c 0 (cel c (0 + f * 6 + 1) - (-1)) = 8 ∧ cel c (0 + (whz c 0 (cel c (0 + f * 6 + 1) - (-1))) * 6 + 0) = (1 - cel c (0 + f * 6 + 0)) ∧ ((cel c (0 + (whz c 0 (cel c (0 + f * 6 + 1) - (-1))) * 6 + 0) = 0 ∧ (-1) = 1) ∨ (¬ cel c (0 + (whz c 0 (cel c (0 + f * 6 + 1) - (-1))) * 6 + 0) = 0 ∧ (-1) = -1) ∨ cel c (0 + (whz c 0 (cel c (0 + f * 6 + 1) - (-1))) * 6 + 3) = 1)) ∧ ¬ ((cel c (0 + f * 6 + 1) - (-1)) - cel c (96 + 0) + 12) % 12 < cel c (98 + 0))) + b2 (((0 ≤ (cel c (0 + f * 6 + 1) + 1) ∧ (cel c (0 + f * 6 + 1) + 1) < 12) ∧ cel c (48 + 0 * 12 + (cel c (0 + f * 6 + 1) + 1)) = -1) ∧ ((¬ whz c 0 (cel c (0 + f * 6 + 1) - 1) = -1 ∧ ¬ whz c 0 (cel c (0 + f * 6 + 1) - 1) = 8 ∧ cel c (0 + (whz c 0 (cel c (0 + f * 6 + 1) - 1)) * 6 + 0) = (1 - cel c (0 + f * 6 + 0)) ∧ ((cel c (0 + (whz c 0 (cel c (0 + f * 6 + 1) - 1)) * 6 + 0) = 0 ∧ 1 = 1) ∨ (¬ cel c (0 + (whz c 0 (cel c (0 + f * 6 + 1) - 1)) * 6 + 0) = 0 ∧ 1 = -1) ∨ cel c (0 + (whz c 0 (cel c (0 + f * 6 + 1) - 1)) * 6 + 3) = 1)) ∧ ¬ ((cel c (0 + f * 6 + 1) - 1) - cel c (96 + 0) + 12) % 12 < cel c (98 + 0))) + b2 (((0 ≤ (cel c (0 + f * 6 + 2) + (-1)) ∧ (cel c (0 + f * 6 + 2) + (-1)) < 12) ∧ cel c (48 + 1 * 12 + (cel c (0 + f * 6 + 2) + (-1))) = -1) ∧ ((¬ whz c 1 (cel c (0 + f * 6 + 2) - (-1)) = -1 ∧ ¬ whz c 1 (cel c (0 + f * 6 + 2) - (-1)) = 8 ∧ cel c (0 + (whz c 1 (cel c (0 + f * 6 + 2) - (-1))) * 6 + 0) = (1 - cel c (0 + f * 6 + 0)) ∧ ((cel c (0 + (whz c 1 (cel c (0 + f * 6 + 2) - (-1))) * 6 + 0) = 0 ∧ (-1) = 1) ∨ (¬ cel c (0 + (whz c 1 (cel c (0 + f * 6 + 2) - (-1))) * 6 + 0) = 0 ∧ (-1) = -1) ∨ cel c (0 + (whz c 1 (cel c (0 + f * 6 + 2) - (-1))) * 6 + 3) = 1)) ∧ ¬ ((cel c (0 + f * 6 + 2) - (-1)) - cel c (96 + 1) + 12) % 12 < cel c (98 + 1))) + b2 (((0 ≤ (cel c (0 + f * 6 + 2) + 1) ∧ (cel c (0 + f * 6 + 2) + 1) < 12) ∧ cel c (48 + 1 * 12 + (cel c (0 + f * 6 + 2) + 1)) = -1) ∧ ((¬ whz c 1 (cel c (0 + f * 6 + 2) - 1) = -1 ∧ ¬ whz c 1 (cel c (0 + f * 6 + 2) - 1) = 8 ∧ cel c (0 + (whz c 1 (cel c (0 + f * 6 + 2) - 1)) * 6 + 0) = (1 - cel c (0 + f * 6 + 0)) ∧ ((cel c (0 + (whz c 1 (cel c (0 + f * 6 + 2) - 1)) * 6 + 0) = 0 ∧ 1 = 1) ∨ (¬ cel c (0 + (whz c 1 (cel c (0 + f * 6 + 2) - 1)) * 6 + 0) = 0 ∧ 1 = -1) ∨ cel c (0 + (whz c 1 (cel c (0 + f * 6 + 2) - 1)) * 6 + 3) = 1)) ∧ ¬ ((cel c (0 + f * 6 + 2) - 1) - cel c (96 + 1) + 12) % 12 < cel c (98 + 1)))
theorem jov_in {c : Nat → Int} {f : Int} : 0 ≤ jov c f ∧ jov c f ≤ 4 := by
  have h0 := @b2_01 (((0 ≤ (cel c (0 + f * 6 + 1) + (-1)) ∧ (cel c (0 + f * 6 + 1) + (-1)) < 12) ∧ cel c (48 + 0 * 12 + (cel c (0 + f * 6 + 1) + (-1))) = -1) ∧ ((¬ whz c 0 (cel c (0 + f * 6 + 1) - (-1)) = -1 ∧ ¬ whz c 0 (cel c (0 + f * 6 + 1) - (-1)) = 8 ∧ cel c (0 + (whz c 0 (cel c (0 + f * 6 + 1) - (-1))) * 6 + 0) = (1 - cel c (0 + f * 6 + 0)) ∧ ((cel c (0 + (whz c 0 (cel c (0 + f * 6 + 1) - (-1))) * 6 + 0) = 0 ∧ (-1) = 1) ∨ (¬ cel c (0 + (whz c 0 (cel c (0 + f * 6 + 1) - (-1))) * 6 + 0) = 0 ∧ (-1) = -1) ∨ cel c (0 + (whz c 0 (cel c (0 + f * 6 + 1) - (-1))) * 6 + 3) = 1)) ∧ ¬ ((cel c (0 + f * 6 + 1) - (-1)) - cel c (96 + 0) + 12) % 12 < cel c (98 + 0))) _
  have h1 := @b2_01 (((0 ≤ (cel c (0 + f * 6 + 1) + 1) ∧ (cel c (0 + f * 6 + 1) + 1) < 12) ∧ cel c (48 + 0 * 12 + (cel c (0 + f * 6 + 1) + 1)) = -1) ∧ ((¬ whz c 0 (cel c (0 + f * 6 + 1) - 1) = -1 ∧ ¬ whz c 0 (cel c (0 + f * 6 + 1) - 1) = 8 ∧ cel c (0 + (whz c 0 (cel c (0 + f * 6 + 1) - 1)) * 6 + 0) = (1 - cel c (0 + f * 6 + 0)) ∧ ((cel c (0 + (whz c 0 (cel c (0 + f * 6 + 1) - 1)) * 6 + 0) = 0 ∧ 1 = 1) ∨ (¬ cel c (0 + (whz c 0 (cel c (0 + f * 6 + 1) - 1)) * 6 + 0) = 0 ∧ 1 = -1) ∨ cel c (0 + (whz c 0 (cel c (0 + f * 6 + 1) - 1)) * 6 + 3) = 1)) ∧ ¬ ((cel c (0 + f * 6 + 1) - 1) - cel c (96 + 0) + 12) % 12 < cel c (98 + 0))) _
  have h2 := @b2_01 (((0 ≤ (cel c (0 + f * 6 + 2) + (-1)) ∧ (cel c (0 + f * 6 + 2) + (-1)) < 12) ∧ cel c (48 + 1 * 12 + (cel c (0 + f * 6 + 2) + (-1))) = -1) ∧ ((¬ whz c 1 (cel c (0 + f * 6 + 2) - (-1)) = -1 ∧ ¬ whz c 1 (cel c (0 + f * 6 + 2) - (-1)) = 8 ∧ cel c (0 + (whz c 1 (cel c (0 + f * 6 + 2) - (-1))) * 6 + 0) = (1 - cel c (0 + f * 6 + 0)) ∧ ((cel c (0 + (whz c 1 (cel c (0 + f * 6 + 2) - (-1))) * 6 + 0) = 0 ∧ (-1) = 1) ∨ (¬ cel c (0 + (whz c 1 (cel c (0 + f * 6 + 2) - (-1))) * 6 + 0) = 0 ∧ (-1) = -1) ∨ cel c (0 + (whz c 1 (cel c (0 + f * 6 + 2) - (-1))) * 6 + 3) = 1)) ∧ ¬ ((cel c (0 + f * 6 + 2) - (-1)) - cel c (96 + 1) + 12) % 12 < cel c (98 + 1))) _
  have h3 := @b2_01 (((0 ≤ (cel c (0 + f * 6 + 2) + 1) ∧ (cel c (0 + f * 6 + 2) + 1) < 12) ∧ cel c (48 + 1 * 12 + (cel c (0 + f * 6 + 2) + 1)) = -1) ∧ ((¬ whz c 1 (cel c (0 + f * 6 + 2) - 1) = -1 ∧ ¬ whz c 1 (cel c (0 + f * 6 + 2) - 1) = 8 ∧ cel c (0 + (whz c 1 (cel c (0 + f * 6 + 2) - 1)) * 6 + 0) = (1 - cel c (0 + f * 6 + 0)) ∧ ((cel c (0 + (whz c 1 (cel c (0 + f * 6 + 2) - 1)) * 6 + 0) = 0 ∧ 1 = 1) ∨ (¬ cel c (0 + (whz c 1 (cel c (0 + f * 6 + 2) - 1)) * 6 + 0) = 0 ∧ 1 = -1) ∨ cel c (0 + (whz c 1 (cel c (0 + f * 6 + 2) - 1)) * 6 + 3) = 1)) ∧ ¬ ((cel c (0 + f * 6 + 2) - 1) - cel c (96 + 1) + 12) % 12 < cel c (98 + 1))) _
  unfold jov
  omega
theorem s_jumpsOver {γ ρ a : Nat} {f : Int} {τ : SZ} (hγ : GA γ ρ a) (hf : 0 ≤ f ∧ f < 8) {B : Int} (hS : Sh B (τ a)) : RZ 4 m1_jumpsOver [.inl γ, .inr f] τ (.inl (some (.inr (jov (τ a) f)), τ)) := by
  rcases hγ with ⟨rfl, rfl, rfl⟩ | ⟨rfl, rfl, rfl⟩
  · have hsd := hS.sd hf
    have hp1 := hS.p1 hf
    have hp2 := hS.p2 hf
    have q3 : ∀ (v : Int), v = 0 + b2 (((0 ≤ (cel (τ 4) (0 + f * 6 + 1) + (-1)) ∧ (cel (τ 4) (0 + f * 6 + 1) + (-1)) < 12) ∧ cel (τ 4) (48 + 0 * 12 + (cel (τ 4) (0 + f * 6 + 1) + (-1))) = -1) ∧ ((¬ whz (τ 4) 0 (cel (τ 4) (0 + f * 6 + 1) - (-1)) = -1 ∧ ¬ whz (τ 4) 0 (cel (τ 4) (0 + f * 6 + 1) - (-1)) = 8 ∧ cel (τ 4) (0 + (whz (τ 4) 0 (cel (τ 4) (0 + f * 6 + 1) - (-1))) * 6 + 0) = (1 - cel (τ 4) (0 + f * 6 + 0)) ∧ ((cel (τ 4) (0 + (whz (τ 4) 0 (cel (τ 4) (0 + f * 6 + 1) - (-1))) * 6 + 0) = 0 ∧ (-1) = 1) ∨ (¬ cel (τ 4) (0 + (whz (τ 4) 0 (cel (τ 4) (0 + f * 6 + 1) - (-1))) * 6 + 0) = 0 ∧ (-1) = -1) ∨ cel (τ 4) (0 + (whz (τ 4) 0 (cel (τ 4) (0 + f * 6 + 1) - (-1))) * 6 + 3) = 1)) ∧ ¬ ((cel (τ 4) (0 + f * 6 + 1) - (-1)) - cel (τ 4) (96 + 0) + 12) % 12 < cel (τ 4) (98 + 0))) + b2 (((0 ≤ (cel (τ 4) (0 + f * 6 + 1) + 1) ∧ (cel (τ 4) (0 + f * 6 + 1) + 1) < 12) ∧ cel (τ 4) (48 + 0 * 12 + (cel (τ 4) (0 + f * 6 + 1) + 1)) = -1) ∧ ((¬ whz (τ 4) 0 (cel (τ 4) (0 + f * 6 + 1) - 1) = -1 ∧ ¬ whz (τ 4) 0 (cel (τ 4) (0 + f * 6 + 1) - 1) = 8 ∧ cel (τ 4) (0 + (whz (τ 4) 0 (cel (τ 4) (0 + f * 6 + 1) - 1)) * 6 + 0) = (1 - cel (τ 4) (0 + f * 6 + 0)) ∧ ((cel (τ 4) (0 + (whz (τ 4) 0 (cel (τ 4) (0 + f * 6 + 1) - 1)) * 6 + 0) = 0 ∧ 1 = 1) ∨ (¬ cel (τ 4) (0 + (whz (τ 4) 0 (cel (τ 4) (0 + f * 6 + 1) - 1)) * 6 + 0) = 0 ∧ 1 = -1) ∨ cel (τ 4) (0 + (whz (τ 4) 0 (cel (τ 4) (0 + f * 6 + 1) - 1)) * 6 + 3) = 1)) ∧ ¬ ((cel (τ 4) (0 + f * 6 + 1) - 1) - cel (τ 4) (96 + 0) + 12) % 12 < cel (τ 4) (98 + 0))) + b2 (((0 ≤ (cel (τ 4) (0 + f * 6 + 2) + (-1)) ∧ (cel (τ 4) (0 + f * 6 + 2) + (-1)) < 12) ∧ cel (τ 4) (48 + 1 * 12 + (cel (τ 4) (0 + f * 6 + 2) + (-1))) = -1) ∧ ((¬ whz (τ 4) 1 (cel (τ 4) (0 + f * 6 + 2) - (-1)) = -1 ∧ ¬ whz (τ 4) 1 (cel (τ 4) (0 + f * 6 + 2) - (-1)) = 8 ∧ cel (τ 4) (0 + (whz (τ 4) 1 (cel (τ 4) (0 + f * 6 + 2) - (-1))) * 6 + 0) = (1 - cel (τ 4) (0 + f * 6 + 0)) ∧ ((cel (τ 4) (0 + (whz (τ 4) 1 (cel (τ 4) (0 + f * 6 + 2) - (-1))) * 6 + 0) = 0 ∧ (-1) = 1) ∨ (¬ cel (τ 4) (0 + (whz (τ 4) 1 (cel (τ 4) (0 + f * 6 + 2) - (-1))) * 6 + 0) = 0 ∧ (-1) = -1) ∨ cel (τ 4) (0 + (whz (τ 4) 1 (cel (τ 4) (0 + f * 6 + 2) - (-1))) * 6 + 3) = 1)) ∧ ¬ ((cel (τ 4) (0 + f * 6 + 2) - (-1)) - cel (τ 4) (96 + 1) + 12) % 12 < cel (τ 4) (98 + 1))) → Ex 3 m1_jumpsOver (cod m1_jumpsOver 25, [some (.inl 7), some (.inr f), some (.inr (1 - cel (τ 4) (0 + f * 6 + 0))), some (.inr v), some (.inr 1), some (.inr (cel (τ 4) (0 + f * 6 + 2))), some (.inr 1)], [], τ) 0 (.inl (some (.inr (jov (τ 4) f)), τ)) := by
      intro v hv
      refine ex_k 2 (P := none) (g := (cod m1_jumpsOver 27, [some (.inl 7), some (.inr f), some (.inr (1 - cel (τ 4) (0 + f * 6 + 0))), some (.inr v), some (.inr 1), some (.inr (cel (τ 4) (0 + f * 6 + 2))), some (.inr 1)], [.inr 1, .inr 1], τ)) rfl trivial ?_
      refine ex_b (P := 1 < 1) (ct := (cod m1_jumpsOver 48, [some (.inl 7), some (.inr f), some (.inr (1 - cel (τ 4) (0 + f * 6 + 0))), some (.inr v), some (.inr 1), some (.inr (cel (τ 4) (0 + f * 6 + 2))), some (.inr 1)], [], τ)) (cf := (cod m1_jumpsOver 28, [some (.inl 7), some (.inr f), some (.inr (1 - cel (τ 4) (0 + f * 6 + 0))), some (.inr v), some (.inr 1), some (.inr (cel (τ 4) (0 + f * 6 + 2))), some (.inr 1)], [], τ)) rfl ⟨⟨by decide, by decide⟩, ⟨by decide, by decide⟩⟩ (fun hh => absurd hh (by decide)) (fun _ => ?_)
      refine ex_k 6 (P := none) (g := (cod m1_jumpsOver 34, [some (.inl 7), some (.inr f), some (.inr (1 - cel (τ 4) (0 + f * 6 + 0))), some (.inr v), some (.inr 1), some (.inr (cel (τ 4) (0 + f * 6 + 2))), some (.inr 1)], [.inr ((cel (τ 4) (0 + f * 6 + 2)) + 1), .inr 1, .inl 1], τ)) rfl trivial ?_
      refine ex_c (s_isFree (τ := τ) (r := 1) (p := (cel (τ 4) (0 + f * 6 + 2)) + 1) (Or.inl ⟨rfl, rfl⟩) (by omega) ⟨by omega, by omega⟩ hS.bd) (is := cod m1_jumpsOver 35) (L := [some (.inl 7), some (.inr f), some (.inr (1 - cel (τ 4) (0 + f * 6 + 0))), some (.inr v), some (.inr 1), some (.inr (cel (τ 4) (0 + f * 6 + 2))), some (.inr 1)]) (st := []) rfl rfl rfl ?_
      show Ex _ _ (cod m1_jumpsOver 35, [some (.inl 7), some (.inr f), some (.inr (1 - cel (τ 4) (0 + f * 6 + 0))), some (.inr v), some (.inr 1), some (.inr (cel (τ 4) (0 + f * 6 + 2))), some (.inr 1)], [.inr (b2 ((0 ≤ ((cel (τ 4) (0 + f * 6 + 2)) + 1) ∧ ((cel (τ 4) (0 + f * 6 + 2)) + 1) < 12) ∧ cel (τ 4) (48 + 1 * 12 + ((cel (τ 4) (0 + f * 6 + 2)) + 1)) = -1))], τ) _ _
      refine ex_b (P := (b2 ((0 ≤ ((cel (τ 4) (0 + f * 6 + 2)) + 1) ∧ ((cel (τ 4) (0 + f * 6 + 2)) + 1) < 12) ∧ cel (τ 4) (48 + 1 * 12 + ((cel (τ 4) (0 + f * 6 + 2)) + 1)) = -1)) = 0) (ct := (cod m1_jumpsOver 46, [some (.inl 7), some (.inr f), some (.inr (1 - cel (τ 4) (0 + f * 6 + 0))), some (.inr v), some (.inr 1), some (.inr (cel (τ 4) (0 + f * 6 + 2))), some (.inr 1)], [], τ)) (cf := (cod m1_jumpsOver 36, [some (.inl 7), some (.inr f), some (.inr (1 - cel (τ 4) (0 + f * 6 + 0))), some (.inr v), some (.inr 1), some (.inr (cel (τ 4) (0 + f * 6 + 2))), some (.inr 1)], [], τ)) rfl b2_rng (fun h2 => ?_) (fun h2 => ?_)
      · first
        | (exfalso; have h2 := b2_e0 h2; omega)
        | (
            have h2 := b2_e0 h2
            refine ex_k 4 (P := none) (g := (cod m1_jumpsOver 27, [some (.inl 7), some (.inr f), some (.inr (1 - cel (τ 4) (0 + f * 6 + 0))), some (.inr v), some (.inr 1), some (.inr (cel (τ 4) (0 + f * 6 + 2))), some (.inr 3)], [.inr 1, .inr 3], τ)) rfl trivial ?_
            refine ex_b (P := 1 < 3) (ct := (cod m1_jumpsOver 48, [some (.inl 7), some (.inr f), some (.inr (1 - cel (τ 4) (0 + f * 6 + 0))), some (.inr v), some (.inr 1), some (.inr (cel (τ 4) (0 + f * 6 + 2))), some (.inr 3)], [], τ)) (cf := (cod m1_jumpsOver 28, [some (.inl 7), some (.inr f), some (.inr (1 - cel (τ 4) (0 + f * 6 + 0))), some (.inr v), some (.inr 1), some (.inr (cel (τ 4) (0 + f * 6 + 2))), some (.inr 3)], [], τ)) rfl ⟨⟨by decide, by decide⟩, ⟨by decide, by decide⟩⟩ (fun _ => ?_) (fun hh => absurd (by decide) hh)
            refine ex_k 4 (P := none) (g := (cod m1_jumpsOver 14, [some (.inl 7), some (.inr f), some (.inr (1 - cel (τ 4) (0 + f * 6 + 0))), some (.inr v), some (.inr 2), some (.inr (cel (τ 4) (0 + f * 6 + 2))), some (.inr 3)], [.inr 2, .inr 2], τ)) rfl trivial ?_
            refine ex_b (P := 2 ≤ 2) (ct := (cod m1_jumpsOver 50, [some (.inl 7), some (.inr f), some (.inr (1 - cel (τ 4) (0 + f * 6 + 0))), some (.inr v), some (.inr 2), some (.inr (cel (τ 4) (0 + f * 6 + 2))), some (.inr 3)], [], τ)) (cf := (cod m1_jumpsOver 15, [some (.inl 7), some (.inr f), some (.inr (1 - cel (τ 4) (0 + f * 6 + 0))), some (.inr v), some (.inr 2), some (.inr (cel (τ 4) (0 + f * 6 + 2))), some (.inr 3)], [], τ)) rfl ⟨⟨by decide, by decide⟩, ⟨by decide, by decide⟩⟩ (fun _ => ?_) (fun hh => absurd (by decide) hh)
            refine ex_k 1 (P := none) (g := (cod m1_jumpsOver 51, [some (.inl 7), some (.inr f), some (.inr (1 - cel (τ 4) (0 + f * 6 + 0))), some (.inr v), some (.inr 2), some (.inr (cel (τ 4) (0 + f * 6 + 2))), some (.inr 3)], [.inr v], τ)) rfl trivial ?_
            exact ex_r rfl trivial rfl (rI (by unfold jov; first | exact (cnt_t hv (by omega)).symm | exact (cnt_f hv (by omega)).symm)))
      · first
        | (exfalso; have h2 := b2_n0 h2; omega)
        | (
            have h2 := b2_n0 h2
            refine ex_k 7 (P := none) (g := (cod m1_jumpsOver 43, [some (.inl 7), some (.inr f), some (.inr (1 - cel (τ 4) (0 + f * 6 + 0))), some (.inr v), some (.inr 1), some (.inr (cel (τ 4) (0 + f * 6 + 2))), some (.inr 1)], [.inr 1, .inr ((cel (τ 4) (0 + f * 6 + 2)) - 1), .inr 1, .inr (1 - cel (τ 4) (0 + f * 6 + 0)), .inl 7], τ)) rfl trivial ?_
            refine ex_c (s_canLeave (τ := τ) (x := 1 - cel (τ 4) (0 + f * 6 + 0)) (r := 1) (p := (cel (τ 4) (0 + f * 6 + 2)) - 1) (s := 1) (Or.inl ⟨rfl, rfl, rfl⟩) (by omega) (by omega) ⟨by omega, by omega⟩ (by omega) hS.cw) (is := cod m1_jumpsOver 44) (L := [some (.inl 7), some (.inr f), some (.inr (1 - cel (τ 4) (0 + f * 6 + 0))), some (.inr v), some (.inr 1), some (.inr (cel (τ 4) (0 + f * 6 + 2))), some (.inr 1)]) (st := []) rfl rfl rfl ?_
            show Ex _ _ (cod m1_jumpsOver 44, [some (.inl 7), some (.inr f), some (.inr (1 - cel (τ 4) (0 + f * 6 + 0))), some (.inr v), some (.inr 1), some (.inr (cel (τ 4) (0 + f * 6 + 2))), some (.inr 1)], [.inr (b2 ((¬ whz (τ 4) 1 ((cel (τ 4) (0 + f * 6 + 2)) - 1) = -1 ∧ ¬ whz (τ 4) 1 ((cel (τ 4) (0 + f * 6 + 2)) - 1) = 8 ∧ cel (τ 4) (0 + (whz (τ 4) 1 ((cel (τ 4) (0 + f * 6 + 2)) - 1)) * 6 + 0) = (1 - cel (τ 4) (0 + f * 6 + 0)) ∧ ((cel (τ 4) (0 + (whz (τ 4) 1 ((cel (τ 4) (0 + f * 6 + 2)) - 1)) * 6 + 0) = 0 ∧ 1 = 1) ∨ (¬ cel (τ 4) (0 + (whz (τ 4) 1 ((cel (τ 4) (0 + f * 6 + 2)) - 1)) * 6 + 0) = 0 ∧ 1 = -1) ∨ cel (τ 4) (0 + (whz (τ 4) 1 ((cel (τ 4) (0 + f * 6 + 2)) - 1)) * 6 + 3) = 1)) ∧ ¬ (((cel (τ 4) (0 + f * 6 + 2)) - 1) - cel (τ 4) (96 + 1) + 12) % 12 < cel (τ 4) (98 + 1)))], τ) _ _
            refine ex_b (P := (b2 ((¬ whz (τ 4) 1 ((cel (τ 4) (0 + f * 6 + 2)) - 1) = -1 ∧ ¬ whz (τ 4) 1 ((cel (τ 4) (0 + f * 6 + 2)) - 1) = 8 ∧ cel (τ 4) (0 + (whz (τ 4) 1 ((cel (τ 4) (0 + f * 6 + 2)) - 1)) * 6 + 0) = (1 - cel (τ 4) (0 + f * 6 + 0)) ∧ ((cel (τ 4) (0 + (whz (τ 4) 1 ((cel (τ 4) (0 + f * 6 + 2)) - 1)) * 6 + 0) = 0 ∧ 1 = 1) ∨ (¬ cel (τ 4) (0 + (whz (τ 4) 1 ((cel (τ 4) (0 + f * 6 + 2)) - 1)) * 6 + 0) = 0 ∧ 1 = -1) ∨ cel (τ 4) (0 + (whz (τ 4) 1 ((cel (τ 4) (0 + f * 6 + 2)) - 1)) * 6 + 3) = 1)) ∧ ¬ (((cel (τ 4) (0 + f * 6 + 2)) - 1) - cel (τ 4) (96 + 1) + 12) % 12 < cel (τ 4) (98 + 1))) = 0) (ct := (cod m1_jumpsOver 46, [some (.inl 7), some (.inr f), some (.inr (1 - cel (τ 4) (0 + f * 6 + 0))), some (.inr v), some (.inr 1), some (.inr (cel (τ 4) (0 + f * 6 + 2))), some (.inr 1)], [], τ)) (cf := (cod m1_jumpsOver 45, [some (.inl 7), some (.inr f), some (.inr (1 - cel (τ 4) (0 + f * 6 + 0))), some (.inr v), some (.inr 1), some (.inr (cel (τ 4) (0 + f * 6 + 2))), some (.inr 1)], [], τ)) rfl b2_rng (fun h5 => ?_) (fun h5 => ?_)
            · first
              | (exfalso; have h5 := b2_e0 h5; omega)
              | (
                  have h5 := b2_e0 h5
                  refine ex_k 4 (P := none) (g := (cod m1_jumpsOver 27, [some (.inl 7), some (.inr f), some (.inr (1 - cel (τ 4) (0 + f * 6 + 0))), some (.inr v), some (.inr 1), some (.inr (cel (τ 4) (0 + f * 6 + 2))), some (.inr 3)], [.inr 1, .inr 3], τ)) rfl trivial ?_
                  refine ex_b (P := 1 < 3) (ct := (cod m1_jumpsOver 48, [some (.inl 7), some (.inr f), some (.inr (1 - cel (τ 4) (0 + f * 6 + 0))), some (.inr v), some (.inr 1), some (.inr (cel (τ 4) (0 + f * 6 + 2))), some (.inr 3)], [], τ)) (cf := (cod m1_jumpsOver 28, [some (.inl 7), some (.inr f), some (.inr (1 - cel (τ 4) (0 + f * 6 + 0))), some (.inr v), some (.inr 1), some (.inr (cel (τ 4) (0 + f * 6 + 2))), some (.inr 3)], [], τ)) rfl ⟨⟨by decide, by decide⟩, ⟨by decide, by decide⟩⟩ (fun _ => ?_) (fun hh => absurd (by decide) hh)
                  refine ex_k 4 (P := none) (g := (cod m1_jumpsOver 14, [some (.inl 7), some (.inr f), some (.inr (1 - cel (τ 4) (0 + f * 6 + 0))), some (.inr v), some (.inr 2), some (.inr (cel (τ 4) (0 + f * 6 + 2))), some (.inr 3)], [.inr 2, .inr 2], τ)) rfl trivial ?_
                  refine ex_b (P := 2 ≤ 2) (ct := (cod m1_jumpsOver 50, [some (.inl 7), some (.inr f), some (.inr (1 - cel (τ 4) (0 + f * 6 + 0))), some (.inr v), some (.inr 2), some (.inr (cel (τ 4) (0 + f * 6 + 2))), some (.inr 3)], [], τ)) (cf := (cod m1_jumpsOver 15, [some (.inl 7), some (.inr f), some (.inr (1 - cel (τ 4) (0 + f * 6 + 0))), some (.inr v), some (.inr 2), some (.inr (cel (τ 4) (0 + f * 6 + 2))), some (.inr 3)], [], τ)) rfl ⟨⟨by decide, by decide⟩, ⟨by decide, by decide⟩⟩ (fun _ => ?_) (fun hh => absurd (by decide) hh)
                  refine ex_k 1 (P := none) (g := (cod m1_jumpsOver 51, [some (.inl 7), some (.inr f), some (.inr (1 - cel (τ 4) (0 + f * 6 + 0))), some (.inr v), some (.inr 2), some (.inr (cel (τ 4) (0 + f * 6 + 2))), some (.inr 3)], [.inr v], τ)) rfl trivial ?_
                  exact ex_r rfl trivial rfl (rI (by unfold jov; first | exact (cnt_t hv (by omega)).symm | exact (cnt_f hv (by omega)).symm)))
            · first
              | (exfalso; have h5 := b2_n0 h5; omega)
              | (
                  have h5 := b2_n0 h5
                  refine ex_k 5 (P := none) (g := (cod m1_jumpsOver 27, [some (.inl 7), some (.inr f), some (.inr (1 - cel (τ 4) (0 + f * 6 + 0))), some (.inr (v + 1)), some (.inr 1), some (.inr (cel (τ 4) (0 + f * 6 + 2))), some (.inr 3)], [.inr 1, .inr 3], τ)) rfl trivial ?_
                  refine ex_b (P := 1 < 3) (ct := (cod m1_jumpsOver 48, [some (.inl 7), some (.inr f), some (.inr (1 - cel (τ 4) (0 + f * 6 + 0))), some (.inr (v + 1)), some (.inr 1), some (.inr (cel (τ 4) (0 + f * 6 + 2))), some (.inr 3)], [], τ)) (cf := (cod m1_jumpsOver 28, [some (.inl 7), some (.inr f), some (.inr (1 - cel (τ 4) (0 + f * 6 + 0))), some (.inr (v + 1)), some (.inr 1), some (.inr (cel (τ 4) (0 + f * 6 + 2))), some (.inr 3)], [], τ)) rfl ⟨⟨by decide, by decide⟩, ⟨by decide, by decide⟩⟩ (fun _ => ?_) (fun hh => absurd (by decide) hh)
                  refine ex_k 4 (P := none) (g := (cod m1_jumpsOver 14, [some (.inl 7), some (.inr f), some (.inr (1 - cel (τ 4) (0 + f * 6 + 0))), some (.inr (v + 1)), some (.inr 2), some (.inr (cel (τ 4) (0 + f * 6 + 2))), some (.inr 3)], [.inr 2, .inr 2], τ)) rfl trivial ?_
                  refine ex_b (P := 2 ≤ 2) (ct := (cod m1_jumpsOver 50, [some (.inl 7), some (.inr f), some (.inr (1 - cel (τ 4) (0 + f * 6 + 0))), some (.inr (v + 1)), some (.inr 2), some (.inr (cel (τ 4) (0 + f * 6 + 2))), some (.inr 3)], [], τ)) (cf := (cod m1_jumpsOver 15, [some (.inl 7), some (.inr f), some (.inr (1 - cel (τ 4) (0 + f * 6 + 0))), some (.inr (v + 1)), some (.inr 2), some (.inr (cel (τ 4) (0 + f * 6 + 2))), some (.inr 3)], [], τ)) rfl ⟨⟨by decide, by decide⟩, ⟨by decide, by decide⟩⟩ (fun _ => ?_) (fun hh => absurd (by decide) hh)
                  refine ex_k 1 (P := none) (g := (cod m1_jumpsOver 51, [some (.inl 7), some (.inr f), some (.inr (1 - cel (τ 4) (0 + f * 6 + 0))), some (.inr (v + 1)), some (.inr 2), some (.inr (cel (τ 4) (0 + f * 6 + 2))), some (.inr 3)], [.inr (v + 1)], τ)) rfl trivial ?_
                  exact ex_r rfl trivial rfl (rI (by unfold jov; first | exact (cnt_t hv (by omega)).symm | exact (cnt_f hv (by omega)).symm))))
    have q2 : ∀ (v : Int), v = 0 + b2 (((0 ≤ (cel (τ 4) (0 + f * 6 + 1) + (-1)) ∧ (cel (τ 4) (0 + f * 6 + 1) + (-1)) < 12) ∧ cel (τ 4) (48 + 0 * 12 + (cel (τ 4) (0 + f * 6 + 1) + (-1))) = -1) ∧ ((¬ whz (τ 4) 0 (cel (τ 4) (0 + f * 6 + 1) - (-1)) = -1 ∧ ¬ whz (τ 4) 0 (cel (τ 4) (0 + f * 6 + 1) - (-1)) = 8 ∧ cel (τ 4) (0 + (whz (τ 4) 0 (cel (τ 4) (0 + f * 6 + 1) - (-1))) * 6 + 0) = (1 - cel (τ 4) (0 + f * 6 + 0)) ∧ ((cel (τ 4) (0 + (whz (τ 4) 0 (cel (τ 4) (0 + f * 6 + 1) - (-1))) * 6 + 0) = 0 ∧ (-1) = 1) ∨ (¬ cel (τ 4) (0 + (whz (τ 4) 0 (cel (τ 4) (0 + f * 6 + 1) - (-1))) * 6 + 0) = 0 ∧ (-1) = -1) ∨ cel (τ 4) (0 + (whz (τ 4) 0 (cel (τ 4) (0 + f * 6 + 1) - (-1))) * 6 + 3) = 1)) ∧ ¬ ((cel (τ 4) (0 + f * 6 + 1) - (-1)) - cel (τ 4) (96 + 0) + 12) % 12 < cel (τ 4) (98 + 0))) + b2 (((0 ≤ (cel (τ 4) (0 + f * 6 + 1) + 1) ∧ (cel (τ 4) (0 + f * 6 + 1) + 1) < 12) ∧ cel (τ 4) (48 + 0 * 12 + (cel (τ 4) (0 + f * 6 + 1) + 1)) = -1) ∧ ((¬ whz (τ 4) 0 (cel (τ 4) (0 + f * 6 + 1) - 1) = -1 ∧ ¬ whz (τ 4) 0 (cel (τ 4) (0 + f * 6 + 1) - 1) = 8 ∧ cel (τ 4) (0 + (whz (τ 4) 0 (cel (τ 4) (0 + f * 6 + 1) - 1)) * 6 + 0) = (1 - cel (τ 4) (0 + f * 6 + 0)) ∧ ((cel (τ 4) (0 + (whz (τ 4) 0 (cel (τ 4) (0 + f * 6 + 1) - 1)) * 6 + 0) = 0 ∧ 1 = 1) ∨ (¬ cel (τ 4) (0 + (whz (τ 4) 0 (cel (τ 4) (0 + f * 6 + 1) - 1)) * 6 + 0) = 0 ∧ 1 = -1) ∨ cel (τ 4) (0 + (whz (τ 4) 0 (cel (τ 4) (0 + f * 6 + 1) - 1)) * 6 + 3) = 1)) ∧ ¬ ((cel (τ 4) (0 + f * 6 + 1) - 1) - cel (τ 4) (96 + 0) + 12) % 12 < cel (τ 4) (98 + 0))) → Ex 3 m1_jumpsOver (cod m1_jumpsOver 25, [some (.inl 7), some (.inr f), some (.inr (1 - cel (τ 4) (0 + f * 6 + 0))), some (.inr v), some (.inr 1), some (.inr (cel (τ 4) (0 + f * 6 + 2))), some (.inr (-1))], [], τ) 0 (.inl (some (.inr (jov (τ 4) f)), τ)) := by
      intro v hv
      refine ex_k 2 (P := none) (g := (cod m1_jumpsOver 27, [some (.inl 7), some (.inr f), some (.inr (1 - cel (τ 4) (0 + f * 6 + 0))), some (.inr v), some (.inr 1), some (.inr (cel (τ 4) (0 + f * 6 + 2))), some (.inr (-1))], [.inr 1, .inr (-1)], τ)) rfl trivial ?_
      refine ex_b (P := 1 < (-1)) (ct := (cod m1_jumpsOver 48, [some (.inl 7), some (.inr f), some (.inr (1 - cel (τ 4) (0 + f * 6 + 0))), some (.inr v), some (.inr 1), some (.inr (cel (τ 4) (0 + f * 6 + 2))), some (.inr (-1))], [], τ)) (cf := (cod m1_jumpsOver 28, [some (.inl 7), some (.inr f), some (.inr (1 - cel (τ 4) (0 + f * 6 + 0))), some (.inr v), some (.inr 1), some (.inr (cel (τ 4) (0 + f * 6 + 2))), some (.inr (-1))], [], τ)) rfl ⟨⟨by decide, by decide⟩, ⟨by decide, by decide⟩⟩ (fun hh => absurd hh (by decide)) (fun _ => ?_)
      refine ex_k 6 (P := none) (g := (cod m1_jumpsOver 34, [some (.inl 7), some (.inr f), some (.inr (1 - cel (τ 4) (0 + f * 6 + 0))), some (.inr v), some (.inr 1), some (.inr (cel (τ 4) (0 + f * 6 + 2))), some (.inr (-1))], [.inr ((cel (τ 4) (0 + f * 6 + 2)) + (-1)), .inr 1, .inl 1], τ)) rfl trivial ?_
      refine ex_c (s_isFree (τ := τ) (r := 1) (p := (cel (τ 4) (0 + f * 6 + 2)) + (-1)) (Or.inl ⟨rfl, rfl⟩) (by omega) ⟨by omega, by omega⟩ hS.bd) (is := cod m1_jumpsOver 35) (L := [some (.inl 7), some (.inr f), some (.inr (1 - cel (τ 4) (0 + f * 6 + 0))), some (.inr v), some (.inr 1), some (.inr (cel (τ 4) (0 + f * 6 + 2))), some (.inr (-1))]) (st := []) rfl rfl rfl ?_
      show Ex _ _ (cod m1_jumpsOver 35, [some (.inl 7), some (.inr f), some (.inr (1 - cel (τ 4) (0 + f * 6 + 0))), some (.inr v), some (.inr 1), some (.inr (cel (τ 4) (0 + f * 6 + 2))), some (.inr (-1))], [.inr (b2 ((0 ≤ ((cel (τ 4) (0 + f * 6 + 2)) + (-1)) ∧ ((cel (τ 4) (0 + f * 6 + 2)) + (-1)) < 12) ∧ cel (τ 4) (48 + 1 * 12 + ((cel (τ 4) (0 + f * 6 + 2)) + (-1))) = -1))], τ) _ _
      refine ex_b (P := (b2 ((0 ≤ ((cel (τ 4) (0 + f * 6 + 2)) + (-1)) ∧ ((cel (τ 4) (0 + f * 6 + 2)) + (-1)) < 12) ∧ cel (τ 4) (48 + 1 * 12 + ((cel (τ 4) (0 + f * 6 + 2)) + (-1))) = -1)) = 0) (ct := (cod m1_jumpsOver 46, [some (.inl 7), some (.inr f), some (.inr (1 - cel (τ 4) (0 + f * 6 + 0))), some (.inr v), some (.inr 1), some (.inr (cel (τ 4) (0 + f * 6 + 2))), some (.inr (-1))], [], τ)) (cf := (cod m1_jumpsOver 36, [some (.inl 7), some (.inr f), some (.inr (1 - cel (τ 4) (0 + f * 6 + 0))), some (.inr v), some (.inr 1), some (.inr (cel (τ 4) (0 + f * 6 + 2))), some (.inr (-1))], [], τ)) rfl b2_rng (fun h2 => ?_) (fun h2 => ?_)
      · first
        | (exfalso; have h2 := b2_e0 h2; omega)
        | (
            have h2 := b2_e0 h2
            refine ex_k 2 (P := none) (g := (cod m1_jumpsOver 25, [some (.inl 7), some (.inr f), some (.inr (1 - cel (τ 4) (0 + f * 6 + 0))), some (.inr v), some (.inr 1), some (.inr (cel (τ 4) (0 + f * 6 + 2))), some (.inr 1)], [], τ)) rfl trivial ?_
            exact q3 _ (by first | exact cnt_t hv (by omega) | exact cnt_f hv (by omega)))
      · first
        | (exfalso; have h2 := b2_n0 h2; omega)
        | (
            have h2 := b2_n0 h2
            refine ex_k 7 (P := none) (g := (cod m1_jumpsOver 43, [some (.inl 7), some (.inr f), some (.inr (1 - cel (τ 4) (0 + f * 6 + 0))), some (.inr v), some (.inr 1), some (.inr (cel (τ 4) (0 + f * 6 + 2))), some (.inr (-1))], [.inr (-1), .inr ((cel (τ 4) (0 + f * 6 + 2)) - (-1)), .inr 1, .inr (1 - cel (τ 4) (0 + f * 6 + 0)), .inl 7], τ)) rfl trivial ?_
            refine ex_c (s_canLeave (τ := τ) (x := 1 - cel (τ 4) (0 + f * 6 + 0)) (r := 1) (p := (cel (τ 4) (0 + f * 6 + 2)) - (-1)) (s := (-1)) (Or.inl ⟨rfl, rfl, rfl⟩) (by omega) (by omega) ⟨by omega, by omega⟩ (by omega) hS.cw) (is := cod m1_jumpsOver 44) (L := [some (.inl 7), some (.inr f), some (.inr (1 - cel (τ 4) (0 + f * 6 + 0))), some (.inr v), some (.inr 1), some (.inr (cel (τ 4) (0 + f * 6 + 2))), some (.inr (-1))]) (st := []) rfl rfl rfl ?_
            show Ex _ _ (cod m1_jumpsOver 44, [some (.inl 7), some (.inr f), some (.inr (1 - cel (τ 4) (0 + f * 6 + 0))), some (.inr v), some (.inr 1), some (.inr (cel (τ 4) (0 + f * 6 + 2))), some (.inr (-1))], [.inr (b2 ((¬ whz (τ 4) 1 ((cel (τ 4) (0 + f * 6 + 2)) - (-1)) = -1 ∧ ¬ whz (τ 4) 1 ((cel (τ 4) (0 + f * 6 + 2)) - (-1)) = 8 ∧ cel (τ 4) (0 + (whz (τ 4) 1 ((cel (τ 4) (0 + f * 6 + 2)) - (-1))) * 6 + 0) = (1 - cel (τ 4) (0 + f * 6 + 0)) ∧ ((cel (τ 4) (0 + (whz (τ 4) 1 ((cel (τ 4) (0 + f * 6 + 2)) - (-1))) * 6 + 0) = 0 ∧ (-1) = 1) ∨ (¬ cel (τ 4) (0 + (whz (τ 4) 1 ((cel (τ 4) (0 + f * 6 + 2)) - (-1))) * 6 + 0) = 0 ∧ (-1) = -1) ∨ cel (τ 4) (0 + (whz (τ 4) 1 ((cel (τ 4) (0 + f * 6 + 2)) - (-1))) * 6 + 3) = 1)) ∧ ¬ (((cel (τ 4) (0 + f * 6 + 2)) - (-1)) - cel (τ 4) (96 + 1) + 12) % 12 < cel (τ 4) (98 + 1)))], τ) _ _
            refine ex_b (P := (b2 ((¬ whz (τ 4) 1 ((cel (τ 4) (0 + f * 6 + 2)) - (-1)) = -1 ∧ ¬ whz (τ 4) 1 ((cel (τ 4) (0 + f * 6 + 2)) - (-1)) = 8 ∧ cel (τ 4) (0 + (whz (τ 4) 1 ((cel (τ 4) (0 + f * 6 + 2)) - (-1))) * 6 + 0) = (1 - cel (τ 4) (0 + f * 6 + 0)) ∧ ((cel (τ 4) (0 + (whz (τ 4) 1 ((cel (τ 4) (0 + f * 6 + 2)) - (-1))) * 6 + 0) = 0 ∧ (-1) = 1) ∨ (¬ cel (τ 4) (0 + (whz (τ 4) 1 ((cel (τ 4) (0 + f * 6 + 2)) - (-1))) * 6 + 0) = 0 ∧ (-1) = -1) ∨ cel (τ 4) (0 + (whz (τ 4) 1 ((cel (τ 4) (0 + f * 6 + 2)) - (-1))) * 6 + 3) = 1)) ∧ ¬ (((cel (τ 4) (0 + f * 6 + 2)) - (-1)) - cel (τ 4) (96 + 1) + 12) % 12 < cel (τ 4) (98 + 1))) = 0) (ct := (cod m1_jumpsOver 46, [some (.inl 7), some (.inr f), some (.inr (1 - cel (τ 4) (0 + f * 6 + 0))), some (.inr v), some (.inr 1), some (.inr (cel (τ 4) (0 + f * 6 + 2))), some (.inr (-1))], [], τ)) (cf := (cod m1_jumpsOver 45, [some (.inl 7), some (.inr f), some (.inr (1 - cel (τ 4) (0 + f * 6 + 0))), some (.inr v), some (.inr 1), some (.inr (cel (τ 4) (0 + f * 6 + 2))), some (.inr (-1))], [], τ)) rfl b2_rng (fun h3 => ?_) (fun h3 => ?_)
            · first
              | (exfalso; have h3 := b2_e0 h3; omega)
              | (
                  have h3 := b2_e0 h3
                  refine ex_k 2 (P := none) (g := (cod m1_jumpsOver 25, [some (.inl 7), some (.inr f), some (.inr (1 - cel (τ 4) (0 + f * 6 + 0))), some (.inr v), some (.inr 1), some (.inr (cel (τ 4) (0 + f * 6 + 2))), some (.inr 1)], [], τ)) rfl trivial ?_
                  exact q3 _ (by first | exact cnt_t hv (by omega) | exact cnt_f hv (by omega)))
            · first
              | (exfalso; have h3 := b2_n0 h3; omega)
              | (
                  have h3 := b2_n0 h3
                  refine ex_k 3 (P := none) (g := (cod m1_jumpsOver 25, [some (.inl 7), some (.inr f), some (.inr (1 - cel (τ 4) (0 + f * 6 + 0))), some (.inr (v + 1)), some (.inr 1), some (.inr (cel (τ 4) (0 + f * 6 + 2))), some (.inr 1)], [], τ)) rfl trivial ?_
                  exact q3 _ (by first | exact cnt_t hv (by omega) | exact cnt_f hv (by omega))))
    have q1 : ∀ (v : Int), v = 0 + b2 (((0 ≤ (cel (τ 4) (0 + f * 6 + 1) + (-1)) ∧ (cel (τ 4) (0 + f * 6 + 1) + (-1)) < 12) ∧ cel (τ 4) (48 + 0 * 12 + (cel (τ 4) (0 + f * 6 + 1) + (-1))) = -1) ∧ ((¬ whz (τ 4) 0 (cel (τ 4) (0 + f * 6 + 1) - (-1)) = -1 ∧ ¬ whz (τ 4) 0 (cel (τ 4) (0 + f * 6 + 1) - (-1)) = 8 ∧ cel (τ 4) (0 + (whz (τ 4) 0 (cel (τ 4) (0 + f * 6 + 1) - (-1))) * 6 + 0) = (1 - cel (τ 4) (0 + f * 6 + 0)) ∧ ((cel (τ 4) (0 + (whz (τ 4) 0 (cel (τ 4) (0 + f * 6 + 1) - (-1))) * 6 + 0) = 0 ∧ (-1) = 1) ∨ (¬ cel (τ 4) (0 + (whz (τ 4) 0 (cel (τ 4) (0 + f * 6 + 1) - (-1))) * 6 + 0) = 0 ∧ (-1) = -1) ∨ cel (τ 4) (0 + (whz (τ 4) 0 (cel (τ 4) (0 + f * 6 + 1) - (-1))) * 6 + 3) = 1)) ∧ ¬ ((cel (τ 4) (0 + f * 6 + 1) - (-1)) - cel (τ 4) (96 + 0) + 12) % 12 < cel (τ 4) (98 + 0))) → Ex 3 m1_jumpsOver (cod m1_jumpsOver 25, [some (.inl 7), some (.inr f), some (.inr (1 - cel (τ 4) (0 + f * 6 + 0))), some (.inr v), some (.inr 0), some (.inr (cel (τ 4) (0 + f * 6 + 1))), some (.inr 1)], [], τ) 0 (.inl (some (.inr (jov (τ 4) f)), τ)) := by
      intro v hv
      refine ex_k 2 (P := none) (g := (cod m1_jumpsOver 27, [some (.inl 7), some (.inr f), some (.inr (1 - cel (τ 4) (0 + f * 6 + 0))), some (.inr v), some (.inr 0), some (.inr (cel (τ 4) (0 + f * 6 + 1))), some (.inr 1)], [.inr 1, .inr 1], τ)) rfl trivial ?_
      refine ex_b (P := 1 < 1) (ct := (cod m1_jumpsOver 48, [some (.inl 7), some (.inr f), some (.inr (1 - cel (τ 4) (0 + f * 6 + 0))), some (.inr v), some (.inr 0), some (.inr (cel (τ 4) (0 + f * 6 + 1))), some (.inr 1)], [], τ)) (cf := (cod m1_jumpsOver 28, [some (.inl 7), some (.inr f), some (.inr (1 - cel (τ 4) (0 + f * 6 + 0))), some (.inr v), some (.inr 0), some (.inr (cel (τ 4) (0 + f * 6 + 1))), some (.inr 1)], [], τ)) rfl ⟨⟨by decide, by decide⟩, ⟨by decide, by decide⟩⟩ (fun hh => absurd hh (by decide)) (fun _ => ?_)
      refine ex_k 6 (P := none) (g := (cod m1_jumpsOver 34, [some (.inl 7), some (.inr f), some (.inr (1 - cel (τ 4) (0 + f * 6 + 0))), some (.inr v), some (.inr 0), some (.inr (cel (τ 4) (0 + f * 6 + 1))), some (.inr 1)], [.inr ((cel (τ 4) (0 + f * 6 + 1)) + 1), .inr 0, .inl 1], τ)) rfl trivial ?_
      refine ex_c (s_isFree (τ := τ) (r := 0) (p := (cel (τ 4) (0 + f * 6 + 1)) + 1) (Or.inl ⟨rfl, rfl⟩) (by omega) ⟨by omega, by omega⟩ hS.bd) (is := cod m1_jumpsOver 35) (L := [some (.inl 7), some (.inr f), some (.inr (1 - cel (τ 4) (0 + f * 6 + 0))), some (.inr v), some (.inr 0), some (.inr (cel (τ 4) (0 + f * 6 + 1))), some (.inr 1)]) (st := []) rfl rfl rfl ?_
      show Ex _ _ (cod m1_jumpsOver 35, [some (.inl 7), some (.inr f), some (.inr (1 - cel (τ 4) (0 + f * 6 + 0))), some (.inr v), some (.inr 0), some (.inr (cel (τ 4) (0 + f * 6 + 1))), some (.inr 1)], [.inr (b2 ((0 ≤ ((cel (τ 4) (0 + f * 6 + 1)) + 1) ∧ ((cel (τ 4) (0 + f * 6 + 1)) + 1) < 12) ∧ cel (τ 4) (48 + 0 * 12 + ((cel (τ 4) (0 + f * 6 + 1)) + 1)) = -1))], τ) _ _
      refine ex_b (P := (b2 ((0 ≤ ((cel (τ 4) (0 + f * 6 + 1)) + 1) ∧ ((cel (τ 4) (0 + f * 6 + 1)) + 1) < 12) ∧ cel (τ 4) (48 + 0 * 12 + ((cel (τ 4) (0 + f * 6 + 1)) + 1)) = -1)) = 0) (ct := (cod m1_jumpsOver 46, [some (.inl 7), some (.inr f), some (.inr (1 - cel (τ 4) (0 + f * 6 + 0))), some (.inr v), some (.inr 0), some (.inr (cel (τ 4) (0 + f * 6 + 1))), some (.inr 1)], [], τ)) (cf := (cod m1_jumpsOver 36, [some (.inl 7), some (.inr f), some (.inr (1 - cel (τ 4) (0 + f * 6 + 0))), some (.inr v), some (.inr 0), some (.inr (cel (τ 4) (0 + f * 6 + 1))), some (.inr 1)], [], τ)) rfl b2_rng (fun h2 => ?_) (fun h2 => ?_)
      · first
        | (exfalso; have h2 := b2_e0 h2; omega)
        | (
            have h2 := b2_e0 h2
            refine ex_k 4 (P := none) (g := (cod m1_jumpsOver 27, [some (.inl 7), some (.inr f), some (.inr (1 - cel (τ 4) (0 + f * 6 + 0))), some (.inr v), some (.inr 0), some (.inr (cel (τ 4) (0 + f * 6 + 1))), some (.inr 3)], [.inr 1, .inr 3], τ)) rfl trivial ?_
            refine ex_b (P := 1 < 3) (ct := (cod m1_jumpsOver 48, [some (.inl 7), some (.inr f), some (.inr (1 - cel (τ 4) (0 + f * 6 + 0))), some (.inr v), some (.inr 0), some (.inr (cel (τ 4) (0 + f * 6 + 1))), some (.inr 3)], [], τ)) (cf := (cod m1_jumpsOver 28, [some (.inl 7), some (.inr f), some (.inr (1 - cel (τ 4) (0 + f * 6 + 0))), some (.inr v), some (.inr 0), some (.inr (cel (τ 4) (0 + f * 6 + 1))), some (.inr 3)], [], τ)) rfl ⟨⟨by decide, by decide⟩, ⟨by decide, by decide⟩⟩ (fun _ => ?_) (fun hh => absurd (by decide) hh)
            refine ex_k 4 (P := none) (g := (cod m1_jumpsOver 14, [some (.inl 7), some (.inr f), some (.inr (1 - cel (τ 4) (0 + f * 6 + 0))), some (.inr v), some (.inr 1), some (.inr (cel (τ 4) (0 + f * 6 + 1))), some (.inr 3)], [.inr 2, .inr 1], τ)) rfl trivial ?_
            refine ex_b (P := 2 ≤ 1) (ct := (cod m1_jumpsOver 50, [some (.inl 7), some (.inr f), some (.inr (1 - cel (τ 4) (0 + f * 6 + 0))), some (.inr v), some (.inr 1), some (.inr (cel (τ 4) (0 + f * 6 + 1))), some (.inr 3)], [], τ)) (cf := (cod m1_jumpsOver 15, [some (.inl 7), some (.inr f), some (.inr (1 - cel (τ 4) (0 + f * 6 + 0))), some (.inr v), some (.inr 1), some (.inr (cel (τ 4) (0 + f * 6 + 1))), some (.inr 3)], [], τ)) rfl ⟨⟨by decide, by decide⟩, ⟨by decide, by decide⟩⟩ (fun hh => absurd hh (by decide)) (fun _ => ?_)
            refine ex_k 6 (P := none) (g := (cod m1_jumpsOver 21, [some (.inl 7), some (.inr f), some (.inr (1 - cel (τ 4) (0 + f * 6 + 0))), some (.inr v), some (.inr 1), some (.inr (cel (τ 4) (0 + f * 6 + 1))), some (.inr 3)], [.inr 2, .inr f, .inl 1], τ)) rfl trivial ?_
            refine ex_c (s_number (τ := τ) (f := f) (w := 2) (Or.inl ⟨rfl, rfl⟩) (by omega) (by omega)) (is := cod m1_jumpsOver 22) (L := [some (.inl 7), some (.inr f), some (.inr (1 - cel (τ 4) (0 + f * 6 + 0))), some (.inr v), some (.inr 1), some (.inr (cel (τ 4) (0 + f * 6 + 1))), some (.inr 3)]) (st := []) rfl rfl rfl ?_
            show Ex _ _ (cod m1_jumpsOver 22, [some (.inl 7), some (.inr f), some (.inr (1 - cel (τ 4) (0 + f * 6 + 0))), some (.inr v), some (.inr 1), some (.inr (cel (τ 4) (0 + f * 6 + 1))), some (.inr 3)], [.inr (cel (τ 4) (0 + f * 6 + 2))], τ) _ _
            refine ex_k 3 (P := none) (g := (cod m1_jumpsOver 25, [some (.inl 7), some (.inr f), some (.inr (1 - cel (τ 4) (0 + f * 6 + 0))), some (.inr v), some (.inr 1), some (.inr (cel (τ 4) (0 + f * 6 + 2))), some (.inr (-1))], [], τ)) rfl trivial ?_
            exact q2 _ (by first | exact cnt_t hv (by omega) | exact cnt_f hv (by omega)))
      · first
        | (exfalso; have h2 := b2_n0 h2; omega)
        | (
            have h2 := b2_n0 h2
            refine ex_k 7 (P := none) (g := (cod m1_jumpsOver 43, [some (.inl 7), some (.inr f), some (.inr (1 - cel (τ 4) (0 + f * 6 + 0))), some (.inr v), some (.inr 0), some (.inr (cel (τ 4) (0 + f * 6 + 1))), some (.inr 1)], [.inr 1, .inr ((cel (τ 4) (0 + f * 6 + 1)) - 1), .inr 0, .inr (1 - cel (τ 4) (0 + f * 6 + 0)), .inl 7], τ)) rfl trivial ?_
            refine ex_c (s_canLeave (τ := τ) (x := 1 - cel (τ 4) (0 + f * 6 + 0)) (r := 0) (p := (cel (τ 4) (0 + f * 6 + 1)) - 1) (s := 1) (Or.inl ⟨rfl, rfl, rfl⟩) (by omega) (by omega) ⟨by omega, by omega⟩ (by omega) hS.cw) (is := cod m1_jumpsOver 44) (L := [some (.inl 7), some (.inr f), some (.inr (1 - cel (τ 4) (0 + f * 6 + 0))), some (.inr v), some (.inr 0), some (.inr (cel (τ 4) (0 + f * 6 + 1))), some (.inr 1)]) (st := []) rfl rfl rfl ?_
            show Ex _ _ (cod m1_jumpsOver 44, [some (.inl 7), some (.inr f), some (.inr (1 - cel (τ 4) (0 + f * 6 + 0))), some (.inr v), some (.inr 0), some (.inr (cel (τ 4) (0 + f * 6 + 1))), some (.inr 1)], [.inr (b2 ((¬ whz (τ 4) 0 ((cel (τ 4) (0 + f * 6 + 1)) - 1) = -1 ∧ ¬ whz (τ 4) 0 ((cel (τ 4) (0 + f * 6 + 1)) - 1) = 8 ∧ cel (τ 4) (0 + (whz (τ 4) 0 ((cel (τ 4) (0 + f * 6 + 1)) - 1)) * 6 + 0) = (1 - cel (τ 4) (0 + f * 6 + 0)) ∧ ((cel (τ 4) (0 + (whz (τ 4) 0 ((cel (τ 4) (0 + f * 6 + 1)) - 1)) * 6 + 0) = 0 ∧ 1 = 1) ∨ (¬ cel (τ 4) (0 + (whz (τ 4) 0 ((cel (τ 4) (0 + f * 6 + 1)) - 1)) * 6 + 0) = 0 ∧ 1 = -1) ∨ cel (τ 4) (0 + (whz (τ 4) 0 ((cel (τ 4) (0 + f * 6 + 1)) - 1)) * 6 + 3) = 1)) ∧ ¬ (((cel (τ 4) (0 + f * 6 + 1)) - 1) - cel (τ 4) (96 + 0) + 12) % 12 < cel (τ 4) (98 + 0)))], τ) _ _
            refine ex_b (P := (b2 ((¬ whz (τ 4) 0 ((cel (τ 4) (0 + f * 6 + 1)) - 1) = -1 ∧ ¬ whz (τ 4) 0 ((cel (τ 4) (0 + f * 6 + 1)) - 1) = 8 ∧ cel (τ 4) (0 + (whz (τ 4) 0 ((cel (τ 4) (0 + f * 6 + 1)) - 1)) * 6 + 0) = (1 - cel (τ 4) (0 + f * 6 + 0)) ∧ ((cel (τ 4) (0 + (whz (τ 4) 0 ((cel (τ 4) (0 + f * 6 + 1)) - 1)) * 6 + 0) = 0 ∧ 1 = 1) ∨ (¬ cel (τ 4) (0 + (whz (τ 4) 0 ((cel (τ 4) (0 + f * 6 + 1)) - 1)) * 6 + 0) = 0 ∧ 1 = -1) ∨ cel (τ 4) (0 + (whz (τ 4) 0 ((cel (τ 4) (0 + f * 6 + 1)) - 1)) * 6 + 3) = 1)) ∧ ¬ (((cel (τ 4) (0 + f * 6 + 1)) - 1) - cel (τ 4) (96 + 0) + 12) % 12 < cel (τ 4) (98 + 0))) = 0) (ct := (cod m1_jumpsOver 46, [some (.inl 7), some (.inr f), some (.inr (1 - cel (τ 4) (0 + f * 6 + 0))), some (.inr v), some (.inr 0), some (.inr (cel (τ 4) (0 + f * 6 + 1))), some (.inr 1)], [], τ)) (cf := (cod m1_jumpsOver 45, [some (.inl 7), some (.inr f), some (.inr (1 - cel (τ 4) (0 + f * 6 + 0))), some (.inr v), some (.inr 0), some (.inr (cel (τ 4) (0 + f * 6 + 1))), some (.inr 1)], [], τ)) rfl b2_rng (fun h5 => ?_) (fun h5 => ?_)
            · first
              | (exfalso; have h5 := b2_e0 h5; omega)
              | (
                  have h5 := b2_e0 h5
                  refine ex_k 4 (P := none) (g := (cod m1_jumpsOver 27, [some (.inl 7), some (.inr f), some (.inr (1 - cel (τ 4) (0 + f * 6 + 0))), some (.inr v), some (.inr 0), some (.inr (cel (τ 4) (0 + f * 6 + 1))), some (.inr 3)], [.inr 1, .inr 3], τ)) rfl trivial ?_
                  refine ex_b (P := 1 < 3) (ct := (cod m1_jumpsOver 48, [some (.inl 7), some (.inr f), some (.inr (1 - cel (τ 4) (0 + f * 6 + 0))), some (.inr v), some (.inr 0), some (.inr (cel (τ 4) (0 + f * 6 + 1))), some (.inr 3)], [], τ)) (cf := (cod m1_jumpsOver 28, [some (.inl 7), some (.inr f), some (.inr (1 - cel (τ 4) (0 + f * 6 + 0))), some (.inr v), some (.inr 0), some (.inr (cel (τ 4) (0 + f * 6 + 1))), some (.inr 3)], [], τ)) rfl ⟨⟨by decide, by decide⟩, ⟨by decide, by decide⟩⟩ (fun _ => ?_) (fun hh => absurd (by decide) hh)
                  refine ex_k 4 (P := none) (g := (cod m1_jumpsOver 14, [some (.inl 7), some (.inr f), some (.inr (1 - cel (τ 4) (0 + f * 6 + 0))), some (.inr v), some (.inr 1), some (.inr (cel (τ 4) (0 + f * 6 + 1))), some (.inr 3)], [.inr 2, .inr 1], τ)) rfl trivial ?_
                  refine ex_b (P := 2 ≤ 1) (ct := (cod m1_jumpsOver 50, [some (.inl 7), some (.inr f), some (.inr (1 - cel (τ 4) (0 + f * 6 + 0))), some (.inr v), some (.inr 1), some (.inr (cel (τ 4) (0 + f * 6 + 1))), some (.inr 3)], [], τ)) (cf := (cod m1_jumpsOver 15, [some (.inl 7), some (.inr f), some (.inr (1 - cel (τ 4) (0 + f * 6 + 0))), some (.inr v), some (.inr 1), some (.inr (cel (τ 4) (0 + f * 6 + 1))), some (.inr 3)], [], τ)) rfl ⟨⟨by decide, by decide⟩, ⟨by decide, by decide⟩⟩ (fun hh => absurd hh (by decide)) (fun _ => ?_)
                  refine ex_k 6 (P := none) (g := (cod m1_jumpsOver 21, [some (.inl 7), some (.inr f), some (.inr (1 - cel (τ 4) (0 + f * 6 + 0))), some (.inr v), some (.inr 1), some (.inr (cel (τ 4) (0 + f * 6 + 1))), some (.inr 3)], [.inr 2, .inr f, .inl 1], τ)) rfl trivial ?_
                  refine ex_c (s_number (τ := τ) (f := f) (w := 2) (Or.inl ⟨rfl, rfl⟩) (by omega) (by omega)) (is := cod m1_jumpsOver 22) (L := [some (.inl 7), some (.inr f), some (.inr (1 - cel (τ 4) (0 + f * 6 + 0))), some (.inr v), some (.inr 1), some (.inr (cel (τ 4) (0 + f * 6 + 1))), some (.inr 3)]) (st := []) rfl rfl rfl ?_
                  show Ex _ _ (cod m1_jumpsOver 22, [some (.inl 7), some (.inr f), some (.inr (1 - cel (τ 4) (0 + f * 6 + 0))), some (.inr v), some (.inr 1), some (.inr (cel (τ 4) (0 + f * 6 + 1))), some (.inr 3)], [.inr (cel (τ 4) (0 + f * 6 + 2))], τ) _ _
                  refine ex_k 3 (P := none) (g := (cod m1_jumpsOver 25, [some (.inl 7), some (.inr f), some (.inr (1 - cel (τ 4) (0 + f * 6 + 0))), some (.inr v), some (.inr 1), some (.inr (cel (τ 4) (0 + f * 6 + 2))), some (.inr (-1))], [], τ)) rfl trivial ?_
                  exact q2 _ (by first | exact cnt_t hv (by omega) | exact cnt_f hv (by omega)))
            · first
              | (exfalso; have h5 := b2_n0 h5; omega)
              | (
                  have h5 := b2_n0 h5
                  refine ex_k 5 (P := none) (g := (cod m1_jumpsOver 27, [some (.inl 7), some (.inr f), some (.inr (1 - cel (τ 4) (0 + f * 6 + 0))), some (.inr (v + 1)), some (.inr 0), some (.inr (cel (τ 4) (0 + f * 6 + 1))), some (.inr 3)], [.inr 1, .inr 3], τ)) rfl trivial ?_
                  refine ex_b (P := 1 < 3) (ct := (cod m1_jumpsOver 48, [some (.inl 7), some (.inr f), some (.inr (1 - cel (τ 4) (0 + f * 6 + 0))), some (.inr (v + 1)), some (.inr 0), some (.inr (cel (τ 4) (0 + f * 6 + 1))), some (.inr 3)], [], τ)) (cf := (cod m1_jumpsOver 28, [some (.inl 7), some (.inr f), some (.inr (1 - cel (τ 4) (0 + f * 6 + 0))), some (.inr (v + 1)), some (.inr 0), some (.inr (cel (τ 4) (0 + f * 6 + 1))), some (.inr 3)], [], τ)) rfl ⟨⟨by decide, by decide⟩, ⟨by decide, by decide⟩⟩ (fun _ => ?_) (fun hh => absurd (by decide) hh)
                  refine ex_k 4 (P := none) (g := (cod m1_jumpsOver 14, [some (.inl 7), some (.inr f), some (.inr (1 - cel (τ 4) (0 + f * 6 + 0))), some (.inr (v + 1)), some (.inr 1), some (.inr (cel (τ 4) (0 + f * 6 + 1))), some (.inr 3)], [.inr 2, .inr 1], τ)) rfl trivial ?_
                  refine ex_b (P := 2 ≤ 1) (ct := (cod m1_jumpsOver 50, [some (.inl 7), some (.inr f), some (.inr (1 - cel (τ 4) (0 + f * 6 + 0))), some (.inr (v + 1)), some (.inr 1), some (.inr (cel (τ 4) (0 + f * 6 + 1))), some (.inr 3)], [], τ)) (cf := (cod m1_jumpsOver 15, [some (.inl 7), some (.inr f), some (.inr (1 - cel (τ 4) (0 + f * 6 + 0))), some (.inr (v + 1)), some (.inr 1), some (.inr (cel (τ 4) (0 + f * 6 + 1))), some (.inr 3)], [], τ)) rfl ⟨⟨by decide, by decide⟩, ⟨by decide, by decide⟩⟩ (fun hh => absurd hh (by decide)) (fun _ => ?_)
                  refine ex_k 6 (P := none) (g := (cod m1_jumpsOver 21, [some (.inl 7), some (.inr f), some (.inr (1 - cel (τ 4) (0 + f * 6 + 0))), some (.inr (v + 1)), some (.inr 1), some (.inr (cel (τ 4) (0 + f * 6 + 1))), some (.inr 3)], [.inr 2, .inr f, .inl 1], τ)) rfl trivial ?_
                  refine ex_c (s_number (τ := τ) (f := f) (w := 2) (Or.inl ⟨rfl, rfl⟩) (by omega) (by omega)) (is := cod m1_jumpsOver 22) (L := [some (.inl 7), some (.inr f), some (.inr (1 - cel (τ 4) (0 + f * 6 + 0))), some (.inr (v + 1)), some (.inr 1), some (.inr (cel (τ 4) (0 + f * 6 + 1))), some (.inr 3)]) (st := []) rfl rfl rfl ?_
                  show Ex _ _ (cod m1_jumpsOver 22, [some (.inl 7), some (.inr f), some (.inr (1 - cel (τ 4) (0 + f * 6 + 0))), some (.inr (v + 1)), some (.inr 1), some (.inr (cel (τ 4) (0 + f * 6 + 1))), some (.inr 3)], [.inr (cel (τ 4) (0 + f * 6 + 2))], τ) _ _
                  refine ex_k 3 (P := none) (g := (cod m1_jumpsOver 25, [some (.inl 7), some (.inr f), some (.inr (1 - cel (τ 4) (0 + f * 6 + 0))), some (.inr (v + 1)), some (.inr 1), some (.inr (cel (τ 4) (0 + f * 6 + 2))), some (.inr (-1))], [], τ)) rfl trivial ?_
                  exact q2 _ (by first | exact cnt_t hv (by omega) | exact cnt_f hv (by omega))))
    have q0 : ∀ (v : Int), v = 0 → Ex 3 m1_jumpsOver (cod m1_jumpsOver 25, [some (.inl 7), some (.inr f), some (.inr (1 - cel (τ 4) (0 + f * 6 + 0))), some (.inr v), some (.inr 0), some (.inr (cel (τ 4) (0 + f * 6 + 1))), some (.inr (-1))], [], τ) 0 (.inl (some (.inr (jov (τ 4) f)), τ)) := by
      intro v hv
      refine ex_k 2 (P := none) (g := (cod m1_jumpsOver 27, [some (.inl 7), some (.inr f), some (.inr (1 - cel (τ 4) (0 + f * 6 + 0))), some (.inr v), some (.inr 0), some (.inr (cel (τ 4) (0 + f * 6 + 1))), some (.inr (-1))], [.inr 1, .inr (-1)], τ)) rfl trivial ?_
      refine ex_b (P := 1 < (-1)) (ct := (cod m1_jumpsOver 48, [some (.inl 7), some (.inr f), some (.inr (1 - cel (τ 4) (0 + f * 6 + 0))), some (.inr v), some (.inr 0), some (.inr (cel (τ 4) (0 + f * 6 + 1))), some (.inr (-1))], [], τ)) (cf := (cod m1_jumpsOver 28, [some (.inl 7), some (.inr f), some (.inr (1 - cel (τ 4) (0 + f * 6 + 0))), some (.inr v), some (.inr 0), some (.inr (cel (τ 4) (0 + f * 6 + 1))), some (.inr (-1))], [], τ)) rfl ⟨⟨by decide, by decide⟩, ⟨by decide, by decide⟩⟩ (fun hh => absurd hh (by decide)) (fun _ => ?_)
      refine ex_k 6 (P := none) (g := (cod m1_jumpsOver 34, [some (.inl 7), some (.inr f), some (.inr (1 - cel (τ 4) (0 + f * 6 + 0))), some (.inr v), some (.inr 0), some (.inr (cel (τ 4) (0 + f * 6 + 1))), some (.inr (-1))], [.inr ((cel (τ 4) (0 + f * 6 + 1)) + (-1)), .inr 0, .inl 1], τ)) rfl trivial ?_
      refine ex_c (s_isFree (τ := τ) (r := 0) (p := (cel (τ 4) (0 + f * 6 + 1)) + (-1)) (Or.inl ⟨rfl, rfl⟩) (by omega) ⟨by omega, by omega⟩ hS.bd) (is := cod m1_jumpsOver 35) (L := [some (.inl 7), some (.inr f), some (.inr (1 - cel (τ 4) (0 + f * 6 + 0))), some (.inr v), some (.inr 0), some (.inr (cel (τ 4) (0 + f * 6 + 1))), some (.inr (-1))]) (st := []) rfl rfl rfl ?_
      show Ex _ _ (cod m1_jumpsOver 35, [some (.inl 7), some (.inr f), some (.inr (1 - cel (τ 4) (0 + f * 6 + 0))), some (.inr v), some (.inr 0), some (.inr (cel (τ 4) (0 + f * 6 + 1))), some (.inr (-1))], [.inr (b2 ((0 ≤ ((cel (τ 4) (0 + f * 6 + 1)) + (-1)) ∧ ((cel (τ 4) (0 + f * 6 + 1)) + (-1)) < 12) ∧ cel (τ 4) (48 + 0 * 12 + ((cel (τ 4) (0 + f * 6 + 1)) + (-1))) = -1))], τ) _ _
      refine ex_b (P := (b2 ((0 ≤ ((cel (τ 4) (0 + f * 6 + 1)) + (-1)) ∧ ((cel (τ 4) (0 + f * 6 + 1)) + (-1)) < 12) ∧ cel (τ 4) (48 + 0 * 12 + ((cel (τ 4) (0 + f * 6 + 1)) + (-1))) = -1)) = 0) (ct := (cod m1_jumpsOver 46, [some (.inl 7), some (.inr f), some (.inr (1 - cel (τ 4) (0 + f * 6 + 0))), some (.inr v), some (.inr 0), some (.inr (cel (τ 4) (0 + f * 6 + 1))), some (.inr (-1))], [], τ)) (cf := (cod m1_jumpsOver 36, [some (.inl 7), some (.inr f), some (.inr (1 - cel (τ 4) (0 + f * 6 + 0))), some (.inr v), some (.inr 0), some (.inr (cel (τ 4) (0 + f * 6 + 1))), some (.inr (-1))], [], τ)) rfl b2_rng (fun h2 => ?_) (fun h2 => ?_)
      · first
        | (exfalso; have h2 := b2_e0 h2; omega)
        | (
            have h2 := b2_e0 h2
            refine ex_k 2 (P := none) (g := (cod m1_jumpsOver 25, [some (.inl 7), some (.inr f), some (.inr (1 - cel (τ 4) (0 + f * 6 + 0))), some (.inr v), some (.inr 0), some (.inr (cel (τ 4) (0 + f * 6 + 1))), some (.inr 1)], [], τ)) rfl trivial ?_
            exact q1 _ (by first | exact cnt_t hv (by omega) | exact cnt_f hv (by omega)))
      · first
        | (exfalso; have h2 := b2_n0 h2; omega)
        | (
            have h2 := b2_n0 h2
            refine ex_k 7 (P := none) (g := (cod m1_jumpsOver 43, [some (.inl 7), some (.inr f), some (.inr (1 - cel (τ 4) (0 + f * 6 + 0))), some (.inr v), some (.inr 0), some (.inr (cel (τ 4) (0 + f * 6 + 1))), some (.inr (-1))], [.inr (-1), .inr ((cel (τ 4) (0 + f * 6 + 1)) - (-1)), .inr 0, .inr (1 - cel (τ 4) (0 + f * 6 + 0)), .inl 7], τ)) rfl trivial ?_
            refine ex_c (s_canLeave (τ := τ) (x := 1 - cel (τ 4) (0 + f * 6 + 0)) (r := 0) (p := (cel (τ 4) (0 + f * 6 + 1)) - (-1)) (s := (-1)) (Or.inl ⟨rfl, rfl, rfl⟩) (by omega) (by omega) ⟨by omega, by omega⟩ (by omega) hS.cw) (is := cod m1_jumpsOver 44) (L := [some (.inl 7), some (.inr f), some (.inr (1 - cel (τ 4) (0 + f * 6 + 0))), some (.inr v), some (.inr 0), some (.inr (cel (τ 4) (0 + f * 6 + 1))), some (.inr (-1))]) (st := []) rfl rfl rfl ?_
            show Ex _ _ (cod m1_jumpsOver 44, [some (.inl 7), some (.inr f), some (.inr (1 - cel (τ 4) (0 + f * 6 + 0))), some (.inr v), some (.inr 0), some (.inr (cel (τ 4) (0 + f * 6 + 1))), some (.inr (-1))], [.inr (b2 ((¬ whz (τ 4) 0 ((cel (τ 4) (0 + f * 6 + 1)) - (-1)) = -1 ∧ ¬ whz (τ 4) 0 ((cel (τ 4) (0 + f * 6 + 1)) - (-1)) = 8 ∧ cel (τ 4) (0 + (whz (τ 4) 0 ((cel (τ 4) (0 + f * 6 + 1)) - (-1))) * 6 + 0) = (1 - cel (τ 4) (0 + f * 6 + 0)) ∧ ((cel (τ 4) (0 + (whz (τ 4) 0 ((cel (τ 4) (0 + f * 6 + 1)) - (-1))) * 6 + 0) = 0 ∧ (-1) = 1) ∨ (¬ cel (τ 4) (0 + (whz (τ 4) 0 ((cel (τ 4) (0 + f * 6 + 1)) - (-1))) * 6 + 0) = 0 ∧ (-1) = -1) ∨ cel (τ 4) (0 + (whz (τ 4) 0 ((cel (τ 4) (0 + f * 6 + 1)) - (-1))) * 6 + 3) = 1)) ∧ ¬ (((cel (τ 4) (0 + f * 6 + 1)) - (-1)) - cel (τ 4) (96 + 0) + 12) % 12 < cel (τ 4) (98 + 0)))], τ) _ _
            refine ex_b (P := (b2 ((¬ whz (τ 4) 0 ((cel (τ 4) (0 + f * 6 + 1)) - (-1)) = -1 ∧ ¬ whz (τ 4) 0 ((cel (τ 4) (0 + f * 6 + 1)) - (-1)) = 8 ∧ cel (τ 4) (0 + (whz (τ 4) 0 ((cel (τ 4) (0 + f * 6 + 1)) - (-1))) * 6 + 0) = (1 - cel (τ 4) (0 + f * 6 + 0)) ∧ ((cel (τ 4) (0 + (whz (τ 4) 0 ((cel (τ 4) (0 + f * 6 + 1)) - (-1))) * 6 + 0) = 0 ∧ (-1) = 1) ∨ (¬ cel (τ 4) (0 + (whz (τ 4) 0 ((cel (τ 4) (0 + f * 6 + 1)) - (-1))) * 6 + 0) = 0 ∧ (-1) = -1) ∨ cel (τ 4) (0 + (whz (τ 4) 0 ((cel (τ 4) (0 + f * 6 + 1)) - (-1))) * 6 + 3) = 1)) ∧ ¬ (((cel (τ 4) (0 + f * 6 + 1)) - (-1)) - cel (τ 4) (96 + 0) + 12) % 12 < cel (τ 4) (98 + 0))) = 0) (ct := (cod m1_jumpsOver 46, [some (.inl 7), some (.inr f), some (.inr (1 - cel (τ 4) (0 + f * 6 + 0))), some (.inr v), some (.inr 0), some (.inr (cel (τ 4) (0 + f * 6 + 1))), some (.inr (-1))], [], τ)) (cf := (cod m1_jumpsOver 45, [some (.inl 7), some (.inr f), some (.inr (1 - cel (τ 4) (0 + f * 6 + 0))), some (.inr v), some (.inr 0), some (.inr (cel (τ 4) (0 + f * 6 + 1))), some (.inr (-1))], [], τ)) rfl b2_rng (fun h3 => ?_) (fun h3 => ?_)
            · first
              | (exfalso; have h3 := b2_e0 h3; omega)
              | (
                  have h3 := b2_e0 h3
                  refine ex_k 2 (P := none) (g := (cod m1_jumpsOver 25, [some (.inl 7), some (.inr f), some (.inr (1 - cel (τ 4) (0 + f * 6 + 0))), some (.inr v), some (.inr 0), some (.inr (cel (τ 4) (0 + f * 6 + 1))), some (.inr 1)], [], τ)) rfl trivial ?_
                  exact q1 _ (by first | exact cnt_t hv (by omega) | exact cnt_f hv (by omega)))
            · first
              | (exfalso; have h3 := b2_n0 h3; omega)
              | (
                  have h3 := b2_n0 h3
                  refine ex_k 3 (P := none) (g := (cod m1_jumpsOver 25, [some (.inl 7), some (.inr f), some (.inr (1 - cel (τ 4) (0 + f * 6 + 0))), some (.inr (v + 1)), some (.inr 0), some (.inr (cel (τ 4) (0 + f * 6 + 1))), some (.inr 1)], [], τ)) rfl trivial ?_
                  exact q1 _ (by first | exact cnt_t hv (by omega) | exact cnt_f hv (by omega))))
    refine Ex.call ?_ rfl rfl
    show Ex _ _ (cod m1_jumpsOver 0, [some (.inl 7), some (.inr f), none, none, none, none, none], [], τ) _ _
    refine ex_k 5 (P := none) (g := (cod m1_jumpsOver 5, [some (.inl 7), some (.inr f), none, none, none, none, none], [.inr 0, .inr f, .inl 1, .inr 1], τ)) rfl trivial ?_
    refine ex_c (s_number (τ := τ) (f := f) (w := 0) (Or.inl ⟨rfl, rfl⟩) (by omega) (by omega)) (is := cod m1_jumpsOver 6) (L := [some (.inl 7), some (.inr f), none, none, none, none, none]) (st := [.inr 1]) rfl rfl rfl ?_
    show Ex _ _ (cod m1_jumpsOver 6, [some (.inl 7), some (.inr f), none, none, none, none, none], [.inr (cel (τ 4) (0 + f * 6 + 0)), .inr 1], τ) _ _
    refine ex_k 8 (P := none) (g := (cod m1_jumpsOver 14, [some (.inl 7), some (.inr f), some (.inr (1 - (cel (τ 4) (0 + f * 6 + 0)))), some (.inr 0), some (.inr 0), none, none], [.inr 2, .inr 0], τ)) rfl trivial ?_
    refine ex_b (P := 2 ≤ 0) (ct := (cod m1_jumpsOver 50, [some (.inl 7), some (.inr f), some (.inr (1 - (cel (τ 4) (0 + f * 6 + 0)))), some (.inr 0), some (.inr 0), none, none], [], τ)) (cf := (cod m1_jumpsOver 15, [some (.inl 7), some (.inr f), some (.inr (1 - (cel (τ 4) (0 + f * 6 + 0)))), some (.inr 0), some (.inr 0), none, none], [], τ)) rfl ⟨⟨by decide, by decide⟩, ⟨by decide, by decide⟩⟩ (fun hh => absurd hh (by decide)) (fun _ => ?_)
    refine ex_k 6 (P := none) (g := (cod m1_jumpsOver 21, [some (.inl 7), some (.inr f), some (.inr (1 - (cel (τ 4) (0 + f * 6 + 0)))), some (.inr 0), some (.inr 0), none, none], [.inr 1, .inr f, .inl 1], τ)) rfl trivial ?_
    refine ex_c (s_number (τ := τ) (f := f) (w := 1) (Or.inl ⟨rfl, rfl⟩) (by omega) (by omega)) (is := cod m1_jumpsOver 22) (L := [some (.inl 7), some (.inr f), some (.inr (1 - (cel (τ 4) (0 + f * 6 + 0)))), some (.inr 0), some (.inr 0), none, none]) (st := []) rfl rfl rfl ?_
    show Ex _ _ (cod m1_jumpsOver 22, [some (.inl 7), some (.inr f), some (.inr (1 - (cel (τ 4) (0 + f * 6 + 0)))), some (.inr 0), some (.inr 0), none, none], [.inr (cel (τ 4) (0 + f * 6 + 1))], τ) _ _
    refine ex_k 3 (P := none) (g := (cod m1_jumpsOver 25, [some (.inl 7), some (.inr f), some (.inr (1 - (cel (τ 4) (0 + f * 6 + 0)))), some (.inr 0), some (.inr 0), some (.inr (cel (τ 4) (0 + f * 6 + 1))), some (.inr (-1))], [], τ)) rfl trivial ?_
    exact q0 0 rfl
  · have hsd := hS.sd hf
    have hp1 := hS.p1 hf
    have hp2 := hS.p2 hf
    have q3 : ∀ (v : Int), v = 0 + b2 (((0 ≤ (cel (τ 5) (0 + f * 6 + 1) + (-1)) ∧ (cel (τ 5) (0 + f * 6 + 1) + (-1)) < 12) ∧ cel (τ 5) (48 + 0 * 12 + (cel (τ 5) (0 + f * 6 + 1) + (-1))) = -1) ∧ ((¬ whz (τ 5) 0 (cel (τ 5) (0 + f * 6 + 1) - (-1)) = -1 ∧ ¬ whz (τ 5) 0 (cel (τ 5) (0 + f * 6 + 1) - (-1)) = 8 ∧ cel (τ 5) (0 + (whz (τ 5) 0 (cel (τ 5) (0 + f * 6 + 1) - (-1))) * 6 + 0) = (1 - cel (τ 5) (0 + f * 6 + 0)) ∧ ((cel (τ 5) (0 + (whz (τ 5) 0 (cel (τ 5) (0 + f * 6 + 1) - (-1))) * 6 + 0) = 0 ∧ (-1) = 1) ∨ (¬ cel (τ 5) (0 + (whz (τ 5) 0 (cel (τ 5) (0 + f * 6 + 1) - (-1))) * 6 + 0) = 0 ∧ (-1) = -1) ∨ cel (τ 5) (0 + (whz (τ 5) 0 (cel (τ 5) (0 + f * 6 + 1) - (-1))) * 6 + 3) = 1)) ∧ ¬ ((cel (τ 5) (0 + f * 6 + 1) - (-1)) - cel (τ 5) (96 + 0) + 12) % 12 < cel (τ 5) (98 + 0))) + b2 (((0 ≤ (cel (τ 5) (0 + f * 6 + 1) + 1) ∧ (cel (τ 5) (0 + f * 6 + 1) + 1) < 12) ∧ cel (τ 5) (48 + 0 * 12 + (cel (τ 5) (0 + f * 6 + 1) + 1)) = -1) ∧ ((¬ whz (τ 5) 0 (cel (τ 5) (0 + f * 6 + 1) - 1) = -1 ∧ ¬ whz (τ 5) 0 (cel (τ 5) (0 + f * 6 + 1) - 1) = 8 ∧ cel (τ 5) (0 + (whz (τ 5) 0 (cel (τ 5) (0 + f * 6 + 1) - 1)) * 6 + 0) = (1 - cel (τ 5) (0 + f * 6 + 0)) ∧ ((cel (τ 5) (0 + (whz (τ 5) 0 (cel (τ 5) (0 + f * 6 + 1) - 1)) * 6 + 0) = 0 ∧ 1 = 1) ∨ (¬ cel (τ 5) (0 + (whz (τ 5) 0 (cel (τ 5) (0 + f * 6 + 1) - 1)) * 6 + 0) = 0 ∧ 1 = -1) ∨ cel (τ 5) (0 + (whz (τ 5) 0 (cel (τ 5) (0 + f * 6 + 1) - 1)) * 6 + 3) = 1)) ∧ ¬ ((cel (τ 5) (0 + f * 6 + 1) - 1) - cel (τ 5) (96 + 0) + 12) % 12 < cel (τ 5) (98 + 0))) + b2 (((0 ≤ (cel (τ 5) (0 + f * 6 + 2) + (-1)) ∧ (cel (τ 5) (0 + f * 6 + 2) + (-1)) < 12) ∧ cel (τ 5) (48 + 1 * 12 + (cel (τ 5) (0 + f * 6 + 2) + (-1))) = -1) ∧ ((¬ whz (τ 5) 1 (cel (τ 5) (0 + f * 6 + 2) - (-1)) = -1 ∧ ¬ whz (τ 5) 1 (cel (τ 5) (0 + f * 6 + 2) - (-1)) = 8 ∧ cel (τ 5) (0 + (whz (τ 5) 1 (cel (τ 5) (0 + f * 6 + 2) - (-1))) * 6 + 0) = (1 - cel (τ 5) (0 + f * 6 + 0)) ∧ ((cel (τ 5) (0 + (whz (τ 5) 1 (cel (τ 5) (0 + f * 6 + 2) - (-1))) * 6 + 0) = 0 ∧ (-1) = 1) ∨ (¬ cel (τ 5) (0 + (whz (τ 5) 1 (cel (τ 5) (0 + f * 6 + 2) - (-1))) * 6 + 0) = 0 ∧ (-1) = -1) ∨ cel (τ 5) (0 + (whz (τ 5) 1 (cel (τ 5) (0 + f * 6 + 2) - (-1))) * 6 + 3) = 1)) ∧ ¬ ((cel (τ 5) (0 + f * 6 + 2) - (-1)) - cel (τ 5) (96 + 1) + 12) % 12 < cel (τ 5) (98 + 1))) → Ex 3 m1_jumpsOver (cod m1_jumpsOver 25, [some (.inl 8), some (.inr f), some (.inr (1 - cel (τ 5) (0 + f * 6 + 0))), some (.inr v), some (.inr 1), some (.inr (cel (τ 5) (0 + f * 6 + 2))), some (.inr 1)], [], τ) 0 (.inl (some (.inr (jov (τ 5) f)), τ)) := by
      intro v hv
      refine ex_k 2 (P := none) (g := (cod m1_jumpsOver 27, [some (.inl 8), some (.inr f), some (.inr (1 - cel (τ 5) (0 + f * 6 + 0))), some (.inr v), some (.inr 1), some (.inr (cel (τ 5) (0 + f * 6 + 2))), some (.inr 1)], [.inr 1, .inr 1], τ)) rfl trivial ?_
      refine ex_b (P := 1 < 1) (ct := (cod m1_jumpsOver 48, [some (.inl 8), some (.inr f), some (.inr (1 - cel (τ 5) (0 + f * 6 + 0))), some (.inr v), some (.inr 1), some (.inr (cel (τ 5) (0 + f * 6 + 2))), some (.inr 1)], [], τ)) (cf := (cod m1_jumpsOver 28, [some (.inl 8), some (.inr f), some (.inr (1 - cel (τ 5) (0 + f * 6 + 0))), some (.inr v), some (.inr 1), some (.inr (cel (τ 5) (0 + f * 6 + 2))), some (.inr 1)], [], τ)) rfl ⟨⟨by decide, by decide⟩, ⟨by decide, by decide⟩⟩ (fun hh => absurd hh (by decide)) (fun _ => ?_)
      refine ex_k 6 (P := none) (g := (cod m1_jumpsOver 34, [some (.inl 8), some (.inr f), some (.inr (1 - cel (τ 5) (0 + f * 6 + 0))), some (.inr v), some (.inr 1), some (.inr (cel (τ 5) (0 + f * 6 + 2))), some (.inr 1)], [.inr ((cel (τ 5) (0 + f * 6 + 2)) + 1), .inr 1, .inl 2], τ)) rfl trivial ?_
      refine ex_c (s_isFree (τ := τ) (r := 1) (p := (cel (τ 5) (0 + f * 6 + 2)) + 1) (Or.inr (Or.inl ⟨rfl, rfl⟩)) (by omega) ⟨by omega, by omega⟩ hS.bd) (is := cod m1_jumpsOver 35) (L := [some (.inl 8), some (.inr f), some (.inr (1 - cel (τ 5) (0 + f * 6 + 0))), some (.inr v), some (.inr 1), some (.inr (cel (τ 5) (0 + f * 6 + 2))), some (.inr 1)]) (st := []) rfl rfl rfl ?_
      show Ex _ _ (cod m1_jumpsOver 35, [some (.inl 8), some (.inr f), some (.inr (1 - cel (τ 5) (0 + f * 6 + 0))), some (.inr v), some (.inr 1), some (.inr (cel (τ 5) (0 + f * 6 + 2))), some (.inr 1)], [.inr (b2 ((0 ≤ ((cel (τ 5) (0 + f * 6 + 2)) + 1) ∧ ((cel (τ 5) (0 + f * 6 + 2)) + 1) < 12) ∧ cel (τ 5) (48 + 1 * 12 + ((cel (τ 5) (0 + f * 6 + 2)) + 1)) = -1))], τ) _ _
      refine ex_b (P := (b2 ((0 ≤ ((cel (τ 5) (0 + f * 6 + 2)) + 1) ∧ ((cel (τ 5) (0 + f * 6 + 2)) + 1) < 12) ∧ cel (τ 5) (48 + 1 * 12 + ((cel (τ 5) (0 + f * 6 + 2)) + 1)) = -1)) = 0) (ct := (cod m1_jumpsOver 46, [some (.inl 8), some (.inr f), some (.inr (1 - cel (τ 5) (0 + f * 6 + 0))), some (.inr v), some (.inr 1), some (.inr (cel (τ 5) (0 + f * 6 + 2))), some (.inr 1)], [], τ)) (cf := (cod m1_jumpsOver 36, [some (.inl 8), some (.inr f), some (.inr (1 - cel (τ 5) (0 + f * 6 + 0))), some (.inr v), some (.inr 1), some (.inr (cel (τ 5) (0 + f * 6 + 2))), some (.inr 1)], [], τ)) rfl b2_rng (fun h2 => ?_) (fun h2 => ?_)
      · first
        | (exfalso; have h2 := b2_e0 h2; omega)
        | (
            have h2 := b2_e0 h2
            refine ex_k 4 (P := none) (g := (cod m1_jumpsOver 27, [some (.inl 8), some (.inr f), some (.inr (1 - cel (τ 5) (0 + f * 6 + 0))), some (.inr v), some (.inr 1), some (.inr (cel (τ 5) (0 + f * 6 + 2))), some (.inr 3)], [.inr 1, .inr 3], τ)) rfl trivial ?_
            refine ex_b (P := 1 < 3) (ct := (cod m1_jumpsOver 48, [some (.inl 8), some (.inr f), some (.inr (1 - cel (τ 5) (0 + f * 6 + 0))), some (.inr v), some (.inr 1), some (.inr (cel (τ 5) (0 + f * 6 + 2))), some (.inr 3)], [], τ)) (cf := (cod m1_jumpsOver 28, [some (.inl 8), some (.inr f), some (.inr (1 - cel (τ 5) (0 + f * 6 + 0))), some (.inr v), some (.inr 1), some (.inr (cel (τ 5) (0 + f * 6 + 2))), some (.inr 3)], [], τ)) rfl ⟨⟨by decide, by decide⟩, ⟨by decide, by decide⟩⟩ (fun _ => ?_) (fun hh => absurd (by decide) hh)
            refine ex_k 4 (P := none) (g := (cod m1_jumpsOver 14, [some (.inl 8), some (.inr f), some (.inr (1 - cel (τ 5) (0 + f * 6 + 0))), some (.inr v), some (.inr 2), some (.inr (cel (τ 5) (0 + f * 6 + 2))), some (.inr 3)], [.inr 2, .inr 2], τ)) rfl trivial ?_
            refine ex_b (P := 2 ≤ 2) (ct := (cod m1_jumpsOver 50, [some (.inl 8), some (.inr f), some (.inr (1 - cel (τ 5) (0 + f * 6 + 0))), some (.inr v), some (.inr 2), some (.inr (cel (τ 5) (0 + f * 6 + 2))), some (.inr 3)], [], τ)) (cf := (cod m1_jumpsOver 15, [some (.inl 8), some (.inr f), some (.inr (1 - cel (τ 5) (0 + f * 6 + 0))), some (.inr v), some (.inr 2), some (.inr (cel (τ 5) (0 + f * 6 + 2))), some (.inr 3)], [], τ)) rfl ⟨⟨by decide, by decide⟩, ⟨by decide, by decide⟩⟩ (fun _ => ?_) (fun hh => absurd (by decide) hh)
            refine ex_k 1 (P := none) (g := (cod m1_jumpsOver 51, [some (.inl 8), some (.inr f), some (.inr (1 - cel (τ 5) (0 + f * 6 + 0))), some (.inr v), some (.inr 2), some (.inr (cel (τ 5) (0 + f * 6 + 2))), some (.inr 3)], [.inr v], τ)) rfl trivial ?_
            exact ex_r rfl trivial rfl (rI (by unfold jov; first | exact (cnt_t hv (by omega)).symm | exact (cnt_f hv (by omega)).symm)))
      · first
        | (exfalso; have h2 := b2_n0 h2; omega)
        | (
            have h2 := b2_n0 h2
            refine ex_k 7 (P := none) (g := (cod m1_jumpsOver 43, [some (.inl 8), some (.inr f), some (.inr (1 - cel (τ 5) (0 + f * 6 + 0))), some (.inr v), some (.inr 1), some (.inr (cel (τ 5) (0 + f * 6 + 2))), some (.inr 1)], [.inr 1, .inr ((cel (τ 5) (0 + f * 6 + 2)) - 1), .inr 1, .inr (1 - cel (τ 5) (0 + f * 6 + 0)), .inl 8], τ)) rfl trivial ?_
            refine ex_c (s_canLeave (τ := τ) (x := 1 - cel (τ 5) (0 + f * 6 + 0)) (r := 1) (p := (cel (τ 5) (0 + f * 6 + 2)) - 1) (s := 1) (Or.inr ⟨rfl, rfl, rfl⟩) (by omega) (by omega) ⟨by omega, by omega⟩ (by omega) hS.cw) (is := cod m1_jumpsOver 44) (L := [some (.inl 8), some (.inr f), some (.inr (1 - cel (τ 5) (0 + f * 6 + 0))), some (.inr v), some (.inr 1), some (.inr (cel (τ 5) (0 + f * 6 + 2))), some (.inr 1)]) (st := []) rfl rfl rfl ?_
            show Ex _ _ (cod m1_jumpsOver 44, [some (.inl 8), some (.inr f), some (.inr (1 - cel (τ 5) (0 + f * 6 + 0))), some (.inr v), some (.inr 1), some (.inr (cel (τ 5) (0 + f * 6 + 2))), some (.inr 1)], [.inr (b2 ((¬ whz (τ 5) 1 ((cel (τ 5) (0 + f * 6 + 2)) - 1) = -1 ∧ ¬ whz (τ 5) 1 ((cel (τ 5) (0 + f * 6 + 2)) - 1) = 8 ∧ cel (τ 5) (0 + (whz (τ 5) 1 ((cel (τ 5) (0 + f * 6 + 2)) - 1)) * 6 + 0) = (1 - cel (τ 5) (0 + f * 6 + 0)) ∧ ((cel (τ 5) (0 + (whz (τ 5) 1 ((cel (τ 5) (0 + f * 6 + 2)) - 1)) * 6 + 0) = 0 ∧ 1 = 1) ∨ (¬ cel (τ 5) (0 + (whz (τ 5) 1 ((cel (τ 5) (0 + f * 6 + 2)) - 1)) * 6 + 0) = 0 ∧ 1 = -1) ∨ cel (τ 5) (0 + (whz (τ 5) 1 ((cel (τ 5) (0 + f * 6 + 2)) - 1)) * 6 + 3) = 1)) ∧ ¬ (((cel (τ 5) (0 + f * 6 + 2)) - 1) - cel (τ 5) (96 + 1) + 12) % 12 < cel (τ 5) (98 + 1)))], τ) _ _
            refine ex_b (P := (b2 ((¬ whz (τ 5) 1 ((cel (τ 5) (0 + f * 6 + 2)) - 1) = -1 ∧ ¬ whz (τ 5) 1 ((cel (τ 5) (0 + f * 6 + 2)) - 1) = 8 ∧ cel (τ 5) (0 + (whz (τ 5) 1 ((cel (τ 5) (0 + f * 6 + 2)) - 1)) * 6 + 0) = (1 - cel (τ 5) (0 + f * 6 + 0)) ∧ ((cel (τ 5) (0 + (whz (τ 5) 1 ((cel (τ 5) (0 + f * 6 + 2)) - 1)) * 6 + 0) = 0 ∧ 1 = 1) ∨ (¬ cel (τ 5) (0 + (whz (τ 5) 1 ((cel (τ 5) (0 + f * 6 + 2)) - 1)) * 6 + 0) = 0 ∧ 1 = -1) ∨ cel (τ 5) (0 + (whz (τ 5) 1 ((cel (τ 5) (0 + f * 6 + 2)) - 1)) * 6 + 3) = 1)) ∧ ¬ (((cel (τ 5) (0 + f * 6 + 2)) - 1) - cel (τ 5) (96 + 1) + 12) % 12 < cel (τ 5) (98 + 1))) = 0) (ct := (cod m1_jumpsOver 46, [some (.inl 8), some (.inr f), some (.inr (1 - cel (τ 5) (0 + f * 6 + 0))), some (.inr v), some (.inr 1), some (.inr (cel (τ 5) (0 + f * 6 + 2))), some (.inr 1)], [], τ)) (cf := (cod m1_jumpsOver 45, [some (.inl 8), some (.inr f), some (.inr (1 - cel (τ 5) (0 + f * 6 + 0))), some (.inr v), some (.inr 1), some (.inr (cel (τ 5) (0 + f * 6 + 2))), some (.inr 1)], [], τ)) rfl b2_rng (fun h5 => ?_) (fun h5 => ?_)
            · first
              | (exfalso; have h5 := b2_e0 h5; omega)
              | (
                  have h5 := b2_e0 h5
                  refine ex_k 4 (P := none) (g := (cod m1_jumpsOver 27, [some (.inl 8), some (.inr f), some (.inr (1 - cel (τ 5) (0 + f * 6 + 0))), some (.inr v), some (.inr 1), some (.inr (cel (τ 5) (0 + f * 6 + 2))), some (.inr 3)], [.inr 1, .inr 3], τ)) rfl trivial ?_
                  refine ex_b (P := 1 < 3) (ct := (cod m1_jumpsOver 48, [some (.inl 8), some (.inr f), some (.inr (1 - cel (τ 5) (0 + f * 6 + 0))), some (.inr v), some (.inr 1), some (.inr (cel (τ 5) (0 + f * 6 + 2))), some (.inr 3)], [], τ)) (cf := (cod m1_jumpsOver 28, [some (.inl 8), some (.inr f), some (.inr (1 - cel (τ 5) (0 + f * 6 + 0))), some (.inr v), some (.inr 1), some (.inr (cel (τ 5) (0 + f * 6 + 2))), some (.inr 3)], [], τ)) rfl ⟨⟨by decide, by decide⟩, ⟨by decide, by decide⟩⟩ (fun _ => ?_) (fun hh => absurd (by decide) hh)
                  refine ex_k 4 (P := none) (g := (cod m1_jumpsOver 14, [some (.inl 8), some (.inr f), some (.inr (1 - cel (τ 5) (0 + f * 6 + 0))), some (.inr v), some (.inr 2), some (.inr (cel (τ 5) (0 + f * 6 + 2))), some (.inr 3)], [.inr 2, .inr 2], τ)) rfl trivial ?_
                  refine ex_b (P := 2 ≤ 2) (ct := (cod m1_jumpsOver 50, [some (.inl 8), some (.inr f), some (.inr (1 - cel (τ 5) (0 + f * 6 + 0))), some (.inr v), some (.inr 2), some (.inr (cel (τ 5) (0 + f * 6 + 2))), some (.inr 3)], [], τ)) (cf := (cod m1_jumpsOver 15, [some (.inl 8), some (.inr f), some (.inr (1 - cel (τ 5) (0 + f * 6 + 0))), some (.inr v), some (.inr 2), some (.inr (cel (τ 5) (0 + f * 6 + 2))), some (.inr 3)], [], τ)) rfl ⟨⟨by decide, by decide⟩, ⟨by decide, by decide⟩⟩ (fun _ => ?_) (fun hh => absurd (by decide) hh)
                  refine ex_k 1 (P := none) (g := (cod m1_jumpsOver 51, [some (.inl 8), some (.inr f), some (.inr (1 - cel (τ 5) (0 + f * 6 + 0))), some (.inr v), some (.inr 2), some (.inr (cel (τ 5) (0 + f * 6 + 2))), some (.inr 3)], [.inr v], τ)) rfl trivial ?_
                  exact ex_r rfl trivial rfl (rI (by unfold jov; first | exact (cnt_t hv (by omega)).symm | exact (cnt_f hv (by omega)).symm)))
            · first
              | (exfalso; have h5 := b2_n0 h5; omega)
              | (
                  have h5 := b2_n0 h5
                  refine ex_k 5 (P := none) (g := (cod m1_jumpsOver 27, [some (.inl 8), some (.inr f), some (.inr (1 - cel (τ 5) (0 + f * 6 + 0))), some (.inr (v + 1)), some (.inr 1), some (.inr (cel (τ 5) (0 + f * 6 + 2))), some (.inr 3)], [.inr 1, .inr 3], τ)) rfl trivial ?_
                  refine ex_b (P := 1 < 3) (ct := (cod m1_jumpsOver 48, [some (.inl 8), some (.inr f), some (.inr (1 - cel (τ 5) (0 + f * 6 + 0))), some (.inr (v + 1)), some (.inr 1), some (.inr (cel (τ 5) (0 + f * 6 + 2))), some (.inr 3)], [], τ)) (cf := (cod m1_jumpsOver 28, [some (.inl 8), some (.inr f), some (.inr (1 - cel (τ 5) (0 + f * 6 + 0))), some (.inr (v + 1)), some (.inr 1), some (.inr (cel (τ 5) (0 + f * 6 + 2))), some (.inr 3)], [], τ)) rfl ⟨⟨by decide, by decide⟩, ⟨by decide, by decide⟩⟩ (fun _ => ?_) (fun hh => absurd (by decide) hh)
                  refine ex_k 4 (P := none) (g := (cod m1_jumpsOver 14, [some (.inl 8), some (.inr f), some (.inr (1 - cel (τ 5) (0 + f * 6 + 0))), some (.inr (v + 1)), some (.inr 2), some (.inr (cel (τ 5) (0 + f * 6 + 2))), some (.inr 3)], [.inr 2, .inr 2], τ)) rfl trivial ?_
                  refine ex_b (P := 2 ≤ 2) (ct := (cod m1_jumpsOver 50, [some (.inl 8), some (.inr f), some (.inr (1 - cel (τ 5) (0 + f * 6 + 0))), some (.inr (v + 1)), some (.inr 2), some (.inr (cel (τ 5) (0 + f * 6 + 2))), some (.inr 3)], [], τ)) (cf := (cod m1_jumpsOver 15, [some (.inl 8), some (.inr f), some (.inr (1 - cel (τ 5) (0 + f * 6 + 0))), some (.inr (v + 1)), some (.inr 2), some (.inr (cel (τ 5) (0 + f * 6 + 2))), some (.inr 3)], [], τ)) rfl ⟨⟨by decide, by decide⟩, ⟨by decide, by decide⟩⟩ (fun _ => ?_) (fun hh => absurd (by decide) hh)
                  refine ex_k 1 (P := none) (g := (cod m1_jumpsOver 51, [some (.inl 8), some (.inr f), some (.inr (1 - cel (τ 5) (0 + f * 6 + 0))), some (.inr (v + 1)), some (.inr 2), some (.inr (cel (τ 5) (0 + f * 6 + 2))), some (.inr 3)], [.inr (v + 1)], τ)) rfl trivial ?_
                  exact ex_r rfl trivial rfl (rI (by unfold jov; first | exact (cnt_t hv (by omega)).symm | exact (cnt_f hv (by omega)).symm))))
    have q2 : ∀ (v : Int), v = 0 + b2 (((0 ≤ (cel (τ 5) (0 + f * 6 + 1) + (-1)) ∧ (cel (τ 5) (0 + f * 6 + 1) + (-1)) < 12) ∧ cel (τ 5) (48 + 0 * 12 + (cel (τ 5) (0 + f * 6 + 1) + (-1))) = -1) ∧ ((¬ whz (τ 5) 0 (cel (τ 5) (0 + f * 6 + 1) - (-1)) = -1 ∧ ¬ whz (τ 5) 0 (cel (τ 5) (0 + f * 6 + 1) - (-1)) = 8 ∧ cel (τ 5) (0 + (whz (τ 5) 0 (cel (τ 5) (0 + f * 6 + 1) - (-1))) * 6 + 0) = (1 - cel (τ 5) (0 + f * 6 + 0)) ∧ ((cel (τ 5) (0 + (whz (τ 5) 0 (cel (τ 5) (0 + f * 6 + 1) - (-1))) * 6 + 0) = 0 ∧ (-1) = 1) ∨ (¬ cel (τ 5) (0 + (whz (τ 5) 0 (cel (τ 5) (0 + f * 6 + 1) - (-1))) * 6 + 0) = 0 ∧ (-1) = -1) ∨ cel (τ 5) (0 + (whz (τ 5) 0 (cel (τ 5) (0 + f * 6 + 1) - (-1))) * 6 + 3) = 1)) ∧ ¬ ((cel (τ 5) (0 + f * 6 + 1) - (-1)) - cel (τ 5) (96 + 0) + 12) % 12 < cel (τ 5) (98 + 0))) + b2 (((0 ≤ (cel (τ 5) (0 + f * 6 + 1) + 1) ∧ (cel (τ 5) (0 + f * 6 + 1) + 1) < 12) ∧ cel (τ 5) (48 + 0 * 12 + (cel (τ 5) (0 + f * 6 + 1) + 1)) = -1) ∧ ((¬ whz (τ 5) 0 (cel (τ 5) (0 + f * 6 + 1) - 1) = -1 ∧ ¬ whz (τ 5) 0 (cel (τ 5) (0 + f * 6 + 1) - 1) = 8 ∧ cel (τ 5) (0 + (whz (τ 5) 0 (cel (τ 5) (0 + f * 6 + 1) - 1)) * 6 + 0) = (1 - cel (τ 5) (0 + f * 6 + 0)) ∧ ((cel (τ 5) (0 + (whz (τ 5) 0 (cel (τ 5) (0 + f * 6 + 1) - 1)) * 6 + 0) = 0 ∧ 1 = 1) ∨ (¬ cel (τ 5) (0 + (whz (τ 5) 0 (cel (τ 5) (0 + f * 6 + 1) - 1)) * 6 + 0) = 0 ∧ 1 = -1) ∨ cel (τ 5) (0 + (whz (τ 5) 0 (cel (τ 5) (0 + f * 6 + 1) - 1)) * 6 + 3) = 1)) ∧ ¬ ((cel (τ 5) (0 + f * 6 + 1) - 1) - cel (τ 5) (96 + 0) + 12) % 12 < cel (τ 5) (98 + 0))) → Ex 3 m1_jumpsOver (cod m1_jumpsOver 25, [some (.inl 8), some (.inr f), some (.inr (1 - cel (τ 5) (0 + f * 6 + 0))), some (.inr v), some (.inr 1), some (.inr (cel (τ 5) (0 + f * 6 + 2))), some (.inr (-1))], [], τ) 0 (.inl (some (.inr (jov (τ 5) f)), τ)) := by
      intro v hv
      refine ex_k 2 (P := none) (g := (cod m1_jumpsOver 27, [some (.inl 8), some (.inr f), some (.inr (1 - cel (τ 5) (0 + f * 6 + 0))), some (.inr v), some (.inr 1), some (.inr (cel (τ 5) (0 + f * 6 + 2))), some (.inr (-1))], [.inr 1, .inr (-1)], τ)) rfl trivial ?_
      refine ex_b (P := 1 < (-1)) (ct := (cod m1_jumpsOver 48, [some (.inl 8), some (.inr f), some (.inr (1 - cel (τ 5) (0 + f * 6 + 0))), some (.inr v), some (.inr 1), some (.inr (cel (τ 5) (0 + f * 6 + 2))), some (.inr (-1))], [], τ)) (cf := (cod m1_jumpsOver 28, [some (.inl 8), some (.inr f), some (.inr (1 - cel (τ 5) (0 + f * 6 + 0))), some (.inr v), some (.inr 1), some (.inr (cel (τ 5) (0 + f * 6 + 2))), some (.inr (-1))], [], τ)) rfl ⟨⟨by decide, by decide⟩, ⟨by decide, by decide⟩⟩ (fun hh => absurd hh (by decide)) (fun _ => ?_)
      refine ex_k 6 (P := none) (g := (cod m1_jumpsOver 34, [some (.inl 8), some (.inr f), some (.inr (1 - cel (τ 5) (0 + f * 6 + 0))), some (.inr v), some (.inr 1), some (.inr (cel (τ 5) (0 + f * 6 + 2))), some (.inr (-1))], [.inr ((cel (τ 5) (0 + f * 6 + 2)) + (-1)), .inr 1, .inl 2], τ)) rfl trivial ?_
      refine ex_c (s_isFree (τ := τ) (r := 1) (p := (cel (τ 5) (0 + f * 6 + 2)) + (-1)) (Or.inr (Or.inl ⟨rfl, rfl⟩)) (by omega) ⟨by omega, by omega⟩ hS.bd) (is := cod m1_jumpsOver 35) (L := [some (.inl 8), some (.inr f), some (.inr (1 - cel (τ 5) (0 + f * 6 + 0))), some (.inr v), some (.inr 1), some (.inr (cel (τ 5) (0 + f * 6 + 2))), some (.inr (-1))]) (st := []) rfl rfl rfl ?_
      show Ex _ _ (cod m1_jumpsOver 35, [some (.inl 8), some (.inr f), some (.inr (1 - cel (τ 5) (0 + f * 6 + 0))), some (.inr v), some (.inr 1), some (.inr (cel (τ 5) (0 + f * 6 + 2))), some (.inr (-1))], [.inr (b2 ((0 ≤ ((cel (τ 5) (0 + f * 6 + 2)) + (-1)) ∧ ((cel (τ 5) (0 + f * 6 + 2)) + (-1)) < 12) ∧ cel (τ 5) (48 + 1 * 12 + ((cel (τ 5) (0 + f * 6 + 2)) + (-1))) = -1))], τ) _ _
      refine ex_b (P := (b2 ((0 ≤ ((cel (τ 5) (0 + f * 6 + 2)) + (-1)) ∧ ((cel (τ 5) (0 + f * 6 + 2)) + (-1)) < 12) ∧ cel (τ 5) (48 + 1 * 12 + ((cel (τ 5) (0 + f * 6 + 2)) + (-1))) = -1)) = 0) (ct := (cod m1_jumpsOver 46, [some (.inl 8), some (.inr f), some (.inr (1 - cel (τ 5) (0 + f * 6 + 0))), some (.inr v), some (.inr 1), some (.inr (cel (τ 5) (0 + f * 6 + 2))), some (.inr (-1))], [], τ)) (cf := (cod m1_jumpsOver 36, [some (.inl 8), some (.inr f), some (.inr (1 - cel (τ 5) (0 + f * 6 + 0))), some (.inr v), some (.inr 1), some (.inr (cel (τ 5) (0 + f * 6 + 2))), some (.inr (-1))], [], τ)) rfl b2_rng (fun h2 => ?_) (fun h2 => ?_)
      · first
        | (exfalso; have h2 := b2_e0 h2; omega)
        | (
            have h2 := b2_e0 h2
            refine ex_k 2 (P := none) (g := (cod m1_jumpsOver 25, [some (.inl 8), some (.inr f), some (.inr (1 - cel (τ 5) (0 + f * 6 + 0))), some (.inr v), some (.inr 1), some (.inr (cel (τ 5) (0 + f * 6 + 2))), some (.inr 1)], [], τ)) rfl trivial ?_
            exact q3 _ (by first | exact cnt_t hv (by omega) | exact cnt_f hv (by omega)))
      · first
        | (exfalso; have h2 := b2_n0 h2; omega)
        | (
            have h2 := b2_n0 h2
            refine ex_k 7 (P := none) (g := (cod m1_jumpsOver 43, [some (.inl 8), some (.inr f), some (.inr (1 - cel (τ 5) (0 + f * 6 + 0))), some (.inr v), some (.inr 1), some (.inr (cel (τ 5) (0 + f * 6 + 2))), some (.inr (-1))], [.inr (-1), .inr ((cel (τ 5) (0 + f * 6 + 2)) - (-1)), .inr 1, .inr (1 - cel (τ 5) (0 + f * 6 + 0)), .inl 8], τ)) rfl trivial ?_
            refine ex_c (s_canLeave (τ := τ) (x := 1 - cel (τ 5) (0 + f * 6 + 0)) (r := 1) (p := (cel (τ 5) (0 + f * 6 + 2)) - (-1)) (s := (-1)) (Or.inr ⟨rfl, rfl, rfl⟩) (by omega) (by omega) ⟨by omega, by omega⟩ (by omega) hS.cw) (is := cod m1_jumpsOver 44) (L := [some (.inl 8), some (.inr f), some (.inr (1 - cel (τ 5) (0 + f * 6 + 0))), some (.inr v), some (.inr 1), some (.inr (cel (τ 5) (0 + f * 6 + 2))), some (.inr (-1))]) (st := []) rfl rfl rfl ?_
            show Ex _ _ (cod m1_jumpsOver 44, [some (.inl 8), some (.inr f), some (.inr (1 - cel (τ 5) (0 + f * 6 + 0))), some (.inr v), some (.inr 1), some (.inr (cel (τ 5) (0 + f * 6 + 2))), some (.inr (-1))], [.inr (b2 ((¬ whz (τ 5) 1 ((cel (τ 5) (0 + f * 6 + 2)) - (-1)) = -1 ∧ ¬ whz (τ 5) 1 ((cel (τ 5) (0 + f * 6 + 2)) - (-1)) = 8 ∧ cel (τ 5) (0 + (whz (τ 5) 1 ((cel (τ 5) (0 + f * 6 + 2)) - (-1))) * 6 + 0) = (1 - cel (τ 5) (0 + f * 6 + 0)) ∧ ((cel (τ 5) (0 + (whz (τ 5) 1 ((cel (τ 5) (0 + f * 6 + 2)) - (-1))) * 6 + 0) = 0 ∧ (-1) = 1) ∨ (¬ cel (τ 5) (0 + (whz (τ 5) 1 ((cel (τ 5) (0 + f * 6 + 2)) - (-1))) * 6 + 0) = 0 ∧ (-1) = -1) ∨ cel (τ 5) (0 + (whz (τ 5) 1 ((cel (τ 5) (0 + f * 6 + 2)) - (-1))) * 6 + 3) = 1)) ∧ ¬ (((cel (τ 5) (0 + f * 6 + 2)) - (-1)) - cel (τ 5) (96 + 1) + 12) % 12 < cel (τ 5) (98 + 1)))], τ) _ _
            refine ex_b (P := (b2 ((¬ whz (τ 5) 1 ((cel (τ 5) (0 + f * 6 + 2)) - (-1)) = -1 ∧ ¬ whz (τ 5) 1 ((cel (τ 5) (0 + f * 6 + 2)) - (-1)) = 8 ∧ cel (τ 5) (0 + (whz (τ 5) 1 ((cel (τ 5) (0 + f * 6 + 2)) - (-1))) * 6 + 0) = (1 - cel (τ 5) (0 + f * 6 + 0)) ∧ ((cel (τ 5) (0 + (whz (τ 5) 1 ((cel (τ 5) (0 + f * 6 + 2)) - (-1))) * 6 + 0) = 0 ∧ (-1) = 1) ∨ (¬ cel (τ 5) (0 + (whz (τ 5) 1 ((cel (τ 5) (0 + f * 6 + 2)) - (-1))) * 6 + 0) = 0 ∧ (-1) = -1) ∨ cel (τ 5) (0 + (whz (τ 5) 1 ((cel (τ 5) (0 + f * 6 + 2)) - (-1))) * 6 + 3) = 1)) ∧ ¬ (((cel (τ 5) (0 + f * 6 + 2)) - (-1)) - cel (τ 5) (96 + 1) + 12) % 12 < cel (τ 5) (98 + 1))) = 0) (ct := (cod m1_jumpsOver 46, [some (.inl 8), some (.inr f), some (.inr (1 - cel (τ 5) (0 + f * 6 + 0))), some (.inr v), some (.inr 1), some (.inr (cel (τ 5) (0 + f * 6 + 2))), some (.inr (-1))], [], τ)) (cf := (cod m1_jumpsOver 45, [some (.inl 8), some (.inr f), some (.inr (1 - cel (τ 5) (0 + f * 6 + 0))), some (.inr v), some (.inr 1), some (.inr (cel (τ 5) (0 + f * 6 + 2))), some (.inr (-1))], [], τ)) rfl b2_rng (fun h3 => ?_) (fun h3 => ?_)
            · first
              | (exfalso; have h3 := b2_e0 h3; omega)
              | (
                  have h3 := b2_e0 h3
                  refine ex_k 2 (P := none) (g := (cod m1_jumpsOver 25, [some (.inl 8), some (.inr f), some (.inr (1 - cel (τ 5) (0 + f * 6 + 0))), some (.inr v), some (.inr 1), some (.inr (cel (τ 5) (0 + f * 6 + 2))), some (.inr 1)], [], τ)) rfl trivial ?_
                  exact q3 _ (by first | exact cnt_t hv (by omega) | exact cnt_f hv (by omega)))
            · first
              | (exfalso; have h3 := b2_n0 h3; omega)
              | (
                  have h3 := b2_n0 h3
                  refine ex_k 3 (P := none) (g := (cod m1_jumpsOver 25, [some (.inl 8), some (.inr f), some (.inr (1 - cel (τ 5) (0 + f * 6 + 0))), some (.inr (v + 1)), some (.inr 1), some (.inr (cel (τ 5) (0 + f * 6 + 2))), some (.inr 1)], [], τ)) rfl trivial ?_
                  exact q3 _ (by first | exact cnt_t hv (by omega) | exact cnt_f hv (by omega))))
    have q1 : ∀ (v : Int), v = 0 + b2 (((0 ≤ (cel (τ 5) (0 + f * 6 + 1) + (-1)) ∧ (cel (τ 5) (0 + f * 6 + 1) + (-1)) < 12) ∧ cel (τ 5) (48 + 0 * 12 + (cel (τ 5) (0 + f * 6 + 1) + (-1))) = -1) ∧ ((¬ whz (τ 5) 0 (cel (τ 5) (0 + f * 6 + 1) - (-1)) = -1 ∧ ¬ whz (τ 5) 0 (cel (τ 5) (0 + f * 6 + 1) - (-1)) = 8 ∧ cel (τ 5) (0 + (whz (τ 5) 0 (cel (τ 5) (0 + f * 6 + 1) - (-1))) * 6 + 0) = (1 - cel (τ 5) (0 + f * 6 + 0)) ∧ ((cel (τ 5) (0 + (whz (τ 5) 0 (cel (τ 5) (0 + f * 6 + 1) - (-1))) * 6 + 0) = 0 ∧ (-1) = 1) ∨ (¬ cel (τ 5) (0 + (whz (τ 5) 0 (cel (τ 5) (0 + f * 6 + 1) - (-1))) * 6 + 0) = 0 ∧ (-1) = -1) ∨ cel (τ 5) (0 + (whz (τ 5) 0 (cel (τ 5) (0 + f * 6 + 1) - (-1))) * 6 + 3) = 1)) ∧ ¬ ((cel (τ 5) (0 + f * 6 + 1) - (-1)) - cel (τ 5) (96 + 0) + 12) % 12 < cel (τ 5) (98 + 0))) → Ex 3 m1_jumpsOver (cod m1_jumpsOver 25, [some (.inl 8), some (.inr f), some (.inr (1 - cel (τ 5) (0 + f * 6 + 0))), some (.inr v), some (.inr 0), some (.inr (cel (τ 5) (0 + f * 6 + 1))), some (.inr 1)], [], τ) 0 (.inl (some (.inr (jov (τ 5) f)), τ)) := by
      intro v hv
      refine ex_k 2 (P := none) (g := (cod m1_jumpsOver 27, [some (.inl 8), some (.inr f), some (.inr (1 - cel (τ 5) (0 + f * 6 + 0))), some (.inr v), some (.inr 0), some (.inr (cel (τ 5) (0 + f * 6 + 1))), some (.inr 1)], [.inr 1, .inr 1], τ)) rfl trivial ?_
      refine ex_b (P := 1 < 1) (ct := (cod m1_jumpsOver 48, [some (.inl 8), some (.inr f), some (.inr (1 - cel (τ 5) (0 + f * 6 + 0))), some (.inr v), some (.inr 0), some (.inr (cel (τ 5) (0 + f * 6 + 1))), some (.inr 1)], [], τ)) (cf := (cod m1_jumpsOver 28, [some (.inl 8), some (.inr f), some (.inr (1 - cel (τ 5) (0 + f * 6 + 0))), some (.inr v), some (.inr 0), some (.inr (cel (τ 5) (0 + f * 6 + 1))), some (.inr 1)], [], τ)) rfl ⟨⟨by decide, by decide⟩, ⟨by decide, by decide⟩⟩ (fun hh => absurd hh (by decide)) (fun _ => ?_)
      refine ex_k 6 (P := none) (g := (cod m1_jumpsOver 34, [some (.inl 8), some (.inr f), some (.inr (1 - cel (τ 5) (0 + f * 6 + 0))), some (.inr v), some (.inr 0), some (.inr (cel (τ 5) (0 + f * 6 + 1))), some (.inr 1)], [.inr ((cel (τ 5) (0 + f * 6 + 1)) + 1), .inr 0, .inl 2], τ)) rfl trivial ?_
      refine ex_c (s_isFree (τ := τ) (r := 0) (p := (cel (τ 5) (0 + f * 6 + 1)) + 1) (Or.inr (Or.inl ⟨rfl, rfl⟩)) (by omega) ⟨by omega, by omega⟩ hS.bd) (is := cod m1_jumpsOver 35) (L := [some (.inl 8), some (.inr f), some (.inr (1 - cel (τ 5) (0 + f * 6 + 0))), some (.inr v), some (.inr 0), some (.inr (cel (τ 5) (0 + f * 6 + 1))), some (.inr 1)]) (st := []) rfl rfl rfl ?_
      show Ex _ _ (cod m1_jumpsOver 35, [some (.inl 8), some (.inr f), some (.inr (1 - cel (τ 5) (0 + f * 6 + 0))), some (.inr v), some (.inr 0), some (.inr (cel (τ 5) (0 + f * 6 + 1))), some (.inr 1)], [.inr (b2 ((0 ≤ ((cel (τ 5) (0 + f * 6 + 1)) + 1) ∧ ((cel (τ 5) (0 + f * 6 + 1)) + 1) < 12) ∧ cel (τ 5) (48 + 0 * 12 + ((cel (τ 5) (0 + f * 6 + 1)) + 1)) = -1))], τ) _ _
      refine ex_b (P := (b2 ((0 ≤ ((cel (τ 5) (0 + f * 6 + 1)) + 1) ∧ ((cel (τ 5) (0 + f * 6 + 1)) + 1) < 12) ∧ cel (τ 5) (48 + 0 * 12 + ((cel (τ 5) (0 + f * 6 + 1)) + 1)) = -1)) = 0) (ct := (cod m1_jumpsOver 46, [some (.inl 8), some (.inr f), some (.inr (1 - cel (τ 5) (0 + f * 6 + 0))), some (.inr v), some (.inr 0), some (.inr (cel (τ 5) (0 + f * 6 + 1))), some (.inr 1)], [], τ)) (cf := (cod m1_jumpsOver 36, [some (.inl 8), some (.inr f), some (.inr (1 - cel (τ 5) (0 + f * 6 + 0))), some (.inr v), some (.inr 0), some (.inr (cel (τ 5) (0 + f * 6 + 1))), some (.inr 1)], [], τ)) rfl b2_rng (fun h2 => ?_) (fun h2 => ?_)
      · first
        | (exfalso; have h2 := b2_e0 h2; omega)
        | (
            have h2 := b2_e0 h2
            refine ex_k 4 (P := none) (g := (cod m1_jumpsOver 27, [some (.inl 8), some (.inr f), some (.inr (1 - cel (τ 5) (0 + f * 6 + 0))), some (.inr v), some (.inr 0), some (.inr (cel (τ 5) (0 + f * 6 + 1))), some (.inr 3)], [.inr 1, .inr 3], τ)) rfl trivial ?_
            refine ex_b (P := 1 < 3) (ct := (cod m1_jumpsOver 48, [some (.inl 8), some (.inr f), some (.inr (1 - cel (τ 5) (0 + f * 6 + 0))), some (.inr v), some (.inr 0), some (.inr (cel (τ 5) (0 + f * 6 + 1))), some (.inr 3)], [], τ)) (cf := (cod m1_jumpsOver 28, [some (.inl 8), some (.inr f), some (.inr (1 - cel (τ 5) (0 + f * 6 + 0))), some (.inr v), some (.inr 0), some (.inr (cel (τ 5) (0 + f * 6 + 1))), some (.inr 3)], [], τ)) rfl ⟨⟨by decide, by decide⟩, ⟨by decide, by decide⟩⟩ (fun _ => ?_) (fun hh => absurd (by decide) hh)
            refine ex_k 4 (P := none) (g := (cod m1_jumpsOver 14, [some (.inl 8), some (.inr f), some (.inr (1 - cel (τ 5) (0 + f * 6 + 0))), some (.inr v), some (.inr 1), some (.inr (cel (τ 5) (0 + f * 6 + 1))), some (.inr 3)], [.inr 2, .inr 1], τ)) rfl trivial ?_
            refine ex_b (P := 2 ≤ 1) (ct := (cod m1_jumpsOver 50, [some (.inl 8), some (.inr f), some (.inr (1 - cel (τ 5) (0 + f * 6 + 0))), some (.inr v), some (.inr 1), some (.inr (cel (τ 5) (0 + f * 6 + 1))), some (.inr 3)], [], τ)) (cf := (cod m1_jumpsOver 15, [some (.inl 8), some (.inr f), some (.inr (1 - cel (τ 5) (0 + f * 6 + 0))), some (.inr v), some (.inr 1), some (.inr (cel (τ 5) (0 + f * 6 + 1))), some (.inr 3)], [], τ)) rfl ⟨⟨by decide, by decide⟩, ⟨by decide, by decide⟩⟩ (fun hh => absurd hh (by decide)) (fun _ => ?_)
            refine ex_k 6 (P := none) (g := (cod m1_jumpsOver 21, [some (.inl 8), some (.inr f), some (.inr (1 - cel (τ 5) (0 + f * 6 + 0))), some (.inr v), some (.inr 1), some (.inr (cel (τ 5) (0 + f * 6 + 1))), some (.inr 3)], [.inr 2, .inr f, .inl 2], τ)) rfl trivial ?_
            refine ex_c (s_number (τ := τ) (f := f) (w := 2) (Or.inr (Or.inl ⟨rfl, rfl⟩)) (by omega) (by omega)) (is := cod m1_jumpsOver 22) (L := [some (.inl 8), some (.inr f), some (.inr (1 - cel (τ 5) (0 + f * 6 + 0))), some (.inr v), some (.inr 1), some (.inr (cel (τ 5) (0 + f * 6 + 1))), some (.inr 3)]) (st := []) rfl rfl rfl ?_
            show Ex _ _ (cod m1_jumpsOver 22, [some (.inl 8), some (.inr f), some (.inr (1 - cel (τ 5) (0 + f * 6 + 0))), some (.inr v), some (.inr 1), some (.inr (cel (τ 5) (0 + f * 6 + 1))), some (.inr 3)], [.inr (cel (τ 5) (0 + f * 6 + 2))], τ) _ _
            refine ex_k 3 (P := none) (g := (cod m1_jumpsOver 25, [some (.inl 8), some (.inr f), some (.inr (1 - cel (τ 5) (0 + f * 6 + 0))), some (.inr v), some (.inr 1), some (.inr (cel (τ 5) (0 + f * 6 + 2))), some (.inr (-1))], [], τ)) rfl trivial ?_
            exact q2 _ (by first | exact cnt_t hv (by omega) | exact cnt_f hv (by omega)))
      · first
        | (exfalso; have h2 := b2_n0 h2; omega)
        | (
            have h2 := b2_n0 h2
            refine ex_k 7 (P := none) (g := (cod m1_jumpsOver 43, [some (.inl 8), some (.inr f), some (.inr (1 - cel (τ 5) (0 + f * 6 + 0))), some (.inr v), some (.inr 0), some (.inr (cel (τ 5) (0 + f * 6 + 1))), some (.inr 1)], [.inr 1, .inr ((cel (τ 5) (0 + f * 6 + 1)) - 1), .inr 0, .inr (1 - cel (τ 5) (0 + f * 6 + 0)), .inl 8], τ)) rfl trivial ?_
            refine ex_c (s_canLeave (τ := τ) (x := 1 - cel (τ 5) (0 + f * 6 + 0)) (r := 0) (p := (cel (τ 5) (0 + f * 6 + 1)) - 1) (s := 1) (Or.inr ⟨rfl, rfl, rfl⟩) (by omega) (by omega) ⟨by omega, by omega⟩ (by omega) hS.cw) (is := cod m1_jumpsOver 44) (L := [some (.inl 8), some (.inr f), some (.inr (1 - cel (τ 5) (0 + f * 6 + 0))), some (.inr v), some (.inr 0), some (.inr (cel (τ 5) (0 + f * 6 + 1))), some (.inr 1)]) (st := []) rfl rfl rfl ?_
            show Ex _ _ (cod m1_jumpsOver 44, [some (.inl 8), some (.inr f), some (.inr (1 - cel (τ 5) (0 + f * 6 + 0))), some (.inr v), some (.inr 0), some (.inr (cel (τ 5) (0 + f * 6 + 1))), some (.inr 1)], [.inr (b2 ((¬ whz (τ 5) 0 ((cel (τ 5) (0 + f * 6 + 1)) - 1) = -1 ∧ ¬ whz (τ 5) 0 ((cel (τ 5) (0 + f * 6 + 1)) - 1) = 8 ∧ cel (τ 5) (0 + (whz (τ 5) 0 ((cel (τ 5) (0 + f * 6 + 1)) - 1)) * 6 + 0) = (1 - cel (τ 5) (0 + f * 6 + 0)) ∧ ((cel (τ 5) (0 + (whz (τ 5) 0 ((cel (τ 5) (0 + f * 6 + 1)) - 1)) * 6 + 0) = 0 ∧ 1 = 1) ∨ (¬ cel (τ 5) (0 + (whz (τ 5) 0 ((cel (τ 5) (0 + f * 6 + 1)) - 1)) * 6 + 0) = 0 ∧ 1 = -1) ∨ cel (τ 5) (0 + (whz (τ 5) 0 ((cel (τ 5) (0 + f * 6 + 1)) - 1)) * 6 + 3) = 1)) ∧ ¬ (((cel (τ 5) (0 + f * 6 + 1)) - 1) - cel (τ 5) (96 + 0) + 12) % 12 < cel (τ 5) (98 + 0)))], τ) _ _
            refine ex_b (P := (b2 ((¬ whz (τ 5) 0 ((cel (τ 5) (0 + f * 6 + 1)) - 1) = -1 ∧ ¬ whz (τ 5) 0 ((cel (τ 5) (0 + f * 6 + 1)) - 1) = 8 ∧ cel (τ 5) (0 + (whz (τ 5) 0 ((cel (τ 5) (0 + f * 6 + 1)) - 1)) * 6 + 0) = (1 - cel (τ 5) (0 + f * 6 + 0)) ∧ ((cel (τ 5) (0 + (whz (τ 5) 0 ((cel (τ 5) (0 + f * 6 + 1)) - 1)) * 6 + 0) = 0 ∧ 1 = 1) ∨ (¬ cel (τ 5) (0 + (whz (τ 5) 0 ((cel (τ 5) (0 + f * 6 + 1)) - 1)) * 6 + 0) = 0 ∧ 1 = -1) ∨ cel (τ 5) (0 + (whz (τ 5) 0 ((cel (τ 5) (0 + f * 6 + 1)) - 1)) * 6 + 3) = 1)) ∧ ¬ (((cel (τ 5) (0 + f * 6 + 1)) - 1) - cel (τ 5) (96 + 0) + 12) % 12 < cel (τ 5) (98 + 0))) = 0) (ct := (cod m1_jumpsOver 46, [some (.inl 8), some (.inr f), some (.inr (1 - cel (τ 5) (0 + f * 6 + 0))), some (.inr v), some (.inr 0), some (.inr (cel (τ 5) (0 + f * 6 + 1))), some (.inr 1)], [], τ)) (cf := (cod m1_jumpsOver 45, [some (.inl 8), some (.inr f), some (.inr (1 - cel (τ 5) (0 + f * 6 + 0))), some (.inr v), some (.inr 0), some (.inr (cel (τ 5) (0 + f * 6 + 1))), some (.inr 1)], [], τ)) rfl b2_rng (fun h5 => ?_) (fun h5 => ?_)
            · first
              | (exfalso; have h5 := b2_e0 h5; omega)
              | (
                  have h5 := b2_e0 h5
                  refine ex_k 4 (P := none) (g := (cod m1_jumpsOver 27, [some (.inl 8), some (.inr f), some (.inr (1 - cel (τ 5) (0 + f * 6 + 0))), some (.inr v), some (.inr 0), some (.inr (cel (τ 5) (0 + f * 6 + 1))), some (.inr 3)], [.inr 1, .inr 3], τ)) rfl trivial ?_
                  refine ex_b (P := 1 < 3) (ct := (cod m1_jumpsOver 48, [some (.inl 8), some (.inr f), some (.inr (1 - cel (τ 5) (0 + f * 6 + 0))), some (.inr v), some (.inr 0), some (.inr (cel (τ 5) (0 + f * 6 + 1))), some (.inr 3)], [], τ)) (cf := (cod m1_jumpsOver 28, [some (.inl 8), some (.inr f), some (.inr (1 - cel (τ 5) (0 + f * 6 + 0))), some (.inr v), some (.inr 0), some (.inr (cel (τ 5) (0 + f * 6 + 1))), some (.inr 3)], [], τ)) rfl ⟨⟨by decide, by decide⟩, ⟨by decide, by decide⟩⟩ (fun _ => ?_) (fun hh => absurd (by decide) hh)
                  refine ex_k 4 (P := none) (g := (cod m1_jumpsOver 14, [some (.inl 8), some (.inr f), some (.inr (1 - cel (τ 5) (0 + f * 6 + 0))), some (.inr v), some (.inr 1), some (.inr (cel (τ 5) (0 + f * 6 + 1))), some (.inr 3)], [.inr 2, .inr 1], τ)) rfl trivial ?_
                  refine ex_b (P := 2 ≤ 1) (ct := (cod m1_jumpsOver 50, [some (.inl 8), some (.inr f), some (.inr (1 - cel (τ 5) (0 + f * 6 + 0))), some (.inr v), some (.inr 1), some (.inr (cel (τ 5) (0 + f * 6 + 1))), some (.inr 3)], [], τ)) (cf := (cod m1_jumpsOver 15, [some (.inl 8), some (.inr f), some (.inr (1 - cel (τ 5) (0 + f * 6 + 0))), some (.inr v), some (.inr 1), some (.inr (cel (τ 5) (0 + f * 6 + 1))), some (.inr 3)], [], τ)) rfl ⟨⟨by decide, by decide⟩, ⟨by decide, by decide⟩⟩ (fun hh => absurd hh (by decide)) (fun _ => ?_)
                  refine ex_k 6 (P := none) (g := (cod m1_jumpsOver 21, [some (.inl 8), some (.inr f), some (.inr (1 - cel (τ 5) (0 + f * 6 + 0))), some (.inr v), some (.inr 1), some (.inr (cel (τ 5) (0 + f * 6 + 1))), some (.inr 3)], [.inr 2, .inr f, .inl 2], τ)) rfl trivial ?_
                  refine ex_c (s_number (τ := τ) (f := f) (w := 2) (Or.inr (Or.inl ⟨rfl, rfl⟩)) (by omega) (by omega)) (is := cod m1_jumpsOver 22) (L := [some (.inl 8), some (.inr f), some (.inr (1 - cel (τ 5) (0 + f * 6 + 0))), some (.inr v), some (.inr 1), some (.inr (cel (τ 5) (0 + f * 6 + 1))), some (.inr 3)]) (st := []) rfl rfl rfl ?_
                  show Ex _ _ (cod m1_jumpsOver 22, [some (.inl 8), some (.inr f), some (.inr (1 - cel (τ 5) (0 + f * 6 + 0))), some (.inr v), some (.inr 1), some (.inr (cel (τ 5) (0 + f * 6 + 1))), some (.inr 3)], [.inr (cel (τ 5) (0 + f * 6 + 2))], τ) _ _
                  refine ex_k 3 (P := none) (g := (cod m1_jumpsOver 25, [some (.inl 8), some (.inr f), some (.inr (1 - cel (τ 5) (0 + f * 6 + 0))), some (.inr v), some (.inr 1), some (.inr (cel (τ 5) (0 + f * 6 + 2))), some (.inr (-1))], [], τ)) rfl trivial ?_
                  exact q2 _ (by first | exact cnt_t hv (by omega) | exact cnt_f hv (by omega)))
            · first
              | (exfalso; have h5 := b2_n0 h5; omega)
              | (
                  have h5 := b2_n0 h5
                  refine ex_k 5 (P := none) (g := (cod m1_jumpsOver 27, [some (.inl 8), some (.inr f), some (.inr (1 - cel (τ 5) (0 + f * 6 + 0))), some (.inr (v + 1)), some (.inr 0), some (.inr (cel (τ 5) (0 + f * 6 + 1))), some (.inr 3)], [.inr 1, .inr 3], τ)) rfl trivial ?_
                  refine ex_b (P := 1 < 3) (ct := (cod m1_jumpsOver 48, [some (.inl 8), some (.inr f), some (.inr (1 - cel (τ 5) (0 + f * 6 + 0))), some (.inr (v + 1)), some (.inr 0), some (.inr (cel (τ 5) (0 + f * 6 + 1))), some (.inr 3)], [], τ)) (cf := (cod m1_jumpsOver 28, [some (.inl 8), some (.inr f), some (.inr (1 - cel (τ 5) (0 + f * 6 + 0))), some (.inr (v + 1)), some (.inr 0), some (.inr (cel (τ 5) (0 + f * 6 + 1))), some (.inr 3)], [], τ)) rfl ⟨⟨by decide, by decide⟩, ⟨by decide, by decide⟩⟩ (fun _ => ?_) (fun hh => absurd (by decide) hh)
                  refine ex_k 4 (P := none) (g := (cod m1_jumpsOver 14, [some (.inl 8), some (.inr f), some (.inr (1 - cel (τ 5) (0 + f * 6 + 0))), some (.inr (v + 1)), some (.inr 1), some (.inr (cel (τ 5) (0 + f * 6 + 1))), some (.inr 3)], [.inr 2, .inr 1], τ)) rfl trivial ?_
                  refine ex_b (P := 2 ≤ 1) (ct := (cod m1_jumpsOver 50, [some (.inl 8), some (.inr f), some (.inr (1 - cel (τ 5) (0 + f * 6 + 0))), some (.inr (v + 1)), some (.inr 1), some (.inr (cel (τ 5) (0 + f * 6 + 1))), some (.inr 3)], [], τ)) (cf := (cod m1_jumpsOver 15, [some (.inl 8), some (.inr f), some (.inr (1 - cel (τ 5) (0 + f * 6 + 0))), some (.inr (v + 1)), some (.inr 1), some (.inr (cel (τ 5) (0 + f * 6 + 1))), some (.inr 3)], [], τ)) rfl ⟨⟨by decide, by decide⟩, ⟨by decide, by decide⟩⟩ (fun hh => absurd hh (by decide)) (fun _ => ?_)
                  refine ex_k 6 (P := none) (g := (cod m1_jumpsOver 21, [some (.inl 8), some (.inr f), some (.inr (1 - cel (τ 5) (0 + f * 6 + 0))), some (.inr (v + 1)), some (.inr 1), some (.inr (cel (τ 5) (0 + f * 6 + 1))), some (.inr 3)], [.inr 2, .inr f, .inl 2], τ)) rfl trivial ?_
                  refine ex_c (s_number (τ := τ) (f := f) (w := 2) (Or.inr (Or.inl ⟨rfl, rfl⟩)) (by omega) (by omega)) (is := cod m1_jumpsOver 22) (L := [some (.inl 8), some (.inr f), some (.inr (1 - cel (τ 5) (0 + f * 6 + 0))), some (.inr (v + 1)), some (.inr 1), some (.inr (cel (τ 5) (0 + f * 6 + 1))), some (.inr 3)]) (st := []) rfl rfl rfl ?_
                  show Ex _ _ (cod m1_jumpsOver 22, [some (.inl 8), some (.inr f), some (.inr (1 - cel (τ 5) (0 + f * 6 + 0))), some (.inr (v + 1)), some (.inr 1), some (.inr (cel (τ 5) (0 + f * 6 + 1))), some (.inr 3)], [.inr (cel (τ 5) (0 + f * 6 + 2))], τ) _ _
                  refine ex_k 3 (P := none) (g := (cod m1_jumpsOver 25, [some (.inl 8), some (.inr f), some (.inr (1 - cel (τ 5) (0 + f * 6 + 0))), some (.inr (v + 1)), some (.inr 1), some (.inr (cel (τ 5) (0 + f * 6 + 2))), some (.inr (-1))], [], τ)) rfl trivial ?_
                  exact q2 _ (by first | exact cnt_t hv (by omega) | exact cnt_f hv (by omega))))
    have q0 : ∀ (v : Int), v = 0 → Ex 3 m1_jumpsOver (cod m1_jumpsOver 25, [some (.inl 8), some (.inr f), some (.inr (1 - cel (τ 5) (0 + f * 6 + 0))), some (.inr v), some (.inr 0), some (.inr (cel (τ 5) (0 + f * 6 + 1))), some (.inr (-1))], [], τ) 0 (.inl (some (.inr (jov (τ 5) f)), τ)) := by
      intro v hv
      refine ex_k 2 (P := none) (g := (cod m1_jumpsOver 27, [some (.inl 8), some (.inr f), some (.inr (1 - cel (τ 5) (0 + f * 6 + 0))), some (.inr v), some (.inr 0), some (.inr (cel (τ 5) (0 + f * 6 + 1))), some (.inr (-1))], [.inr 1, .inr (-1)], τ)) rfl trivial ?_
      refine ex_b (P := 1 < (-1)) (ct := (cod m1_jumpsOver 48, [some (.inl 8), some (.inr f), some (.inr (1 - cel (τ 5) (0 + f * 6 + 0))), some (.inr v), some (.inr 0), some (.inr (cel (τ 5) (0 + f * 6 + 1))), some (.inr (-1))], [], τ)) (cf := (cod m1_jumpsOver 28, [some (.inl 8), some (.inr f), some (.inr (1 - cel (τ 5) (0 + f * 6 + 0))), some (.inr v), some (.inr 0), some (.inr (cel (τ 5) (0 + f * 6 + 1))), some (.inr (-1))], [], τ)) rfl ⟨⟨by decide, by decide⟩, ⟨by decide, by decide⟩⟩ (fun hh => absurd hh (by decide)) (fun _ => ?_)
      refine ex_k 6 (P := none) (g := (cod m1_jumpsOver 34, [some (.inl 8), some (.inr f), some (.inr (1 - cel (τ 5) (0 + f * 6 + 0))), some (.inr v), some (.inr 0), some (.inr (cel (τ 5) (0 + f * 6 + 1))), some (.inr (-1))], [.inr ((cel (τ 5) (0 + f * 6 + 1)) + (-1)), .inr 0, .inl 2], τ)) rfl trivial ?_
      refine ex_c (s_isFree (τ := τ) (r := 0) (p := (cel (τ 5) (0 + f * 6 + 1)) + (-1)) (Or.inr (Or.inl ⟨rfl, rfl⟩)) (by omega) ⟨by omega, by omega⟩ hS.bd) (is := cod m1_jumpsOver 35) (L := [some (.inl 8), some (.inr f), some (.inr (1 - cel (τ 5) (0 + f * 6 + 0))), some (.inr v), some (.inr 0), some (.inr (cel (τ 5) (0 + f * 6 + 1))), some (.inr (-1))]) (st := []) rfl rfl rfl ?_
      show Ex _ _ (cod m1_jumpsOver 35, [some (.inl 8), some (.inr f), some (.inr (1 - cel (τ 5) (0 + f * 6 + 0))), some (.inr v), some (.inr 0), some (.inr (cel (τ 5) (0 + f * 6 + 1))), some (.inr (-1))], [.inr (b2 ((0 ≤ ((cel (τ 5) (0 + f * 6 + 1)) + (-1)) ∧ ((cel (τ 5) (0 + f * 6 + 1)) + (-1)) < 12) ∧ cel (τ 5) (48 + 0 * 12 + ((cel (τ 5) (0 + f * 6 + 1)) + (-1))) = -1))], τ) _ _
      refine ex_b (P := (b2 ((0 ≤ ((cel (τ 5) (0 + f * 6 + 1)) + (-1)) ∧ ((cel (τ 5) (0 + f * 6 + 1)) + (-1)) < 12) ∧ cel (τ 5) (48 + 0 * 12 + ((cel (τ 5) (0 + f * 6 + 1)) + (-1))) = -1)) = 0) (ct := (cod m1_jumpsOver 46, [some (.inl 8), some (.inr f), some (.inr (1 - cel (τ 5) (0 + f * 6 + 0))), some (.inr v), some (.inr 0), some (.inr (cel (τ 5) (0 + f * 6 + 1))), some (.inr (-1))], [], τ)) (cf := (cod m1_jumpsOver 36, [some (.inl 8), some (.inr f), some (.inr (1 - cel (τ 5) (0 + f * 6 + 0))), some (.inr v), some (.inr 0), some (.inr (cel (τ 5) (0 + f * 6 + 1))), some (.inr (-1))], [], τ)) rfl b2_rng (fun h2 => ?_) (fun h2 => ?_)
      · first
        | (exfalso; have h2 := b2_e0 h2; omega)
        | (
            have h2 := b2_e0 h2
            refine ex_k 2 (P := none) (g := (cod m1_jumpsOver 25, [some (.inl 8), some (.inr f), some (.inr (1 - cel (τ 5) (0 + f * 6 + 0))), some (.inr v), some (.inr 0), some (.inr (cel (τ 5) (0 + f * 6 + 1))), some (.inr 1)], [], τ)) rfl trivial ?_
            exact q1 _ (by first | exact cnt_t hv (by omega) | exact cnt_f hv (by omega)))
      · first
        | (exfalso; have h2 := b2_n0 h2; omega)
        | (
            have h2 := b2_n0 h2
            refine ex_k 7 (P := none) (g := (cod m1_jumpsOver 43, [some (.inl 8), some (.inr f), some (.inr (1 - cel (τ 5) (0 + f * 6 + 0))), some (.inr v), some (.inr 0), some (.inr (cel (τ 5) (0 + f * 6 + 1))), some (.inr (-1))], [.inr (-1), .inr ((cel (τ 5) (0 + f * 6 + 1)) - (-1)), .inr 0, .inr (1 - cel (τ 5) (0 + f * 6 + 0)), .inl 8], τ)) rfl trivial ?_
            refine ex_c (s_canLeave (τ := τ) (x := 1 - cel (τ 5) (0 + f * 6 + 0)) (r := 0) (p := (cel (τ 5) (0 + f * 6 + 1)) - (-1)) (s := (-1)) (Or.inr ⟨rfl, rfl, rfl⟩) (by omega) (by omega) ⟨by omega, by omega⟩ (by omega) hS.cw) (is := cod m1_jumpsOver 44) (L := [some (.inl 8), some (.inr f), some (.inr (1 - cel (τ 5) (0 + f * 6 + 0))), some (.inr v), some (.inr 0), some (.inr (cel (τ 5) (0 + f * 6 + 1))), some (.inr (-1))]) (st := []) rfl rfl rfl ?_
            show Ex _ _ (cod m1_jumpsOver 44, [some (.inl 8), some (.inr f), some (.inr (1 - cel (τ 5) (0 + f * 6 + 0))), some (.inr v), some (.inr 0), some (.inr (cel (τ 5) (0 + f * 6 + 1))), some (.inr (-1))], [.inr (b2 ((¬ whz (τ 5) 0 ((cel (τ 5) (0 + f * 6 + 1)) - (-1)) = -1 ∧ ¬ whz (τ 5) 0 ((cel (τ 5) (0 + f * 6 + 1)) - (-1)) = 8 ∧ cel (τ 5) (0 + (whz (τ 5) 0 ((cel (τ 5) (0 + f * 6 + 1)) - (-1))) * 6 + 0) = (1 - cel (τ 5) (0 + f * 6 + 0)) ∧ ((cel (τ 5) (0 + (whz (τ 5) 0 ((cel (τ 5) (0 + f * 6 + 1)) - (-1))) * 6 + 0) = 0 ∧ (-1) = 1) ∨ (¬ cel (τ 5) (0 + (whz (τ 5) 0 ((cel (τ 5) (0 + f * 6 + 1)) - (-1))) * 6 + 0) = 0 ∧ (-1) = -1) ∨ cel (τ 5) (0 + (whz (τ 5) 0 ((cel (τ 5) (0 + f * 6 + 1)) - (-1))) * 6 + 3) = 1)) ∧ ¬ (((cel (τ 5) (0 + f * 6 + 1)) - (-1)) - cel (τ 5) (96 + 0) + 12) % 12 < cel (τ 5) (98 + 0)))], τ) _ _
            refine ex_b (P := (b2 ((¬ whz (τ 5) 0 ((cel (τ 5) (0 + f * 6 + 1)) - (-1)) = -1 ∧ ¬ whz (τ 5) 0 ((cel (τ 5) (0 + f * 6 + 1)) - (-1)) = 8 ∧ cel (τ 5) (0 + (whz (τ 5) 0 ((cel (τ 5) (0 + f * 6 + 1)) - (-1))) * 6 + 0) = (1 - cel (τ 5) (0 + f * 6 + 0)) ∧ ((cel (τ 5) (0 + (whz (τ 5) 0 ((cel (τ 5) (0 + f * 6 + 1)) - (-1))) * 6 + 0) = 0 ∧ (-1) = 1) ∨ (¬ cel (τ 5) (0 + (whz (τ 5) 0 ((cel (τ 5) (0 + f * 6 + 1)) - (-1))) * 6 + 0) = 0 ∧ (-1) = -1) ∨ cel (τ 5) (0 + (whz (τ 5) 0 ((cel (τ 5) (0 + f * 6 + 1)) - (-1))) * 6 + 3) = 1)) ∧ ¬ (((cel (τ 5) (0 + f * 6 + 1)) - (-1)) - cel (τ 5) (96 + 0) + 12) % 12 < cel (τ 5) (98 + 0))) = 0) (ct := (cod m1_jumpsOver 46, [some (.inl 8), some (.inr f), some (.inr (1 - cel (τ 5) (0 + f * 6 + 0))), some (.inr v), some (.inr 0), some (.inr (cel (τ 5) (0 + f * 6 + 1))), some (.inr (-1))], [], τ)) (cf := (cod m1_jumpsOver 45, [some (.inl 8), some (.inr f), some (.inr (1 - cel (τ 5) (0 + f * 6 + 0))), some (.inr v), some (.inr 0), some (.inr (cel (τ 5) (0 + f * 6 + 1))), some (.inr (-1))], [], τ)) rfl b2_rng (fun h3 => ?_) (fun h3 => ?_)
            · first
              | (exfalso; have h3 := b2_e0 h3; omega)
              | (
                  have h3 := b2_e0 h3
                  refine ex_k 2 (P := none) (g := (cod m1_jumpsOver 25, [some (.inl 8), some (.inr f), some (.inr (1 - cel (τ 5) (0 + f * 6 + 0))), some (.inr v), some (.inr 0), some (.inr (cel (τ 5) (0 + f * 6 + 1))), some (.inr 1)], [], τ)) rfl trivial ?_
                  exact q1 _ (by first | exact cnt_t hv (by omega) | exact cnt_f hv (by omega)))
            · first
              | (exfalso; have h3 := b2_n0 h3; omega)
              | (
                  have h3 := b2_n0 h3
                  refine ex_k 3 (P := none) (g := (cod m1_jumpsOver 25, [some (.inl 8), some (.inr f), some (.inr (1 - cel (τ 5) (0 + f * 6 + 0))), some (.inr (v + 1)), some (.inr 0), some (.inr (cel (τ 5) (0 + f * 6 + 1))), some (.inr 1)], [], τ)) rfl trivial ?_
                  exact q1 _ (by first | exact cnt_t hv (by omega) | exact cnt_f hv (by omega))))
    refine Ex.call ?_ rfl rfl
    show Ex _ _ (cod m1_jumpsOver 0, [some (.inl 8), some (.inr f), none, none, none, none, none], [], τ) _ _
    refine ex_k 5 (P := none) (g := (cod m1_jumpsOver 5, [some (.inl 8), some (.inr f), none, none, none, none, none], [.inr 0, .inr f, .inl 2, .inr 1], τ)) rfl trivial ?_
    refine ex_c (s_number (τ := τ) (f := f) (w := 0) (Or.inr (Or.inl ⟨rfl, rfl⟩)) (by omega) (by omega)) (is := cod m1_jumpsOver 6) (L := [some (.inl 8), some (.inr f), none, none, none, none, none]) (st := [.inr 1]) rfl rfl rfl ?_
    show Ex _ _ (cod m1_jumpsOver 6, [some (.inl 8), some (.inr f), none, none, none, none, none], [.inr (cel (τ 5) (0 + f * 6 + 0)), .inr 1], τ) _ _
    refine ex_k 8 (P := none) (g := (cod m1_jumpsOver 14, [some (.inl 8), some (.inr f), some (.inr (1 - (cel (τ 5) (0 + f * 6 + 0)))), some (.inr 0), some (.inr 0), none, none], [.inr 2, .inr 0], τ)) rfl trivial ?_
    refine ex_b (P := 2 ≤ 0) (ct := (cod m1_jumpsOver 50, [some (.inl 8), some (.inr f), some (.inr (1 - (cel (τ 5) (0 + f * 6 + 0)))), some (.inr 0), some (.inr 0), none, none], [], τ)) (cf := (cod m1_jumpsOver 15, [some (.inl 8), some (.inr f), some (.inr (1 - (cel (τ 5) (0 + f * 6 + 0)))), some (.inr 0), some (.inr 0), none, none], [], τ)) rfl ⟨⟨by decide, by decide⟩, ⟨by decide, by decide⟩⟩ (fun hh => absurd hh (by decide)) (fun _ => ?_)
    refine ex_k 6 (P := none) (g := (cod m1_jumpsOver 21, [some (.inl 8), some (.inr f), some (.inr (1 - (cel (τ 5) (0 + f * 6 + 0)))), some (.inr 0), some (.inr 0), none, none], [.inr 1, .inr f, .inl 2], τ)) rfl trivial ?_
    refine ex_c (s_number (τ := τ) (f := f) (w := 1) (Or.inr (Or.inl ⟨rfl, rfl⟩)) (by omega) (by omega)) (is := cod m1_jumpsOver 22) (L := [some (.inl 8), some (.inr f), some (.inr (1 - (cel (τ 5) (0 + f * 6 + 0)))), some (.inr 0), some (.inr 0), none, none]) (st := []) rfl rfl rfl ?_
    show Ex _ _ (cod m1_jumpsOver 22, [some (.inl 8), some (.inr f), some (.inr (1 - (cel (τ 5) (0 + f * 6 + 0)))), some (.inr 0), some (.inr 0), none, none], [.inr (cel (τ 5) (0 + f * 6 + 1))], τ) _ _
    refine ex_k 3 (P := none) (g := (cod m1_jumpsOver 25, [some (.inl 8), some (.inr f), some (.inr (1 - (cel (τ 5) (0 + f * 6 + 0)))), some (.inr 0), some (.inr 0), some (.inr (cel (τ 5) (0 + f * 6 + 1))), some (.inr (-1))], [], τ)) rfl trivial ?_
    exact q0 0 rfl
end GAM2
