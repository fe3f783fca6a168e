/-! contracts of the game, part three: printed by wip/whole/db7.py -/
section GAM3

def cmr (c : Nat → Int) (x r p s : Int) : Int := if whz c r (p - s) = -1 then 0 else if ¬ whz c r (p - s) = 8 ∧ cel c (0 + whz c r (p - s) * 6 + 0) = x then b2 ((¬ whz c r (p - s) = -1 ∧ ¬ whz c r (p - s) = 8 ∧ cel c (0 + (whz c r (p - s)) * 6 + 0) = x ∧ ((cel c (0 + (whz c r (p - s)) * 6 + 0) = 0 ∧ s = 1) ∨ (¬ cel c (0 + (whz c r (p - s)) * 6 + 0) = 0 ∧ s = -1) ∨ cel c (0 + (whz c r (p - s)) * 6 + 3) = 1)) ∧ ¬ ((p - s) - cel c (96 + r) + 12) % 12 < cel c (98 + r)) else b2 ((¬ whz c r (p - s - s) = -1 ∧ ¬ whz c r (p - s - s) = 8 ∧ cel c (0 + (whz c r (p - s - s)) * 6 + 0) = x ∧ ((cel c (0 + (whz c r (p - s - s)) * 6 + 0) = 0 ∧ s = 1) ∨ (¬ cel c (0 + (whz c r (p - s - s)) * 6 + 0) = 0 ∧ s = -1) ∨ cel c (0 + (whz c r (p - s - s)) * 6 + 3) = 1)) ∧ ¬ ((p - s - s) - cel c (96 + r) + 12) % 12 < cel c (98 + r))
theorem s_comersTo {γ ρ a : Nat} {x r p s : Int} {τ : SZ} (hγ : GA γ ρ a) (hx : 0 ≤ x ∧ x < 2) (hr : 0 ≤ r ∧ r < 2) (hp : 0 ≤ p ∧ p < 12) (hs : s = 1 ∨ s = -1) {B : Int} (hS : Sh B (τ a)) : RZ 4 m1_comersTo [.inl γ, .inr x, .inr r, .inr p, .inr s] τ (.inl (some (.inr (cmr (τ a) x r p s)), τ)) := by
  have hw := hS.wh (p := p - s) hr
  have hb := cel_bd hS.bd (0 + whz (τ a) r (p - s) * 6 + 0)
  rcases hγ with ⟨rfl, rfl, rfl⟩ | ⟨rfl, rfl, rfl⟩
  · refine Ex.call ?_ rfl rfl
    show Ex _ _ (cod m1_comersTo 0, [some (.inl 7), some (.inr x), some (.inr r), some (.inr p), some (.inr s), none, none], [], τ) _ _
    refine ex_k 8 (P := none) (g := (cod m1_comersTo 8, [some (.inl 7), some (.inr x), some (.inr r), some (.inr p), some (.inr s), some (.inr (p - s)), none], [.inr (p - s), .inr r, .inl 1], τ)) rfl trivial ?_
    refine ex_c (s_whoIsAt (τ := τ) (r := r) (p := p - s) (Or.inl ⟨rfl, rfl⟩) (by omega) ⟨by omega, by omega⟩) (is := cod m1_comersTo 9) (L := [some (.inl 7), some (.inr x), some (.inr r), some (.inr p), some (.inr s), some (.inr (p - s)), none]) (st := []) rfl rfl rfl ?_
    show Ex _ _ (cod m1_comersTo 9, [some (.inl 7), some (.inr x), some (.inr r), some (.inr p), some (.inr s), some (.inr (p - s)), none], [.inr (whz (τ 4) r (p - s))], τ) _ _
    refine ex_k 3 (P := none) (g := (cod m1_comersTo 12, [some (.inl 7), some (.inr x), some (.inr r), some (.inr p), some (.inr s), some (.inr (p - s)), some (.inr (whz (τ 4) r (p - s)))], [.inr (-1), .inr (whz (τ 4) r (p - s))], τ)) rfl trivial ?_
    refine ex_b (P := ¬ (whz (τ 4) r (p - s)) = (-1)) (ct := (cod m1_comersTo 15, [some (.inl 7), some (.inr x), some (.inr r), some (.inr p), some (.inr s), some (.inr (p - s)), some (.inr (whz (τ 4) r (p - s)))], [], τ)) (cf := (cod m1_comersTo 13, [some (.inl 7), some (.inr x), some (.inr r), some (.inr p), some (.inr s), some (.inr (p - s)), some (.inr (whz (τ 4) r (p - s)))], [], τ)) rfl ⟨⟨by omega, by omega⟩, ⟨by decide, by decide⟩⟩ (fun h1 => ?_) (fun h1 => ?_)
    · first
      | (exfalso; omega)
      | (
          refine ex_k 2 (P := none) (g := (cod m1_comersTo 17, [some (.inl 7), some (.inr x), some (.inr r), some (.inr p), some (.inr s), some (.inr (p - s)), some (.inr (whz (τ 4) r (p - s)))], [.inr 8, .inr (whz (τ 4) r (p - s))], τ)) rfl trivial ?_
          refine ex_b (P := (whz (τ 4) r (p - s)) = 8) (ct := (cod m1_comersTo 36, [some (.inl 7), some (.inr x), some (.inr r), some (.inr p), some (.inr s), some (.inr (p - s)), some (.inr (whz (τ 4) r (p - s)))], [], τ)) (cf := (cod m1_comersTo 18, [some (.inl 7), some (.inr x), some (.inr r), some (.inr p), some (.inr s), some (.inr (p - s)), some (.inr (whz (τ 4) r (p - s)))], [], τ)) rfl ⟨⟨by omega, by omega⟩, ⟨by decide, by decide⟩⟩ (fun h2 => ?_) (fun h2 => ?_)
          · first
            | (exfalso; omega)
            | (
                refine ex_k 7 (P := none) (g := (cod m1_comersTo 43, [some (.inl 7), some (.inr x), some (.inr r), some (.inr p), some (.inr s), some (.inr (p - s)), some (.inr (whz (τ 4) r (p - s)))], [.inr s, .inr ((p - s) - s), .inr r, .inr x, .inl 7], τ)) rfl trivial ?_
                refine ex_c (s_canLeave (τ := τ) (x := x) (r := r) (p := (p - s) - s) (s := s) (Or.inl ⟨rfl, rfl, rfl⟩) (by omega) (by omega) ⟨by omega, by omega⟩ (by omega) hS.cw) (is := cod m1_comersTo 44) (L := [some (.inl 7), some (.inr x), some (.inr r), some (.inr p), some (.inr s), some (.inr (p - s)), some (.inr (whz (τ 4) r (p - s)))]) (st := []) rfl rfl rfl ?_
                show Ex _ _ (cod m1_comersTo 44, [some (.inl 7), some (.inr x), some (.inr r), some (.inr p), some (.inr s), some (.inr (p - s)), some (.inr (whz (τ 4) r (p - s)))], [.inr (b2 ((¬ whz (τ 4) r ((p - s) - s) = -1 ∧ ¬ whz (τ 4) r ((p - s) - s) = 8 ∧ cel (τ 4) (0 + (whz (τ 4) r ((p - s) - s)) * 6 + 0) = x ∧ ((cel (τ 4) (0 + (whz (τ 4) r ((p - s) - s)) * 6 + 0) = 0 ∧ s = 1) ∨ (¬ cel (τ 4) (0 + (whz (τ 4) r ((p - s) - s)) * 6 + 0) = 0 ∧ s = -1) ∨ cel (τ 4) (0 + (whz (τ 4) r ((p - s) - s)) * 6 + 3) = 1)) ∧ ¬ (((p - s) - s) - cel (τ 4) (96 + r) + 12) % 12 < cel (τ 4) (98 + r)))], τ) _ _
                refine ex_b (P := (b2 ((¬ whz (τ 4) r ((p - s) - s) = -1 ∧ ¬ whz (τ 4) r ((p - s) - s) = 8 ∧ cel (τ 4) (0 + (whz (τ 4) r ((p - s) - s)) * 6 + 0) = x ∧ ((cel (τ 4) (0 + (whz (τ 4) r ((p - s) - s)) * 6 + 0) = 0 ∧ s = 1) ∨ (¬ cel (τ 4) (0 + (whz (τ 4) r ((p - s) - s)) * 6 + 0) = 0 ∧ s = -1) ∨ cel (τ 4) (0 + (whz (τ 4) r ((p - s) - s)) * 6 + 3) = 1)) ∧ ¬ (((p - s) - s) - cel (τ 4) (96 + r) + 12) % 12 < cel (τ 4) (98 + r))) = 0) (ct := (cod m1_comersTo 47, [some (.inl 7), some (.inr x), some (.inr r), some (.inr p), some (.inr s), some (.inr (p - s)), some (.inr (whz (τ 4) r (p - s)))], [], τ)) (cf := (cod m1_comersTo 45, [some (.inl 7), some (.inr x), some (.inr r), some (.inr p), some (.inr s), some (.inr (p - s)), some (.inr (whz (τ 4) r (p - s)))], [], τ)) rfl b2_rng (fun h3 => ?_) (fun h3 => ?_)
                · first
                  | (exfalso; have h3 := b2_e0 h3; omega)
                  | (
                      have h3 := b2_e0 h3
                      refine ex_k 1 (P := none) (g := (cod m1_comersTo 48, [some (.inl 7), some (.inr x), some (.inr r), some (.inr p), some (.inr s), some (.inr (p - s)), some (.inr (whz (τ 4) r (p - s)))], [.inr 0], τ)) rfl trivial ?_
                      exact ex_r rfl trivial rfl (rI (by unfold cmr; (repeat (first | rw [if_pos (by omega)] | rw [if_neg (by omega)])); first | done | rfl | rw [b2_t (by omega)] | rw [b2_f (by omega)])))
                · first
                  | (exfalso; have h3 := b2_n0 h3; omega)
                  | (
                      have h3 := b2_n0 h3
                      refine ex_k 2 (P := none) (g := (cod m1_comersTo 48, [some (.inl 7), some (.inr x), some (.inr r), some (.inr p), some (.inr s), some (.inr (p - s)), some (.inr (whz (τ 4) r (p - s)))], [.inr 1], τ)) rfl trivial ?_
                      exact ex_r rfl trivial rfl (rI (by unfold cmr; (repeat (first | rw [if_pos (by omega)] | rw [if_neg (by omega)])); first | done | rfl | rw [b2_t (by omega)] | rw [b2_f (by omega)]))))
          · first
            | (exfalso; omega)
            | (
                refine ex_k 4 (P := none) (g := (cod m1_comersTo 22, [some (.inl 7), some (.inr x), some (.inr r), some (.inr p), some (.inr s), some (.inr (p - s)), some (.inr (whz (τ 4) r (p - s)))], [.inr 0, .inr (whz (τ 4) r (p - s)), .inl 1], τ)) rfl trivial ?_
                refine ex_c (s_number (τ := τ) (f := whz (τ 4) r (p - s)) (w := 0) (Or.inl ⟨rfl, rfl⟩) (by omega) (by omega)) (is := cod m1_comersTo 23) (L := [some (.inl 7), some (.inr x), some (.inr r), some (.inr p), some (.inr s), some (.inr (p - s)), some (.inr (whz (τ 4) r (p - s)))]) (st := []) rfl rfl rfl ?_
                show Ex _ _ (cod m1_comersTo 23, [some (.inl 7), some (.inr x), some (.inr r), some (.inr p), some (.inr s), some (.inr (p - s)), some (.inr (whz (τ 4) r (p - s)))], [.inr (cel (τ 4) (0 + (whz (τ 4) r (p - s)) * 6 + 0))], τ) _ _
                refine ex_k 1 (P := none) (g := (cod m1_comersTo 24, [some (.inl 7), some (.inr x), some (.inr r), some (.inr p), some (.inr s), some (.inr (p - s)), some (.inr (whz (τ 4) r (p - s)))], [.inr x, .inr (cel (τ 4) (0 + (whz (τ 4) r (p - s)) * 6 + 0))], τ)) rfl trivial ?_
                refine ex_b (P := ¬ (cel (τ 4) (0 + (whz (τ 4) r (p - s)) * 6 + 0)) = x) (ct := (cod m1_comersTo 36, [some (.inl 7), some (.inr x), some (.inr r), some (.inr p), some (.inr s), some (.inr (p - s)), some (.inr (whz (τ 4) r (p - s)))], [], τ)) (cf := (cod m1_comersTo 25, [some (.inl 7), some (.inr x), some (.inr r), some (.inr p), some (.inr s), some (.inr (p - s)), some (.inr (whz (τ 4) r (p - s)))], [], τ)) rfl ⟨⟨by omega, by omega⟩, ⟨by omega, by omega⟩⟩ (fun h4 => ?_) (fun h4 => ?_)
                · first
                  | (exfalso; omega)
                  | (
                      refine ex_k 7 (P := none) (g := (cod m1_comersTo 43, [some (.inl 7), some (.inr x), some (.inr r), some (.inr p), some (.inr s), some (.inr (p - s)), some (.inr (whz (τ 4) r (p - s)))], [.inr s, .inr ((p - s) - s), .inr r, .inr x, .inl 7], τ)) rfl trivial ?_
                      refine ex_c (s_canLeave (τ := τ) (x := x) (r := r) (p := (p - s) - s) (s := s) (Or.inl ⟨rfl, rfl, rfl⟩) (by omega) (by omega) ⟨by omega, by omega⟩ (by omega) hS.cw) (is := cod m1_comersTo 44) (L := [some (.inl 7), some (.inr x), some (.inr r), some (.inr p), some (.inr s), some (.inr (p - s)), some (.inr (whz (τ 4) r (p - s)))]) (st := []) rfl rfl rfl ?_
                      show Ex _ _ (cod m1_comersTo 44, [some (.inl 7), some (.inr x), some (.inr r), some (.inr p), some (.inr s), some (.inr (p - s)), some (.inr (whz (τ 4) r (p - s)))], [.inr (b2 ((¬ whz (τ 4) r ((p - s) - s) = -1 ∧ ¬ whz (τ 4) r ((p - s) - s) = 8 ∧ cel (τ 4) (0 + (whz (τ 4) r ((p - s) - s)) * 6 + 0) = x ∧ ((cel (τ 4) (0 + (whz (τ 4) r ((p - s) - s)) * 6 + 0) = 0 ∧ s = 1) ∨ (¬ cel (τ 4) (0 + (whz (τ 4) r ((p - s) - s)) * 6 + 0) = 0 ∧ s = -1) ∨ cel (τ 4) (0 + (whz (τ 4) r ((p - s) - s)) * 6 + 3) = 1)) ∧ ¬ (((p - s) - s) - cel (τ 4) (96 + r) + 12) % 12 < cel (τ 4) (98 + r)))], τ) _ _
                      refine ex_b (P := (b2 ((¬ whz (τ 4) r ((p - s) - s) = -1 ∧ ¬ whz (τ 4) r ((p - s) - s) = 8 ∧ cel (τ 4) (0 + (whz (τ 4) r ((p - s) - s)) * 6 + 0) = x ∧ ((cel (τ 4) (0 + (whz (τ 4) r ((p - s) - s)) * 6 + 0) = 0 ∧ s = 1) ∨ (¬ cel (τ 4) (0 + (whz (τ 4) r ((p - s) - s)) * 6 + 0) = 0 ∧ s = -1) ∨ cel (τ 4) (0 + (whz (τ 4) r ((p - s) - s)) * 6 + 3) = 1)) ∧ ¬ (((p - s) - s) - cel (τ 4) (96 + r) + 12) % 12 < cel (τ 4) (98 + r))) = 0) (ct := (cod m1_comersTo 47, [some (.inl 7), some (.inr x), some (.inr r), some (.inr p), some (.inr s), some (.inr (p - s)), some (.inr (whz (τ 4) r (p - s)))], [], τ)) (cf := (cod m1_comersTo 45, [some (.inl 7), some (.inr x), some (.inr r), some (.inr p), some (.inr s), some (.inr (p - s)), some (.inr (whz (τ 4) r (p - s)))], [], τ)) rfl b2_rng (fun h5 => ?_) (fun h5 => ?_)
                      · first
                        | (exfalso; have h5 := b2_e0 h5; omega)
                        | (
                            have h5 := b2_e0 h5
                            refine ex_k 1 (P := none) (g := (cod m1_comersTo 48, [some (.inl 7), some (.inr x), some (.inr r), some (.inr p), some (.inr s), some (.inr (p - s)), some (.inr (whz (τ 4) r (p - s)))], [.inr 0], τ)) rfl trivial ?_
                            exact ex_r rfl trivial rfl (rI (by unfold cmr; (repeat (first | rw [if_pos (by omega)] | rw [if_neg (by omega)])); first | done | rfl | rw [b2_t (by omega)] | rw [b2_f (by omega)])))
                      · first
                        | (exfalso; have h5 := b2_n0 h5; omega)
                        | (
                            have h5 := b2_n0 h5
                            refine ex_k 2 (P := none) (g := (cod m1_comersTo 48, [some (.inl 7), some (.inr x), some (.inr r), some (.inr p), some (.inr s), some (.inr (p - s)), some (.inr (whz (τ 4) r (p - s)))], [.inr 1], τ)) rfl trivial ?_
                            exact ex_r rfl trivial rfl (rI (by unfold cmr; (repeat (first | rw [if_pos (by omega)] | rw [if_neg (by omega)])); first | done | rfl | rw [b2_t (by omega)] | rw [b2_f (by omega)]))))
                · first
                  | (exfalso; omega)
                  | (
                      refine ex_k 5 (P := none) (g := (cod m1_comersTo 30, [some (.inl 7), some (.inr x), some (.inr r), some (.inr p), some (.inr s), some (.inr (p - s)), some (.inr (whz (τ 4) r (p - s)))], [.inr s, .inr (p - s), .inr r, .inr x, .inl 7], τ)) rfl trivial ?_
                      refine ex_c (s_canLeave (τ := τ) (x := x) (r := r) (p := p - s) (s := s) (Or.inl ⟨rfl, rfl, rfl⟩) (by omega) (by omega) ⟨by omega, by omega⟩ (by omega) hS.cw) (is := cod m1_comersTo 31) (L := [some (.inl 7), some (.inr x), some (.inr r), some (.inr p), some (.inr s), some (.inr (p - s)), some (.inr (whz (τ 4) r (p - s)))]) (st := []) rfl rfl rfl ?_
                      show Ex _ _ (cod m1_comersTo 31, [some (.inl 7), some (.inr x), some (.inr r), some (.inr p), some (.inr s), some (.inr (p - s)), some (.inr (whz (τ 4) r (p - s)))], [.inr (b2 ((¬ whz (τ 4) r (p - s) = -1 ∧ ¬ whz (τ 4) r (p - s) = 8 ∧ cel (τ 4) (0 + (whz (τ 4) r (p - s)) * 6 + 0) = x ∧ ((cel (τ 4) (0 + (whz (τ 4) r (p - s)) * 6 + 0) = 0 ∧ s = 1) ∨ (¬ cel (τ 4) (0 + (whz (τ 4) r (p - s)) * 6 + 0) = 0 ∧ s = -1) ∨ cel (τ 4) (0 + (whz (τ 4) r (p - s)) * 6 + 3) = 1)) ∧ ¬ ((p - s) - cel (τ 4) (96 + r) + 12) % 12 < cel (τ 4) (98 + r)))], τ) _ _
                      refine ex_b (P := (b2 ((¬ whz (τ 4) r (p - s) = -1 ∧ ¬ whz (τ 4) r (p - s) = 8 ∧ cel (τ 4) (0 + (whz (τ 4) r (p - s)) * 6 + 0) = x ∧ ((cel (τ 4) (0 + (whz (τ 4) r (p - s)) * 6 + 0) = 0 ∧ s = 1) ∨ (¬ cel (τ 4) (0 + (whz (τ 4) r (p - s)) * 6 + 0) = 0 ∧ s = -1) ∨ cel (τ 4) (0 + (whz (τ 4) r (p - s)) * 6 + 3) = 1)) ∧ ¬ ((p - s) - cel (τ 4) (96 + r) + 12) % 12 < cel (τ 4) (98 + r))) = 0) (ct := (cod m1_comersTo 34, [some (.inl 7), some (.inr x), some (.inr r), some (.inr p), some (.inr s), some (.inr (p - s)), some (.inr (whz (τ 4) r (p - s)))], [], τ)) (cf := (cod m1_comersTo 32, [some (.inl 7), some (.inr x), some (.inr r), some (.inr p), some (.inr s), some (.inr (p - s)), some (.inr (whz (τ 4) r (p - s)))], [], τ)) rfl b2_rng (fun h6 => ?_) (fun h6 => ?_)
                      · first
                        | (exfalso; have h6 := b2_e0 h6; omega)
                        | (
                            have h6 := b2_e0 h6
                            refine ex_k 1 (P := none) (g := (cod m1_comersTo 35, [some (.inl 7), some (.inr x), some (.inr r), some (.inr p), some (.inr s), some (.inr (p - s)), some (.inr (whz (τ 4) r (p - s)))], [.inr 0], τ)) rfl trivial ?_
                            exact ex_r rfl trivial rfl (rI (by unfold cmr; (repeat (first | rw [if_pos (by omega)] | rw [if_neg (by omega)])); first | done | rfl | rw [b2_t (by omega)] | rw [b2_f (by omega)])))
                      · first
                        | (exfalso; have h6 := b2_n0 h6; omega)
                        | (
                            have h6 := b2_n0 h6
                            refine ex_k 2 (P := none) (g := (cod m1_comersTo 35, [some (.inl 7), some (.inr x), some (.inr r), some (.inr p), some (.inr s), some (.inr (p - s)), some (.inr (whz (τ 4) r (p - s)))], [.inr 1], τ)) rfl trivial ?_
                            exact ex_r rfl trivial rfl (rI (by unfold cmr; (repeat (first | rw [if_pos (by omega)] | rw [if_neg (by omega)])); first | done | rfl | rw [b2_t (by omega)] | rw [b2_f (by omega)]))))))
    · first
      | (exfalso; omega)
      | (
          refine ex_k 1 (P := none) (g := (cod m1_comersTo 14, [some (.inl 7), some (.inr x), some (.inr r), some (.inr p), some (.inr s), some (.inr (p - s)), some (.inr (whz (τ 4) r (p - s)))], [.inr 0], τ)) rfl trivial ?_
          exact ex_r rfl trivial rfl (rI (by unfold cmr; (repeat (first | rw [if_pos (by omega)] | rw [if_neg (by omega)])); first | done | rfl | rw [b2_t (by omega)] | rw [b2_f (by omega)])))
  · refine Ex.call ?_ rfl rfl
    show Ex _ _ (cod m1_comersTo 0, [some (.inl 8), some (.inr x), some (.inr r), some (.inr p), some (.inr s), none, none], [], τ) _ _
    refine ex_k 8 (P := none) (g := (cod m1_comersTo 8, [some (.inl 8), some (.inr x), some (.inr r), some (.inr p), some (.inr s), some (.inr (p - s)), none], [.inr (p - s), .inr r, .inl 2], τ)) rfl trivial ?_
    refine ex_c (s_whoIsAt (τ := τ) (r := r) (p := p - s) (Or.inr (Or.inl ⟨rfl, rfl⟩)) (by omega) ⟨by omega, by omega⟩) (is := cod m1_comersTo 9) (L := [some (.inl 8), some (.inr x), some (.inr r), some (.inr p), some (.inr s), some (.inr (p - s)), none]) (st := []) rfl rfl rfl ?_
    show Ex _ _ (cod m1_comersTo 9, [some (.inl 8), some (.inr x), some (.inr r), some (.inr p), some (.inr s), some (.inr (p - s)), none], [.inr (whz (τ 5) r (p - s))], τ) _ _
    refine ex_k 3 (P := none) (g := (cod m1_comersTo 12, [some (.inl 8), some (.inr x), some (.inr r), some (.inr p), some (.inr s), some (.inr (p - s)), some (.inr (whz (τ 5) r (p - s)))], [.inr (-1), .inr (whz (τ 5) r (p - s))], τ)) rfl trivial ?_
    refine ex_b (P := ¬ (whz (τ 5) r (p - s)) = (-1)) (ct := (cod m1_comersTo 15, [some (.inl 8), some (.inr x), some (.inr r), some (.inr p), some (.inr s), some (.inr (p - s)), some (.inr (whz (τ 5) r (p - s)))], [], τ)) (cf := (cod m1_comersTo 13, [some (.inl 8), some (.inr x), some (.inr r), some (.inr p), some (.inr s), some (.inr (p - s)), some (.inr (whz (τ 5) r (p - s)))], [], τ)) rfl ⟨⟨by omega, by omega⟩, ⟨by decide, by decide⟩⟩ (fun h1 => ?_) (fun h1 => ?_)
    · first
      | (exfalso; omega)
      | (
          refine ex_k 2 (P := none) (g := (cod m1_comersTo 17, [some (.inl 8), some (.inr x), some (.inr r), some (.inr p), some (.inr s), some (.inr (p - s)), some (.inr (whz (τ 5) r (p - s)))], [.inr 8, .inr (whz (τ 5) r (p - s))], τ)) rfl trivial ?_
          refine ex_b (P := (whz (τ 5) r (p - s)) = 8) (ct := (cod m1_comersTo 36, [some (.inl 8), some (.inr x), some (.inr r), some (.inr p), some (.inr s), some (.inr (p - s)), some (.inr (whz (τ 5) r (p - s)))], [], τ)) (cf := (cod m1_comersTo 18, [some (.inl 8), some (.inr x), some (.inr r), some (.inr p), some (.inr s), some (.inr (p - s)), some (.inr (whz (τ 5) r (p - s)))], [], τ)) rfl ⟨⟨by omega, by omega⟩, ⟨by decide, by decide⟩⟩ (fun h2 => ?_) (fun h2 => ?_)
          · first
            | (exfalso; omega)
            | (
                refine ex_k 7 (P := none) (g := (cod m1_comersTo 43, [some (.inl 8), some (.inr x), some (.inr r), some (.inr p), some (.inr s), some (.inr (p - s)), some (.inr (whz (τ 5) r (p - s)))], [.inr s, .inr ((p - s) - s), .inr r, .inr x, .inl 8], τ)) rfl trivial ?_
                refine ex_c (s_canLeave (τ := τ) (x := x) (r := r) (p := (p - s) - s) (s := s) (Or.inr ⟨rfl, rfl, rfl⟩) (by omega) (by omega) ⟨by omega, by omega⟩ (by omega) hS.cw) (is := cod m1_comersTo 44) (L := [some (.inl 8), some (.inr x), some (.inr r), some (.inr p), some (.inr s), some (.inr (p - s)), some (.inr (whz (τ 5) r (p - s)))]) (st := []) rfl rfl rfl ?_
                show Ex _ _ (cod m1_comersTo 44, [some (.inl 8), some (.inr x), some (.inr r), some (.inr p), some (.inr s), some (.inr (p - s)), some (.inr (whz (τ 5) r (p - s)))], [.inr (b2 ((¬ whz (τ 5) r ((p - s) - s) = -1 ∧ ¬ whz (τ 5) r ((p - s) - s) = 8 ∧ cel (τ 5) (0 + (whz (τ 5) r ((p - s) - s)) * 6 + 0) = x ∧ ((cel (τ 5) (0 + (whz (τ 5) r ((p - s) - s)) * 6 + 0) = 0 ∧ s = 1) ∨ (¬ cel (τ 5) (0 + (whz (τ 5) r ((p - s) - s)) * 6 + 0) = 0 ∧ s = -1) ∨ cel (τ 5) (0 + (whz (τ 5) r ((p - s) - s)) * 6 + 3) = 1)) ∧ ¬ (((p - s) - s) - cel (τ 5) (96 + r) + 12) % 12 < cel (τ 5) (98 + r)))], τ) _ _
                refine ex_b (P := (b2 ((¬ whz (τ 5) r ((p - s) - s) = -1 ∧ ¬ whz (τ 5) r ((p - s) - s) = 8 ∧ cel (τ 5) (0 + (whz (τ 5) r ((p - s) - s)) * 6 + 0) = x ∧ ((cel (τ 5) (0 + (whz (τ 5) r ((p - s) - s)) * 6 + 0) = 0 ∧ s = 1) ∨ (¬ cel (τ 5) (0 + (whz (τ 5) r ((p - s) - s)) * 6 + 0) = 0 ∧ s = -1) ∨ cel (τ 5) (0 + (whz (τ 5) r ((p - s) - s)) * 6 + 3) = 1)) ∧ ¬ (((p - s) - s) - cel (τ 5) (96 + r) + 12) % 12 < cel (τ 5) (98 + r))) = 0) (ct := (cod m1_comersTo 47, [some (.inl 8), some (.inr x), some (.inr r), some (.inr p), some (.inr s), some (.inr (p - s)), some (.inr (whz (τ 5) r (p - s)))], [], τ)) (cf := (cod m1_comersTo 45, [some (.inl 8), some (.inr x), some (.inr r), some (.inr p), some (.inr s), some (.inr (p - s)), some (.inr (whz (τ 5) r (p - s)))], [], τ)) rfl b2_rng (fun h3 => ?_) (fun h3 => ?_)
                · first
                  | (exfalso; have h3 := b2_e0 h3; omega)
                  | (
                      have h3 := b2_e0 h3
                      refine ex_k 1 (P := none) (g := (cod m1_comersTo 48, [some (.inl 8), some (.inr x), some (.inr r), some (.inr p), some (.inr s), some (.inr (p - s)), some (.inr (whz (τ 5) r (p - s)))], [.inr 0], τ)) rfl trivial ?_
                      exact ex_r rfl trivial rfl (rI (by unfold cmr; (repeat (first | rw [if_pos (by omega)] | rw [if_neg (by omega)])); first | done | rfl | rw [b2_t (by omega)] | rw [b2_f (by omega)])))
                · first
                  | (exfalso; have h3 := b2_n0 h3; omega)
                  | (
                      have h3 := b2_n0 h3
                      refine ex_k 2 (P := none) (g := (cod m1_comersTo 48, [some (.inl 8), some (.inr x), some (.inr r), some (.inr p), some (.inr s), some (.inr (p - s)), some (.inr (whz (τ 5) r (p - s)))], [.inr 1], τ)) rfl trivial ?_
                      exact ex_r rfl trivial rfl (rI (by unfold cmr; (repeat (first | rw [if_pos (by omega)] | rw [if_neg (by omega)])); first | done | rfl | rw [b2_t (by omega)] | rw [b2_f (by omega)]))))
          · first
            | (exfalso; omega)
            | (
                refine ex_k 4 (P := none) (g := (cod m1_comersTo 22, [some (.inl 8), some (.inr x), some (.inr r), some (.inr p), some (.inr s), some (.inr (p - s)), some (.inr (whz (τ 5) r (p - s)))], [.inr 0, .inr (whz (τ 5) r (p - s)), .inl 2], τ)) rfl trivial ?_
                refine ex_c (s_number (τ := τ) (f := whz (τ 5) r (p - s)) (w := 0) (Or.inr (Or.inl ⟨rfl, rfl⟩)) (by omega) (by omega)) (is := cod m1_comersTo 23) (L := [some (.inl 8), some (.inr x), some (.inr r), some (.inr p), some (.inr s), some (.inr (p - s)), some (.inr (whz (τ 5) r (p - s)))]) (st := []) rfl rfl rfl ?_
                show Ex _ _ (cod m1_comersTo 23, [some (.inl 8), some (.inr x), some (.inr r), some (.inr p), some (.inr s), some (.inr (p - s)), some (.inr (whz (τ 5) r (p - s)))], [.inr (cel (τ 5) (0 + (whz (τ 5) r (p - s)) * 6 + 0))], τ) _ _
                refine ex_k 1 (P := none) (g := (cod m1_comersTo 24, [some (.inl 8), some (.inr x), some (.inr r), some (.inr p), some (.inr s), some (.inr (p - s)), some (.inr (whz (τ 5) r (p - s)))], [.inr x, .inr (cel (τ 5) (0 + (whz (τ 5) r (p - s)) * 6 + 0))], τ)) rfl trivial ?_
                refine ex_b (P := ¬ (cel (τ 5) (0 + (whz (τ 5) r (p - s)) * 6 + 0)) = x) (ct := (cod m1_comersTo 36, [some (.inl 8), some (.inr x), some (.inr r), some (.inr p), some (.inr s), some (.inr (p - s)), some (.inr (whz (τ 5) r (p - s)))], [], τ)) (cf := (cod m1_comersTo 25, [some (.inl 8), some (.inr x), some (.inr r), some (.inr p), some (.inr s), some (.inr (p - s)), some (.inr (whz (τ 5) r (p - s)))], [], τ)) rfl ⟨⟨by omega, by omega⟩, ⟨by omega, by omega⟩⟩ (fun h4 => ?_) (fun h4 => ?_)
                · first
                  | (exfalso; omega)
                  | (
                      refine ex_k 7 (P := none) (g := (cod m1_comersTo 43, [some (.inl 8), some (.inr x), some (.inr r), some (.inr p), some (.inr s), some (.inr (p - s)), some (.inr (whz (τ 5) r (p - s)))], [.inr s, .inr ((p - s) - s), .inr r, .inr x, .inl 8], τ)) rfl trivial ?_
                      refine ex_c (s_canLeave (τ := τ) (x := x) (r := r) (p := (p - s) - s) (s := s) (Or.inr ⟨rfl, rfl, rfl⟩) (by omega) (by omega) ⟨by omega, by omega⟩ (by omega) hS.cw) (is := cod m1_comersTo 44) (L := [some (.inl 8), some (.inr x), some (.inr r), some (.inr p), some (.inr s), some (.inr (p - s)), some (.inr (whz (τ 5) r (p - s)))]) (st := []) rfl rfl rfl ?_
                      show Ex _ _ (cod m1_comersTo 44, [some (.inl 8), some (.inr x), some (.inr r), some (.inr p), some (.inr s), some (.inr (p - s)), some (.inr (whz (τ 5) r (p - s)))], [.inr (b2 ((¬ whz (τ 5) r ((p - s) - s) = -1 ∧ ¬ whz (τ 5) r ((p - s) - s) = 8 ∧ cel (τ 5) (0 + (whz (τ 5) r ((p - s) - s)) * 6 + 0) = x ∧ ((cel (τ 5) (0 + (whz (τ 5) r ((p - s) - s)) * 6 + 0) = 0 ∧ s = 1) ∨ (¬ cel (τ 5) (0 + (whz (τ 5) r ((p - s) - s)) * 6 + 0) = 0 ∧ s = -1) ∨ cel (τ 5) (0 + (whz (τ 5) r ((p - s) - s)) * 6 + 3) = 1)) ∧ ¬ (((p - s) - s) - cel (τ 5) (96 + r) + 12) % 12 < cel (τ 5) (98 + r)))], τ) _ _
                      refine ex_b (P := (b2 ((¬ whz (τ 5) r ((p - s) - s) = -1 ∧ ¬ whz (τ 5) r ((p - s) - s) = 8 ∧ cel (τ 5) (0 + (whz (τ 5) r ((p - s) - s)) * 6 + 0) = x ∧ ((cel (τ 5) (0 + (whz (τ 5) r ((p - s) - s)) * 6 + 0) = 0 ∧ s = 1) ∨ (¬ cel (τ 5) (0 + (whz (τ 5) r ((p - s) - s)) * 6 + 0) = 0 ∧ s = -1) ∨ cel (τ 5) (0 + (whz (τ 5) r ((p - s) - s)) * 6 + 3) = 1)) ∧ ¬ (((p - s) - s) - cel (τ 5) (96 + r) + 12) % 12 < cel (τ 5) (98 + r))) = 0) (ct := (cod m1_comersTo 47, [some (.inl 8), some (.inr x), some (.inr r), some (.inr p), some (.inr s), some (.inr (p - s)), some (.inr (whz (τ 5) r (p - s)))], [], τ)) (cf := (cod m1_comersTo 45, [some (.inl 8), some (.inr x), some (.inr r), some (.inr p), some (.inr s), some (.inr (p - s)), some (.inr (whz (τ 5) r (p - s)))], [], τ)) rfl b2_rng (fun h5 => ?_) (fun h5 => ?_)
                      · first
                        | (exfalso; have h5 := b2_e0 h5; omega)
                        | (
                            have h5 := b2_e0 h5
                            refine ex_k 1 (P := none) (g := (cod m1_comersTo 48, [some (.inl 8), some (.inr x), some (.inr r), some (.inr p), some (.inr s), some (.inr (p - s)), some (.inr (whz (τ 5) r (p - s)))], [.inr 0], τ)) rfl trivial ?_
                            exact ex_r rfl trivial rfl (rI (by unfold cmr; (repeat (first | rw [if_pos (by omega)] | rw [if_neg (by omega)])); first | done | rfl | rw [b2_t (by omega)] | rw [b2_f (by omega)])))
                      · first
                        | (exfalso; have h5 := b2_n0 h5; omega)
                        | (
                            have h5 := b2_n0 h5
                            refine ex_k 2 (P := none) (g := (cod m1_comersTo 48, [some (.inl 8), some (.inr x), some (.inr r), some (.inr p), some (.inr s), some (.inr (p - s)), some (.inr (whz (τ 5) r (p - s)))], [.inr 1], τ)) rfl trivial ?_
                            exact ex_r rfl trivial rfl (rI (by unfold cmr; (repeat (first | rw [if_pos (by omega)] | rw [if_neg (by omega)])); first | done | rfl | rw [b2_t (by omega)] | rw [b2_f (by omega)]))))
                · first
                  | (exfalso; omega)
                  | (
                      refine ex_k 5 (P := none) (g := (cod m1_comersTo 30, [some (.inl 8), some (.inr x), some (.inr r), some (.inr p), some (.inr s), some (.inr (p - s)), some (.inr (whz (τ 5) r (p - s)))], [.inr s, .inr (p - s), .inr r, .inr x, .inl 8], τ)) rfl trivial ?_
                      refine ex_c (s_canLeave (τ := τ) (x := x) (r := r) (p := p - s) (s := s) (Or.inr ⟨rfl, rfl, rfl⟩) (by omega) (by omega) ⟨by omega, by omega⟩ (by omega) hS.cw) (is := cod m1_comersTo 31) (L := [some (.inl 8), some (.inr x), some (.inr r), some (.inr p), some (.inr s), some (.inr (p - s)), some (.inr (whz (τ 5) r (p - s)))]) (st := []) rfl rfl rfl ?_
                      show Ex _ _ (cod m1_comersTo 31, [some (.inl 8), some (.inr x), some (.inr r), some (.inr p), some (.inr s), some (.inr (p - s)), some (.inr (whz (τ 5) r (p - s)))], [.inr (b2 ((¬ whz (τ 5) r (p - s) = -1 ∧ ¬ whz (τ 5) r (p - s) = 8 ∧ cel (τ 5) (0 + (whz (τ 5) r (p - s)) * 6 + 0) = x ∧ ((cel (τ 5) (0 + (whz (τ 5) r (p - s)) * 6 + 0) = 0 ∧ s = 1) ∨ (¬ cel (τ 5) (0 + (whz (τ 5) r (p - s)) * 6 + 0) = 0 ∧ s = -1) ∨ cel (τ 5) (0 + (whz (τ 5) r (p - s)) * 6 + 3) = 1)) ∧ ¬ ((p - s) - cel (τ 5) (96 + r) + 12) % 12 < cel (τ 5) (98 + r)))], τ) _ _
                      refine ex_b (P := (b2 ((¬ whz (τ 5) r (p - s) = -1 ∧ ¬ whz (τ 5) r (p - s) = 8 ∧ cel (τ 5) (0 + (whz (τ 5) r (p - s)) * 6 + 0) = x ∧ ((cel (τ 5) (0 + (whz (τ 5) r (p - s)) * 6 + 0) = 0 ∧ s = 1) ∨ (¬ cel (τ 5) (0 + (whz (τ 5) r (p - s)) * 6 + 0) = 0 ∧ s = -1) ∨ cel (τ 5) (0 + (whz (τ 5) r (p - s)) * 6 + 3) = 1)) ∧ ¬ ((p - s) - cel (τ 5) (96 + r) + 12) % 12 < cel (τ 5) (98 + r))) = 0) (ct := (cod m1_comersTo 34, [some (.inl 8), some (.inr x), some (.inr r), some (.inr p), some (.inr s), some (.inr (p - s)), some (.inr (whz (τ 5) r (p - s)))], [], τ)) (cf := (cod m1_comersTo 32, [some (.inl 8), some (.inr x), some (.inr r), some (.inr p), some (.inr s), some (.inr (p - s)), some (.inr (whz (τ 5) r (p - s)))], [], τ)) rfl b2_rng (fun h6 => ?_) (fun h6 => ?_)
                      · first
                        | (exfalso; have h6 := b2_e0 h6; omega)
                        | (
                            have h6 := b2_e0 h6
                            refine ex_k 1 (P := none) (g := (cod m1_comersTo 35, [some (.inl 8), some (.inr x), some (.inr r), some (.inr p), some (.inr s), some (.inr (p - s)), some (.inr (whz (τ 5) r (p - s)))], [.inr 0], τ)) rfl trivial ?_
                            exact ex_r rfl trivial rfl (rI (by unfold cmr; (repeat (first | rw [if_pos (by omega)] | rw [if_neg (by omega)])); first | done | rfl | rw [b2_t (by omega)] | rw [b2_f (by omega)])))
                      · first
                        | (exfalso; have h6 := b2_n0 h6; omega)
                        | (
                            have h6 := b2_n0 h6
                            refine ex_k 2 (P := none) (g := (cod m1_comersTo 35, [some (.inl 8), some (.inr x), some (.inr r), some (.inr p), some (.inr s), some (.inr (p - s)), some (.inr (whz (τ 5) r (p - s)))], [.inr 1], τ)) rfl trivial ?_
                            exact ex_r rfl trivial rfl (rI (by unfold cmr; (repeat (first | rw [if_pos (by omega)] | rw [if_neg (by omega)])); first | done | rfl | rw [b2_t (by omega)] | rw [b2_f (by omega)]))))))
    · first
      | (exfalso; omega)
      | (
          refine ex_k 1 (P := none) (g := (cod m1_comersTo 14, [some (.inl 8), some (.inr x), some (.inr r), some (.inr p), some (.inr s), some (.inr (p - s)), some (.inr (whz (τ 5) r (p - s)))], [.inr 0], τ)) rfl trivial ?_
          exact ex_r rfl trivial rfl (rI (by unfold cmr; (repeat (first | rw [if_pos (by omega)] | rw [if_neg (by omega)])); first | done | rfl | rw [b2_t (by omega)] | rw [b2_f (by omega)])))
abbrev mbf (c : Nat → Int) (x : Int) (N : Nat) : Int := sm (fun k => if cel c (0 + (k : Int) * 6 + 0) = x then mvo c (k : Int) else 0) N
theorem lp_movesByFerry_4 {τ : SZ} {N : Nat} {x : Int} {B : Int} (hx : 0 ≤ x ∧ x < 2) (hS : Sh B (τ 4)) (hn : cel (τ 4) 107 = (N : Int)) : ∀ (j k : Nat), k + j = N → ∀ (z v : Int), z = (k : Int) → v = sm (fun k => if cel (τ 4) (0 + (k : Int) * 6 + 0) = x then mvo (τ 4) (k : Int) else 0) k → Ex 4 m1_movesByFerry (cod m1_movesByFerry 4, [some (.inl 7), some (.inr x), some (.inr v), some (.inr z)], [], τ) 0 (.inl (some (.inr (mbf (τ 4) x N)), τ)) := by
  intro j
  induction j with
  | zero =>
    intro k hk z v  hz hv
    have hN := hS.n
    have hb := cel_bd hS.bd (0 + z * 6 + 0)
    have hj := @mvo_in (τ 4) z
    refine ex_k 4 (P := none) (g := (cod m1_movesByFerry 8, [some (.inl 7), some (.inr x), some (.inr v), some (.inr z)], [.inr 7, .inl 1, .inr z], τ)) rfl trivial ?_
    refine ex_c (s_total (τ := τ) (w := 7) (Or.inl ⟨rfl, rfl⟩) (by omega)) (is := cod m1_movesByFerry 9) (L := [some (.inl 7), some (.inr x), some (.inr v), some (.inr z)]) (st := [.inr z]) rfl rfl rfl ?_
    show Ex _ _ (cod m1_movesByFerry 9, [some (.inl 7), some (.inr x), some (.inr v), some (.inr z)], [.inr (cel (τ 4) 107), .inr z], τ) _ _
    refine ex_b (P := (cel (τ 4) 107) ≤ z) (ct := (cod m1_movesByFerry 25, [some (.inl 7), some (.inr x), some (.inr v), some (.inr z)], [], τ)) (cf := (cod m1_movesByFerry 10, [some (.inl 7), some (.inr x), some (.inr v), some (.inr z)], [], τ)) rfl ⟨⟨by omega, by omega⟩, ⟨by omega, by omega⟩⟩ (fun _ => ?_) (fun hh => absurd (by omega) hh)
    refine ex_k 1 (P := none) (g := (cod m1_movesByFerry 26, [some (.inl 7), some (.inr x), some (.inr v), some (.inr z)], [.inr v], τ)) rfl trivial ?_
    exact ex_r rfl trivial rfl (rI (by rw [hv]; congr 1; omega))
  | succ j ih =>
    intro k hk z v  hz hv
    have hN := hS.n
    have hb := cel_bd hS.bd (0 + z * 6 + 0)
    have hj := @mvo_in (τ 4) z
    refine ex_k 4 (P := none) (g := (cod m1_movesByFerry 8, [some (.inl 7), some (.inr x), some (.inr v), some (.inr z)], [.inr 7, .inl 1, .inr z], τ)) rfl trivial ?_
    refine ex_c (s_total (τ := τ) (w := 7) (Or.inl ⟨rfl, rfl⟩) (by omega)) (is := cod m1_movesByFerry 9) (L := [some (.inl 7), some (.inr x), some (.inr v), some (.inr z)]) (st := [.inr z]) rfl rfl rfl ?_
    show Ex _ _ (cod m1_movesByFerry 9, [some (.inl 7), some (.inr x), some (.inr v), some (.inr z)], [.inr (cel (τ 4) 107), .inr z], τ) _ _
    refine ex_b (P := (cel (τ 4) 107) ≤ z) (ct := (cod m1_movesByFerry 25, [some (.inl 7), some (.inr x), some (.inr v), some (.inr z)], [], τ)) (cf := (cod m1_movesByFerry 10, [some (.inl 7), some (.inr x), some (.inr v), some (.inr z)], [], τ)) rfl ⟨⟨by omega, by omega⟩, ⟨by omega, by omega⟩⟩ (fun hh => absurd hh (by omega)) (fun _ => ?_)
    refine ex_k 4 (P := none) (g := (cod m1_movesByFerry 14, [some (.inl 7), some (.inr x), some (.inr v), some (.inr z)], [.inr 0, .inr z, .inl 1], τ)) rfl trivial ?_
    refine ex_c (s_number (τ := τ) (f := z) (w := 0) (Or.inl ⟨rfl, rfl⟩) (by omega) (by omega)) (is := cod m1_movesByFerry 15) (L := [some (.inl 7), some (.inr x), some (.inr v), some (.inr z)]) (st := []) rfl rfl rfl ?_
    show Ex _ _ (cod m1_movesByFerry 15, [some (.inl 7), some (.inr x), some (.inr v), some (.inr z)], [.inr (cel (τ 4) (0 + z * 6 + 0))], τ) _ _
    refine ex_k 1 (P := none) (g := (cod m1_movesByFerry 16, [some (.inl 7), some (.inr x), some (.inr v), some (.inr z)], [.inr x, .inr (cel (τ 4) (0 + z * 6 + 0))], τ)) rfl trivial ?_
    refine ex_b (P := ¬ (cel (τ 4) (0 + z * 6 + 0)) = x) (ct := (cod m1_movesByFerry 23, [some (.inl 7), some (.inr x), some (.inr v), some (.inr z)], [], τ)) (cf := (cod m1_movesByFerry 17, [some (.inl 7), some (.inr x), some (.inr v), some (.inr z)], [], τ)) rfl ⟨⟨by omega, by omega⟩, ⟨by omega, by omega⟩⟩ (fun h2 => ?_) (fun h2 => ?_)
    · first
      | (exfalso; omega)
      | (
          refine ex_k 2 (P := none) (g := (cod m1_movesByFerry 4, [some (.inl 7), some (.inr x), some (.inr v), some (.inr (z + 1))], [], τ)) rfl trivial ?_
          exact ih (k + 1) (by omega) _ _  (by omega) (by subst hz; first | exact add_t hv (by omega) | exact add_f hv (by omega)))
    · first
      | (exfalso; omega)
      | (
          refine ex_k 3 (P := none) (g := (cod m1_movesByFerry 20, [some (.inl 7), some (.inr x), some (.inr v), some (.inr z)], [.inr z, .inl 7, .inr v], τ)) rfl trivial ?_
          refine ex_c (s_movesOf (τ := τ) (f := z) (Or.inl ⟨rfl, rfl, rfl⟩) (by omega) hS) (is := cod m1_movesByFerry 21) (L := [some (.inl 7), some (.inr x), some (.inr v), some (.inr z)]) (st := [.inr v]) rfl rfl rfl ?_
          show Ex _ _ (cod m1_movesByFerry 21, [some (.inl 7), some (.inr x), some (.inr v), some (.inr z)], [.inr (mvo (τ 4) z), .inr v], τ) _ _
          refine ex_k 4 (P := none) (g := (cod m1_movesByFerry 4, [some (.inl 7), some (.inr x), some (.inr (v + (mvo (τ 4) z))), some (.inr (z + 1))], [], τ)) rfl trivial ?_
          exact ih (k + 1) (by omega) _ _  (by omega) (by subst hz; first | exact add_t hv (by omega) | exact add_f hv (by omega)))
theorem lp_movesByFerry_5 {τ : SZ} {N : Nat} {x : Int} {B : Int} (hx : 0 ≤ x ∧ x < 2) (hS : Sh B (τ 5)) (hn : cel (τ 5) 107 = (N : Int)) : ∀ (j k : Nat), k + j = N → ∀ (z v : Int), z = (k : Int) → v = sm (fun k => if cel (τ 5) (0 + (k : Int) * 6 + 0) = x then mvo (τ 5) (k : Int) else 0) k → Ex 4 m1_movesByFerry (cod m1_movesByFerry 4, [some (.inl 8), some (.inr x), some (.inr v), some (.inr z)], [], τ) 0 (.inl (some (.inr (mbf (τ 5) x N)), τ)) := by
  intro j
  induction j with
  | zero =>
    intro k hk z v  hz hv
    have hN := hS.n
    have hb := cel_bd hS.bd (0 + z * 6 + 0)
    have hj := @mvo_in (τ 5) z
    refine ex_k 4 (P := none) (g := (cod m1_movesByFerry 8, [some (.inl 8), some (.inr x), some (.inr v), some (.inr z)], [.inr 7, .inl 2, .inr z], τ)) rfl trivial ?_
    refine ex_c (s_total (τ := τ) (w := 7) (Or.inr (Or.inl ⟨rfl, rfl⟩)) (by omega)) (is := cod m1_movesByFerry 9) (L := [some (.inl 8), some (.inr x), some (.inr v), some (.inr z)]) (st := [.inr z]) rfl rfl rfl ?_
    show Ex _ _ (cod m1_movesByFerry 9, [some (.inl 8), some (.inr x), some (.inr v), some (.inr z)], [.inr (cel (τ 5) 107), .inr z], τ) _ _
    refine ex_b (P := (cel (τ 5) 107) ≤ z) (ct := (cod m1_movesByFerry 25, [some (.inl 8), some (.inr x), some (.inr v), some (.inr z)], [], τ)) (cf := (cod m1_movesByFerry 10, [some (.inl 8), some (.inr x), some (.inr v), some (.inr z)], [], τ)) rfl ⟨⟨by omega, by omega⟩, ⟨by omega, by omega⟩⟩ (fun _ => ?_) (fun hh => absurd (by omega) hh)
    refine ex_k 1 (P := none) (g := (cod m1_movesByFerry 26, [some (.inl 8), some (.inr x), some (.inr v), some (.inr z)], [.inr v], τ)) rfl trivial ?_
    exact ex_r rfl trivial rfl (rI (by rw [hv]; congr 1; omega))
  | succ j ih =>
    intro k hk z v  hz hv
    have hN := hS.n
    have hb := cel_bd hS.bd (0 + z * 6 + 0)
    have hj := @mvo_in (τ 5) z
    refine ex_k 4 (P := none) (g := (cod m1_movesByFerry 8, [some (.inl 8), some (.inr x), some (.inr v), some (.inr z)], [.inr 7, .inl 2, .inr z], τ)) rfl trivial ?_
    refine ex_c (s_total (τ := τ) (w := 7) (Or.inr (Or.inl ⟨rfl, rfl⟩)) (by omega)) (is := cod m1_movesByFerry 9) (L := [some (.inl 8), some (.inr x), some (.inr v), some (.inr z)]) (st := [.inr z]) rfl rfl rfl ?_
    show Ex _ _ (cod m1_movesByFerry 9, [some (.inl 8), some (.inr x), some (.inr v), some (.inr z)], [.inr (cel (τ 5) 107), .inr z], τ) _ _
    refine ex_b (P := (cel (τ 5) 107) ≤ z) (ct := (cod m1_movesByFerry 25, [some (.inl 8), some (.inr x), some (.inr v), some (.inr z)], [], τ)) (cf := (cod m1_movesByFerry 10, [some (.inl 8), some (.inr x), some (.inr v), some (.inr z)], [], τ)) rfl ⟨⟨by omega, by omega⟩, ⟨by omega, by omega⟩⟩ (fun hh => absurd hh (by omega)) (fun _ => ?_)
    refine ex_k 4 (P := none) (g := (cod m1_movesByFerry 14, [some (.inl 8), some (.inr x), some (.inr v), some (.inr z)], [.inr 0, .inr z, .inl 2], τ)) rfl trivial ?_
    refine ex_c (s_number (τ := τ) (f := z) (w := 0) (Or.inr (Or.inl ⟨rfl, rfl⟩)) (by omega) (by omega)) (is := cod m1_movesByFerry 15) (L := [some (.inl 8), some (.inr x), some (.inr v), some (.inr z)]) (st := []) rfl rfl rfl ?_
    show Ex _ _ (cod m1_movesByFerry 15, [some (.inl 8), some (.inr x), some (.inr v), some (.inr z)], [.inr (cel (τ 5) (0 + z * 6 + 0))], τ) _ _
    refine ex_k 1 (P := none) (g := (cod m1_movesByFerry 16, [some (.inl 8), some (.inr x), some (.inr v), some (.inr z)], [.inr x, .inr (cel (τ 5) (0 + z * 6 + 0))], τ)) rfl trivial ?_
    refine ex_b (P := ¬ (cel (τ 5) (0 + z * 6 + 0)) = x) (ct := (cod m1_movesByFerry 23, [some (.inl 8), some (.inr x), some (.inr v), some (.inr z)], [], τ)) (cf := (cod m1_movesByFerry 17, [some (.inl 8), some (.inr x), some (.inr v), some (.inr z)], [], τ)) rfl ⟨⟨by omega, by omega⟩, ⟨by omega, by omega⟩⟩ (fun h2 => ?_) (fun h2 => ?_)
    · first
      | (exfalso; omega)
      | (
          refine ex_k 2 (P := none) (g := (cod m1_movesByFerry 4, [some (.inl 8), some (.inr x), some (.inr v), some (.inr (z + 1))], [], τ)) rfl trivial ?_
          exact ih (k + 1) (by omega) _ _  (by omega) (by subst hz; first | exact add_t hv (by omega) | exact add_f hv (by omega)))
    · first
      | (exfalso; omega)
      | (
          refine ex_k 3 (P := none) (g := (cod m1_movesByFerry 20, [some (.inl 8), some (.inr x), some (.inr v), some (.inr z)], [.inr z, .inl 8, .inr v], τ)) rfl trivial ?_
          refine ex_c (s_movesOf (τ := τ) (f := z) (Or.inr ⟨rfl, rfl, rfl⟩) (by omega) hS) (is := cod m1_movesByFerry 21) (L := [some (.inl 8), some (.inr x), some (.inr v), some (.inr z)]) (st := [.inr v]) rfl rfl rfl ?_
          show Ex _ _ (cod m1_movesByFerry 21, [some (.inl 8), some (.inr x), some (.inr v), some (.inr z)], [.inr (mvo (τ 5) z), .inr v], τ) _ _
          refine ex_k 4 (P := none) (g := (cod m1_movesByFerry 4, [some (.inl 8), some (.inr x), some (.inr (v + (mvo (τ 5) z))), some (.inr (z + 1))], [], τ)) rfl trivial ?_
          exact ih (k + 1) (by omega) _ _  (by omega) (by subst hz; first | exact add_t hv (by omega) | exact add_f hv (by omega)))
theorem s_movesByFerry {γ ρ a : Nat} {N : Nat} {x : Int} {B : Int} {τ : SZ} (hγ : GA γ ρ a) (hx : 0 ≤ x ∧ x < 2) (hS : Sh B (τ a)) (hn : cel (τ a) 107 = (N : Int)) : RZ 5 m1_movesByFerry [.inl γ, .inr x] τ (.inl (some (.inr (mbf (τ a) x N)), τ)) := by
  rcases hγ with ⟨rfl, rfl, rfl⟩ | ⟨rfl, rfl, rfl⟩
  · refine Ex.call ?_ rfl rfl
    show Ex _ _ (cod m1_movesByFerry 0, [some (.inl 7), some (.inr x), none, none], [], τ) _ _
    refine ex_k 4 (P := none) (g := (cod m1_movesByFerry 4, [some (.inl 7), some (.inr x), some (.inr 0), some (.inr 0)], [], τ)) rfl trivial ?_
    exact lp_movesByFerry_4 hx hS hn N 0 (by omega) 0 0 rfl rfl
  · refine Ex.call ?_ rfl rfl
    show Ex _ _ (cod m1_movesByFerry 0, [some (.inl 8), some (.inr x), none, none], [], τ) _ _
    refine ex_k 4 (P := none) (g := (cod m1_movesByFerry 4, [some (.inl 8), some (.inr x), some (.inr 0), some (.inr 0)], [], τ)) rfl trivial ?_
    exact lp_movesByFerry_5 hx hS hn N 0 (by omega) 0 0 rfl rfl
abbrev cbj (c : Nat → Int) (x : Int) (N : Nat) : Int := sm (fun k => if cel c (0 + (k : Int) * 6 + 0) = x then jby c (k : Int) else 0) N
theorem lp_capturesByJumper_4 {τ : SZ} {N : Nat} {x : Int} {B : Int} (hx : 0 ≤ x ∧ x < 2) (hS : Sh B (τ 4)) (hn : cel (τ 4) 107 = (N : Int)) : ∀ (j k : Nat), k + j = N → ∀ (z v : Int), z = (k : Int) → v = sm (fun k => if cel (τ 4) (0 + (k : Int) * 6 + 0) = x then jby (τ 4) (k : Int) else 0) k → Ex 4 m1_capturesByJumper (cod m1_capturesByJumper 4, [some (.inl 7), some (.inr x), some (.inr v), some (.inr z)], [], τ) 0 (.inl (some (.inr (cbj (τ 4) x N)), τ)) := by
  intro j
  induction j with
  | zero =>
    intro k hk z v  hz hv
    have hN := hS.n
    have hb := cel_bd hS.bd (0 + z * 6 + 0)
    have hj := @jby_in (τ 4) z
    refine ex_k 4 (P := none) (g := (cod m1_capturesByJumper 8, [some (.inl 7), some (.inr x), some (.inr v), some (.inr z)], [.inr 7, .inl 1, .inr z], τ)) rfl trivial ?_
    refine ex_c (s_total (τ := τ) (w := 7) (Or.inl ⟨rfl, rfl⟩) (by omega)) (is := cod m1_capturesByJumper 9) (L := [some (.inl 7), some (.inr x), some (.inr v), some (.inr z)]) (st := [.inr z]) rfl rfl rfl ?_
    show Ex _ _ (cod m1_capturesByJumper 9, [some (.inl 7), some (.inr x), some (.inr v), some (.inr z)], [.inr (cel (τ 4) 107), .inr z], τ) _ _
    refine ex_b (P := (cel (τ 4) 107) ≤ z) (ct := (cod m1_capturesByJumper 25, [some (.inl 7), some (.inr x), some (.inr v), some (.inr z)], [], τ)) (cf := (cod m1_capturesByJumper 10, [some (.inl 7), some (.inr x), some (.inr v), some (.inr z)], [], τ)) rfl ⟨⟨by omega, by omega⟩, ⟨by omega, by omega⟩⟩ (fun _ => ?_) (fun hh => absurd (by omega) hh)
    refine ex_k 1 (P := none) (g := (cod m1_capturesByJumper 26, [some (.inl 7), some (.inr x), some (.inr v), some (.inr z)], [.inr v], τ)) rfl trivial ?_
    exact ex_r rfl trivial rfl (rI (by rw [hv]; congr 1; omega))
  | succ j ih =>
    intro k hk z v  hz hv
    have hN := hS.n
    have hb := cel_bd hS.bd (0 + z * 6 + 0)
    have hj := @jby_in (τ 4) z
    refine ex_k 4 (P := none) (g := (cod m1_capturesByJumper 8, [some (.inl 7), some (.inr x), some (.inr v), some (.inr z)], [.inr 7, .inl 1, .inr z], τ)) rfl trivial ?_
    refine ex_c (s_total (τ := τ) (w := 7) (Or.inl ⟨rfl, rfl⟩) (by omega)) (is := cod m1_capturesByJumper 9) (L := [some (.inl 7), some (.inr x), some (.inr v), some (.inr z)]) (st := [.inr z]) rfl rfl rfl ?_
    show Ex _ _ (cod m1_capturesByJumper 9, [some (.inl 7), some (.inr x), some (.inr v), some (.inr z)], [.inr (cel (τ 4) 107), .inr z], τ) _ _
    refine ex_b (P := (cel (τ 4) 107) ≤ z) (ct := (cod m1_capturesByJumper 25, [some (.inl 7), some (.inr x), some (.inr v), some (.inr z)], [], τ)) (cf := (cod m1_capturesByJumper 10, [some (.inl 7), some (.inr x), some (.inr v), some (.inr z)], [], τ)) rfl ⟨⟨by omega, by omega⟩, ⟨by omega, by omega⟩⟩ (fun hh => absurd hh (by omega)) (fun _ => ?_)
    refine ex_k 4 (P := none) (g := (cod m1_capturesByJumper 14, [some (.inl 7), some (.inr x), some (.inr v), some (.inr z)], [.inr 0, .inr z, .inl 1], τ)) rfl trivial ?_
    refine ex_c (s_number (τ := τ) (f := z) (w := 0) (Or.inl ⟨rfl, rfl⟩) (by omega) (by omega)) (is := cod m1_capturesByJumper 15) (L := [some (.inl 7), some (.inr x), some (.inr v), some (.inr z)]) (st := []) rfl rfl rfl ?_
    show Ex _ _ (cod m1_capturesByJumper 15, [some (.inl 7), some (.inr x), some (.inr v), some (.inr z)], [.inr (cel (τ 4) (0 + z * 6 + 0))], τ) _ _
    refine ex_k 1 (P := none) (g := (cod m1_capturesByJumper 16, [some (.inl 7), some (.inr x), some (.inr v), some (.inr z)], [.inr x, .inr (cel (τ 4) (0 + z * 6 + 0))], τ)) rfl trivial ?_
    refine ex_b (P := ¬ (cel (τ 4) (0 + z * 6 + 0)) = x) (ct := (cod m1_capturesByJumper 23, [some (.inl 7), some (.inr x), some (.inr v), some (.inr z)], [], τ)) (cf := (cod m1_capturesByJumper 17, [some (.inl 7), some (.inr x), some (.inr v), some (.inr z)], [], τ)) rfl ⟨⟨by omega, by omega⟩, ⟨by omega, by omega⟩⟩ (fun h2 => ?_) (fun h2 => ?_)
    · first
      | (exfalso; omega)
      | (
          refine ex_k 2 (P := none) (g := (cod m1_capturesByJumper 4, [some (.inl 7), some (.inr x), some (.inr v), some (.inr (z + 1))], [], τ)) rfl trivial ?_
          exact ih (k + 1) (by omega) _ _  (by omega) (by subst hz; first | exact add_t hv (by omega) | exact add_f hv (by omega)))
    · first
      | (exfalso; omega)
      | (
          refine ex_k 3 (P := none) (g := (cod m1_capturesByJumper 20, [some (.inl 7), some (.inr x), some (.inr v), some (.inr z)], [.inr z, .inl 7, .inr v], τ)) rfl trivial ?_
          refine ex_c (s_jumpsBy (τ := τ) (f := z) (Or.inl ⟨rfl, rfl, rfl⟩) (by omega) hS) (is := cod m1_capturesByJumper 21) (L := [some (.inl 7), some (.inr x), some (.inr v), some (.inr z)]) (st := [.inr v]) rfl rfl rfl ?_
          show Ex _ _ (cod m1_capturesByJumper 21, [some (.inl 7), some (.inr x), some (.inr v), some (.inr z)], [.inr (jby (τ 4) z), .inr v], τ) _ _
          refine ex_k 4 (P := none) (g := (cod m1_capturesByJumper 4, [some (.inl 7), some (.inr x), some (.inr (v + (jby (τ 4) z))), some (.inr (z + 1))], [], τ)) rfl trivial ?_
          exact ih (k + 1) (by omega) _ _  (by omega) (by subst hz; first | exact add_t hv (by omega) | exact add_f hv (by omega)))
theorem lp_capturesByJumper_5 {τ : SZ} {N : Nat} {x : Int} {B : Int} (hx : 0 ≤ x ∧ x < 2) (hS : Sh B (τ 5)) (hn : cel (τ 5) 107 = (N : Int)) : ∀ (j k : Nat), k + j = N → ∀ (z v : Int), z = (k : Int) → v = sm (fun k => if cel (τ 5) (0 + (k : Int) * 6 + 0) = x then jby (τ 5) (k : Int) else 0) k → Ex 4 m1_capturesByJumper (cod m1_capturesByJumper 4, [some (.inl 8), some (.inr x), some (.inr v), some (.inr z)], [], τ) 0 (.inl (some (.inr (cbj (τ 5) x N)), τ)) := by
  intro j
  induction j with
  | zero =>
    intro k hk z v  hz hv
    have hN := hS.n
    have hb := cel_bd hS.bd (0 + z * 6 + 0)
    have hj := @jby_in (τ 5) z
    refine ex_k 4 (P := none) (g := (cod m1_capturesByJumper 8, [some (.inl 8), some (.inr x), some (.inr v), some (.inr z)], [.inr 7, .inl 2, .inr z], τ)) rfl trivial ?_
    refine ex_c (s_total (τ := τ) (w := 7) (Or.inr (Or.inl ⟨rfl, rfl⟩)) (by omega)) (is := cod m1_capturesByJumper 9) (L := [some (.inl 8), some (.inr x), some (.inr v), some (.inr z)]) (st := [.inr z]) rfl rfl rfl ?_
    show Ex _ _ (cod m1_capturesByJumper 9, [some (.inl 8), some (.inr x), some (.inr v), some (.inr z)], [.inr (cel (τ 5) 107), .inr z], τ) _ _
    refine ex_b (P := (cel (τ 5) 107) ≤ z) (ct := (cod m1_capturesByJumper 25, [some (.inl 8), some (.inr x), some (.inr v), some (.inr z)], [], τ)) (cf := (cod m1_capturesByJumper 10, [some (.inl 8), some (.inr x), some (.inr v), some (.inr z)], [], τ)) rfl ⟨⟨by omega, by omega⟩, ⟨by omega, by omega⟩⟩ (fun _ => ?_) (fun hh => absurd (by omega) hh)
    refine ex_k 1 (P := none) (g := (cod m1_capturesByJumper 26, [some (.inl 8), some (.inr x), some (.inr v), some (.inr z)], [.inr v], τ)) rfl trivial ?_
    exact ex_r rfl trivial rfl (rI (by rw [hv]; congr 1; omega))
  | succ j ih =>
    intro k hk z v  hz hv
    have hN := hS.n
    have hb := cel_bd hS.bd (0 + z * 6 + 0)
    have hj := @jby_in (τ 5) z
    refine ex_k 4 (P := none) (g := (cod m1_capturesByJumper 8, [some (.inl 8), some (.inr x), some (.inr v), some (.inr z)], [.inr 7, .inl 2, .inr z], τ)) rfl trivial ?_
    refine ex_c (s_total (τ := τ) (w := 7) (Or.inr (Or.inl ⟨rfl, rfl⟩)) (by omega)) (is := cod m1_capturesByJumper 9) (L := [some (.inl 8), some (.inr x), some (.inr v), some (.inr z)]) (st := [.inr z]) rfl rfl rfl ?_
    show Ex _ _ (cod m1_capturesByJumper 9, [some (.inl 8), some (.inr x), some (.inr v), some (.inr z)], [.inr (cel (τ 5) 107), .inr z], τ) _ _
    refine ex_b (P := (cel (τ 5) 107) ≤ z) (ct := (cod m1_capturesByJumper 25, [some (.inl 8), some (.inr x), some (.inr v), some (.inr z)], [], τ)) (cf := (cod m1_capturesByJumper 10, [some (.inl 8), some (.inr x), some (.inr v), some (.inr z)], [], τ)) rfl ⟨⟨by omega, by omega⟩, ⟨by omega, by omega⟩⟩ (fun hh => absurd hh (by omega)) (fun _ => ?_)
    refine ex_k 4 (P := none) (g := (cod m1_capturesByJumper 14, [some (.inl 8), some (.inr x), some (.inr v), some (.inr z)], [.inr 0, .inr z, .inl 2], τ)) rfl trivial ?_
    refine ex_c (s_number (τ := τ) (f := z) (w := 0) (Or.inr (Or.inl ⟨rfl, rfl⟩)) (by omega) (by omega)) (is := cod m1_capturesByJumper 15) (L := [some (.inl 8), some (.inr x), some (.inr v), some (.inr z)]) (st := []) rfl rfl rfl ?_
    show Ex _ _ (cod m1_capturesByJumper 15, [some (.inl 8), some (.inr x), some (.inr v), some (.inr z)], [.inr (cel (τ 5) (0 + z * 6 + 0))], τ) _ _
    refine ex_k 1 (P := none) (g := (cod m1_capturesByJumper 16, [some (.inl 8), some (.inr x), some (.inr v), some (.inr z)], [.inr x, .inr (cel (τ 5) (0 + z * 6 + 0))], τ)) rfl trivial ?_
    refine ex_b (P := ¬ (cel (τ 5) (0 + z * 6 + 0)) = x) (ct := (cod m1_capturesByJumper 23, [some (.inl 8), some (.inr x), some (.inr v), some (.inr z)], [], τ)) (cf := (cod m1_capturesByJumper 17, [some (.inl 8), some (.inr x), some (.inr v), some (.inr z)], [], τ)) rfl ⟨⟨by omega, by omega⟩, ⟨by omega, by omega⟩⟩ (fun h2 => ?_) (fun h2 => ?_)
    · first
      | (exfalso; omega)
      | (
          refine ex_k 2 (P := none) (g := (cod m1_capturesByJumper 4, [some (.inl 8), some (.inr x), some (.inr v), some (.inr (z + 1))], [], τ)) rfl trivial ?_
          exact ih (k + 1) (by omega) _ _  (by omega) (by subst hz; first | exact add_t hv (by omega) | exact add_f hv (by omega)))
    · first
      | (exfalso; omega)
      | (
          refine ex_k 3 (P := none) (g := (cod m1_capturesByJumper 20, [some (.inl 8), some (.inr x), some (.inr v), some (.inr z)], [.inr z, .inl 8, .inr v], τ)) rfl trivial ?_
          refine ex_c (s_jumpsBy (τ := τ) (f := z) (Or.inr ⟨rfl, rfl, rfl⟩) (by omega) hS) (is := cod m1_capturesByJumper 21) (L := [some (.inl 8), some (.inr x), some (.inr v), some (.inr z)]) (st := [.inr v]) rfl rfl rfl ?_
          show Ex _ _ (cod m1_capturesByJumper 21, [some (.inl 8), some (.inr x), some (.inr v), some (.inr z)], [.inr (jby (τ 5) z), .inr v], τ) _ _
          refine ex_k 4 (P := none) (g := (cod m1_capturesByJumper 4, [some (.inl 8), some (.inr x), some (.inr (v + (jby (τ 5) z))), some (.inr (z + 1))], [], τ)) rfl trivial ?_
          exact ih (k + 1) (by omega) _ _  (by omega) (by subst hz; first | exact add_t hv (by omega) | exact add_f hv (by omega)))
theorem s_capturesByJumper {γ ρ a : Nat} {N : Nat} {x : Int} {B : Int} {τ : SZ} (hγ : GA γ ρ a) (hx : 0 ≤ x ∧ x < 2) (hS : Sh B (τ a)) (hn : cel (τ a) 107 = (N : Int)) : RZ 5 m1_capturesByJumper [.inl γ, .inr x] τ (.inl (some (.inr (cbj (τ a) x N)), τ)) := by
  rcases hγ with ⟨rfl, rfl, rfl⟩ | ⟨rfl, rfl, rfl⟩
  · refine Ex.call ?_ rfl rfl
    show Ex _ _ (cod m1_capturesByJumper 0, [some (.inl 7), some (.inr x), none, none], [], τ) _ _
    refine ex_k 4 (P := none) (g := (cod m1_capturesByJumper 4, [some (.inl 7), some (.inr x), some (.inr 0), some (.inr 0)], [], τ)) rfl trivial ?_
    exact lp_capturesByJumper_4 hx hS hn N 0 (by omega) 0 0 rfl rfl
  · refine Ex.call ?_ rfl rfl
    show Ex _ _ (cod m1_capturesByJumper 0, [some (.inl 8), some (.inr x), none, none], [], τ) _ _
    refine ex_k 4 (P := none) (g := (cod m1_capturesByJumper 4, [some (.inl 8), some (.inr x), some (.inr 0), some (.inr 0)], [], τ)) rfl trivial ?_
    exact lp_capturesByJumper_5 hx hS hn N 0 (by omega) 0 0 rfl rfl
abbrev cbd (c : Nat → Int) (x : Int) (N : Nat) : Int := sm (fun k => if ¬ cel c (0 + (k : Int) * 6 + 0) = x then jov c (k : Int) else 0) N
theorem lp_capturesByJumped_4 {τ : SZ} {N : Nat} {x : Int} {B : Int} (hx : 0 ≤ x ∧ x < 2) (hS : Sh B (τ 4)) (hn : cel (τ 4) 107 = (N : Int)) : ∀ (j k : Nat), k + j = N → ∀ (z v : Int), z = (k : Int) → v = sm (fun k => if ¬ cel (τ 4) (0 + (k : Int) * 6 + 0) = x then jov (τ 4) (k : Int) else 0) k → Ex 4 m1_capturesByJumped (cod m1_capturesByJumped 4, [some (.inl 7), some (.inr x), some (.inr v), some (.inr z)], [], τ) 0 (.inl (some (.inr (cbd (τ 4) x N)), τ)) := by
  intro j
  induction j with
  | zero =>
    intro k hk z v  hz hv
    have hN := hS.n
    have hb := cel_bd hS.bd (0 + z * 6 + 0)
    have hj := @jov_in (τ 4) z
    refine ex_k 4 (P := none) (g := (cod m1_capturesByJumped 8, [some (.inl 7), some (.inr x), some (.inr v), some (.inr z)], [.inr 7, .inl 1, .inr z], τ)) rfl trivial ?_
    refine ex_c (s_total (τ := τ) (w := 7) (Or.inl ⟨rfl, rfl⟩) (by omega)) (is := cod m1_capturesByJumped 9) (L := [some (.inl 7), some (.inr x), some (.inr v), some (.inr z)]) (st := [.inr z]) rfl rfl rfl ?_
    show Ex _ _ (cod m1_capturesByJumped 9, [some (.inl 7), some (.inr x), some (.inr v), some (.inr z)], [.inr (cel (τ 4) 107), .inr z], τ) _ _
    refine ex_b (P := (cel (τ 4) 107) ≤ z) (ct := (cod m1_capturesByJumped 25, [some (.inl 7), some (.inr x), some (.inr v), some (.inr z)], [], τ)) (cf := (cod m1_capturesByJumped 10, [some (.inl 7), some (.inr x), some (.inr v), some (.inr z)], [], τ)) rfl ⟨⟨by omega, by omega⟩, ⟨by omega, by omega⟩⟩ (fun _ => ?_) (fun hh => absurd (by omega) hh)
    refine ex_k 1 (P := none) (g := (cod m1_capturesByJumped 26, [some (.inl 7), some (.inr x), some (.inr v), some (.inr z)], [.inr v], τ)) rfl trivial ?_
    exact ex_r rfl trivial rfl (rI (by rw [hv]; congr 1; omega))
  | succ j ih =>
    intro k hk z v  hz hv
    have hN := hS.n
    have hb := cel_bd hS.bd (0 + z * 6 + 0)
    have hj := @jov_in (τ 4) z
    refine ex_k 4 (P := none) (g := (cod m1_capturesByJumped 8, [some (.inl 7), some (.inr x), some (.inr v), some (.inr z)], [.inr 7, .inl 1, .inr z], τ)) rfl trivial ?_
    refine ex_c (s_total (τ := τ) (w := 7) (Or.inl ⟨rfl, rfl⟩) (by omega)) (is := cod m1_capturesByJumped 9) (L := [some (.inl 7), some (.inr x), some (.inr v), some (.inr z)]) (st := [.inr z]) rfl rfl rfl ?_
    show Ex _ _ (cod m1_capturesByJumped 9, [some (.inl 7), some (.inr x), some (.inr v), some (.inr z)], [.inr (cel (τ 4) 107), .inr z], τ) _ _
    refine ex_b (P := (cel (τ 4) 107) ≤ z) (ct := (cod m1_capturesByJumped 25, [some (.inl 7), some (.inr x), some (.inr v), some (.inr z)], [], τ)) (cf := (cod m1_capturesByJumped 10, [some (.inl 7), some (.inr x), some (.inr v), some (.inr z)], [], τ)) rfl ⟨⟨by omega, by omega⟩, ⟨by omega, by omega⟩⟩ (fun hh => absurd hh (by omega)) (fun _ => ?_)
    refine ex_k 4 (P := none) (g := (cod m1_capturesByJumped 14, [some (.inl 7), some (.inr x), some (.inr v), some (.inr z)], [.inr 0, .inr z, .inl 1], τ)) rfl trivial ?_
    refine ex_c (s_number (τ := τ) (f := z) (w := 0) (Or.inl ⟨rfl, rfl⟩) (by omega) (by omega)) (is := cod m1_capturesByJumped 15) (L := [some (.inl 7), some (.inr x), some (.inr v), some (.inr z)]) (st := []) rfl rfl rfl ?_
    show Ex _ _ (cod m1_capturesByJumped 15, [some (.inl 7), some (.inr x), some (.inr v), some (.inr z)], [.inr (cel (τ 4) (0 + z * 6 + 0))], τ) _ _
    refine ex_k 1 (P := none) (g := (cod m1_capturesByJumped 16, [some (.inl 7), some (.inr x), some (.inr v), some (.inr z)], [.inr x, .inr (cel (τ 4) (0 + z * 6 + 0))], τ)) rfl trivial ?_
    refine ex_b (P := (cel (τ 4) (0 + z * 6 + 0)) = x) (ct := (cod m1_capturesByJumped 23, [some (.inl 7), some (.inr x), some (.inr v), some (.inr z)], [], τ)) (cf := (cod m1_capturesByJumped 17, [some (.inl 7), some (.inr x), some (.inr v), some (.inr z)], [], τ)) rfl ⟨⟨by omega, by omega⟩, ⟨by omega, by omega⟩⟩ (fun h2 => ?_) (fun h2 => ?_)
    · first
      | (exfalso; omega)
      | (
          refine ex_k 2 (P := none) (g := (cod m1_capturesByJumped 4, [some (.inl 7), some (.inr x), some (.inr v), some (.inr (z + 1))], [], τ)) rfl trivial ?_
          exact ih (k + 1) (by omega) _ _  (by omega) (by subst hz; first | exact add_t hv (by omega) | exact add_f hv (by omega)))
    · first
      | (exfalso; omega)
      | (
          refine ex_k 3 (P := none) (g := (cod m1_capturesByJumped 20, [some (.inl 7), some (.inr x), some (.inr v), some (.inr z)], [.inr z, .inl 7, .inr v], τ)) rfl trivial ?_
          refine ex_c (s_jumpsOver (τ := τ) (f := z) (Or.inl ⟨rfl, rfl, rfl⟩) (by omega) hS) (is := cod m1_capturesByJumped 21) (L := [some (.inl 7), some (.inr x), some (.inr v), some (.inr z)]) (st := [.inr v]) rfl rfl rfl ?_
          show Ex _ _ (cod m1_capturesByJumped 21, [some (.inl 7), some (.inr x), some (.inr v), some (.inr z)], [.inr (jov (τ 4) z), .inr v], τ) _ _
          refine ex_k 4 (P := none) (g := (cod m1_capturesByJumped 4, [some (.inl 7), some (.inr x), some (.inr (v + (jov (τ 4) z))), some (.inr (z + 1))], [], τ)) rfl trivial ?_
          exact ih (k + 1) (by omega) _ _  (by omega) (by subst hz; first | exact add_t hv (by omega) | exact add_f hv (by omega)))
theorem lp_capturesByJumped_5 {τ : SZ} {N : Nat} {x : Int} {B : Int} (hx : 0 ≤ x ∧ x < 2) (hS : Sh B (τ 5)) (hn : cel (τ 5) 107 = (N : Int)) : ∀ (j k : Nat), k + j = N → ∀ (z v : Int), z = (k : Int) → v = sm (fun k => if ¬ cel (τ 5) (0 + (k : Int) * 6 + 0) = x then jov (τ 5) (k : Int) else 0) k → Ex 4 m1_capturesByJumped (cod m1_capturesByJumped 4, [some (.inl 8), some (.inr x), some (.inr v), some (.inr z)], [], τ) 0 (.inl (some (.inr (cbd (τ 5) x N)), τ)) := by
  intro j
  induction j with
  | zero =>
    intro k hk z v  hz hv
    have hN := hS.n
    have hb := cel_bd hS.bd (0 + z * 6 + 0)
    have hj := @jov_in (τ 5) z
    refine ex_k 4 (P := none) (g := (cod m1_capturesByJumped 8, [some (.inl 8), some (.inr x), some (.inr v), some (.inr z)], [.inr 7, .inl 2, .inr z], τ)) rfl trivial ?_
    refine ex_c (s_total (τ := τ) (w := 7) (Or.inr (Or.inl ⟨rfl, rfl⟩)) (by omega)) (is := cod m1_capturesByJumped 9) (L := [some (.inl 8), some (.inr x), some (.inr v), some (.inr z)]) (st := [.inr z]) rfl rfl rfl ?_
    show Ex _ _ (cod m1_capturesByJumped 9, [some (.inl 8), some (.inr x), some (.inr v), some (.inr z)], [.inr (cel (τ 5) 107), .inr z], τ) _ _
    refine ex_b (P := (cel (τ 5) 107) ≤ z) (ct := (cod m1_capturesByJumped 25, [some (.inl 8), some (.inr x), some (.inr v), some (.inr z)], [], τ)) (cf := (cod m1_capturesByJumped 10, [some (.inl 8), some (.inr x), some (.inr v), some (.inr z)], [], τ)) rfl ⟨⟨by omega, by omega⟩, ⟨by omega, by omega⟩⟩ (fun _ => ?_) (fun hh => absurd (by omega) hh)
    refine ex_k 1 (P := none) (g := (cod m1_capturesByJumped 26, [some (.inl 8), some (.inr x), some (.inr v), some (.inr z)], [.inr v], τ)) rfl trivial ?_
    exact ex_r rfl trivial rfl (rI (by rw [hv]; congr 1; omega))
  | succ j ih =>
    intro k hk z v  hz hv
    have hN := hS.n
    have hb := cel_bd hS.bd (0 + z * 6 + 0)
    have hj := @jov_in (τ 5) z
    refine ex_k 4 (P := none) (g := (cod m1_capturesByJumped 8, [some (.inl 8), some (.inr x), some (.inr v), some (.inr z)], [.inr 7, .inl 2, .inr z], τ)) rfl trivial ?_
    refine ex_c (s_total (τ := τ) (w := 7) (Or.inr (Or.inl ⟨rfl, rfl⟩)) (by omega)) (is := cod m1_capturesByJumped 9) (L := [some (.inl 8), some (.inr x), some (.inr v), some (.inr z)]) (st := [.inr z]) rfl rfl rfl ?_
    show Ex _ _ (cod m1_capturesByJumped 9, [some (.inl 8), some (.inr x), some (.inr v), some (.inr z)], [.inr (cel (τ 5) 107), .inr z], τ) _ _
    refine ex_b (P := (cel (τ 5) 107) ≤ z) (ct := (cod m1_capturesByJumped 25, [some (.inl 8), some (.inr x), some (.inr v), some (.inr z)], [], τ)) (cf := (cod m1_capturesByJumped 10, [some (.inl 8), some (.inr x), some (.inr v), some (.inr z)], [], τ)) rfl ⟨⟨by omega, by omega⟩, ⟨by omega, by omega⟩⟩ (fun hh => absurd hh (by omega)) (fun _ => ?_)
    refine ex_k 4 (P := none) (g := (cod m1_capturesByJumped 14, [some (.inl 8), some (.inr x), some (.inr v), some (.inr z)], [.inr 0, .inr z, .inl 2], τ)) rfl trivial ?_
    refine ex_c (s_number (τ := τ) (f := z) (w := 0) (Or.inr (Or.inl ⟨rfl, rfl⟩)) (by omega) (by omega)) (is := cod m1_capturesByJumped 15) (L := [some (.inl 8), some (.inr x), some (.inr v), some (.inr z)]) (st := []) rfl rfl rfl ?_
    show Ex _ _ (cod m1_capturesByJumped 15, [some (.inl 8), some (.inr x), some (.inr v), some (.inr z)], [.inr (cel (τ 5) (0 + z * 6 + 0))], τ) _ _
    refine ex_k 1 (P := none) (g := (cod m1_capturesByJumped 16, [some (.inl 8), some (.inr x), some (.inr v), some (.inr z)], [.inr x, .inr (cel (τ 5) (0 + z * 6 + 0))], τ)) rfl trivial ?_
    refine ex_b (P := (cel (τ 5) (0 + z * 6 + 0)) = x) (ct := (cod m1_capturesByJumped 23, [some (.inl 8), some (.inr x), some (.inr v), some (.inr z)], [], τ)) (cf := (cod m1_capturesByJumped 17, [some (.inl 8), some (.inr x), some (.inr v), some (.inr z)], [], τ)) rfl ⟨⟨by omega, by omega⟩, ⟨by omega, by omega⟩⟩ (fun h2 => ?_) (fun h2 => ?_)
    · first
      | (exfalso; omega)
      | (
          refine ex_k 2 (P := none) (g := (cod m1_capturesByJumped 4, [some (.inl 8), some (.inr x), some (.inr v), some (.inr (z + 1))], [], τ)) rfl trivial ?_
          exact ih (k + 1) (by omega) _ _  (by omega) (by subst hz; first | exact add_t hv (by omega) | exact add_f hv (by omega)))
    · first
      | (exfalso; omega)
      | (
          refine ex_k 3 (P := none) (g := (cod m1_capturesByJumped 20, [some (.inl 8), some (.inr x), some (.inr v), some (.inr z)], [.inr z, .inl 8, .inr v], τ)) rfl trivial ?_
          refine ex_c (s_jumpsOver (τ := τ) (f := z) (Or.inr ⟨rfl, rfl, rfl⟩) (by omega) hS) (is := cod m1_capturesByJumped 21) (L := [some (.inl 8), some (.inr x), some (.inr v), some (.inr z)]) (st := [.inr v]) rfl rfl rfl ?_
          show Ex _ _ (cod m1_capturesByJumped 21, [some (.inl 8), some (.inr x), some (.inr v), some (.inr z)], [.inr (jov (τ 5) z), .inr v], τ) _ _
          refine ex_k 4 (P := none) (g := (cod m1_capturesByJumped 4, [some (.inl 8), some (.inr x), some (.inr (v + (jov (τ 5) z))), some (.inr (z + 1))], [], τ)) rfl trivial ?_
          exact ih (k + 1) (by omega) _ _  (by omega) (by subst hz; first | exact add_t hv (by omega) | exact add_f hv (by omega)))
theorem s_capturesByJumped {γ ρ a : Nat} {N : Nat} {x : Int} {B : Int} {τ : SZ} (hγ : GA γ ρ a) (hx : 0 ≤ x ∧ x < 2) (hS : Sh B (τ a)) (hn : cel (τ a) 107 = (N : Int)) : RZ 5 m1_capturesByJumped [.inl γ, .inr x] τ (.inl (some (.inr (cbd (τ a) x N)), τ)) := by
  rcases hγ with ⟨rfl, rfl, rfl⟩ | ⟨rfl, rfl, rfl⟩
  · refine Ex.call ?_ rfl rfl
    show Ex _ _ (cod m1_capturesByJumped 0, [some (.inl 7), some (.inr x), none, none], [], τ) _ _
    refine ex_k 4 (P := none) (g := (cod m1_capturesByJumped 4, [some (.inl 7), some (.inr x), some (.inr 0), some (.inr 0)], [], τ)) rfl trivial ?_
    exact lp_capturesByJumped_4 hx hS hn N 0 (by omega) 0 0 rfl rfl
  · refine Ex.call ?_ rfl rfl
    show Ex _ _ (cod m1_capturesByJumped 0, [some (.inl 8), some (.inr x), none, none], [], τ) _ _
    refine ex_k 4 (P := none) (g := (cod m1_capturesByJumped 4, [some (.inl 8), some (.inr x), some (.inr 0), some (.inr 0)], [], τ)) rfl trivial ?_
    exact lp_capturesByJumped_5 hx hS hn N 0 (by omega) 0 0 rfl rfl
theorem sm4_in {f : Nat → Int} : ∀ {n : Nat}, (∀ k, 0 ≤ f k ∧ f k ≤ 4) → 0 ≤ sm f n ∧ sm f n ≤ 4 * (n : Int)
  | 0, _ => by simp [sm]
  | n + 1, h => by
    have h1 := sm4_in (n := n) h
    have h2 := h n
    show 0 ≤ sm f n + f n ∧ sm f n + f n ≤ 4 * ((n + 1 : Nat) : Int)
    omega
theorem mbf_in {c : Nat → Int} {x : Int} {N : Nat} : 0 ≤ mbf c x N ∧ mbf c x N ≤ 4 * (N : Int) := sm4_in (fun k => by split; exact mvo_in; omega)
theorem cbj_in {c : Nat → Int} {x : Int} {N : Nat} : 0 ≤ cbj c x N ∧ cbj c x N ≤ 4 * (N : Int) := sm4_in (fun k => by split; exact jby_in; omega)
theorem cbd_in {c : Nat → Int} {x : Int} {N : Nat} : 0 ≤ cbd c x N ∧ cbd c x N ≤ 4 * (N : Int) := sm4_in (fun k => by split; exact jov_in; omega)
theorem cmr_in {c : Nat → Int} {x r p s : Int} : 0 ≤ cmr c x r p s ∧ cmr c x r p s ≤ 1 := by
  unfold cmr
  split
  · omega
  · split <;> exact b2_01
abbrev mbp (c : Nat → Int) (x : Int) : Int := 0 + sm (fun k => if (0 ≤ (k : Int) ∧ (k : Int) < 12) ∧ cel c (48 + 0 * 12 + (k : Int)) = -1 then cmr c x 0 (k : Int) 1 + cmr c x 0 (k : Int) (-1) else 0) 12 + sm (fun k => if (0 ≤ (k : Int) ∧ (k : Int) < 12) ∧ cel c (48 + 1 * 12 + (k : Int)) = -1 then cmr c x 1 (k : Int) 1 + cmr c x 1 (k : Int) (-1) else 0) 12
theorem addb_t {v b S x : Int} {P : Prop} [Decidable P] (hv : v = b + S) (h : P) : v + x = b + (S + (if P then x else 0)) := by rw [hv, if_pos h]; omega
theorem addb_f {v b S x : Int} {P : Prop} [Decidable P] (hv : v = b + S) (h : ¬ P) : v = b + (S + (if P then x else 0)) := by rw [hv, if_neg h]; omega
theorem lp_mbp_1_4 {τ : SZ} {x : Int} {B : Int} (hx : 0 ≤ x ∧ x < 2) (hS : Sh B (τ 4)) : ∀ (j k : Nat), k + j = 12 → ∀ (z v : Int), z = (k : Int) → v = (0 + sm (fun k => if (0 ≤ (k : Int) ∧ (k : Int) < 12) ∧ cel (τ 4) (48 + 0 * 12 + (k : Int)) = -1 then cmr (τ 4) x 0 (k : Int) 1 + cmr (τ 4) x 0 (k : Int) (-1) else 0) 12) + sm (fun k => if (0 ≤ (k : Int) ∧ (k : Int) < 12) ∧ cel (τ 4) (48 + 1 * 12 + (k : Int)) = -1 then cmr (τ 4) x 1 (k : Int) 1 + cmr (τ 4) x 1 (k : Int) (-1) else 0) k → Ex 4 m1_movesByPlace (cod m1_movesByPlace 9, [some (.inl 7), some (.inr x), some (.inr v), some (.inr 1), some (.inr z)], [], τ) 0 (.inl (some (.inr (mbp (τ 4) x)), τ)) := by
  intro j
  induction j with
  | zero =>
    intro k hk z v hz hv
    refine ex_k 2 (P := none) (g := (cod m1_movesByPlace 11, [some (.inl 7), some (.inr x), some (.inr v), some (.inr 1), some (.inr z)], [.inr 12, .inr z], τ)) rfl trivial ?_
    refine ex_b (P := 12 ≤ z) (ct := (cod m1_movesByPlace 36, [some (.inl 7), some (.inr x), some (.inr v), some (.inr 1), some (.inr z)], [], τ)) (cf := (cod m1_movesByPlace 12, [some (.inl 7), some (.inr x), some (.inr v), some (.inr 1), some (.inr z)], [], τ)) rfl ⟨⟨by omega, by omega⟩, ⟨by decide, by decide⟩⟩ (fun _ => ?_) (fun hh => absurd (by omega) hh)
    refine ex_k 4 (P := none) (g := (cod m1_movesByPlace 6, [some (.inl 7), some (.inr x), some (.inr v), some (.inr 2), some (.inr z)], [.inr 2, .inr 2], τ)) rfl trivial ?_
    refine ex_b (P := 2 ≤ 2) (ct := (cod m1_movesByPlace 38, [some (.inl 7), some (.inr x), some (.inr v), some (.inr 2), some (.inr z)], [], τ)) (cf := (cod m1_movesByPlace 7, [some (.inl 7), some (.inr x), some (.inr v), some (.inr 2), some (.inr z)], [], τ)) rfl ⟨⟨by decide, by decide⟩, ⟨by decide, by decide⟩⟩ (fun _ => ?_) (fun hh => absurd (by decide) hh)
    refine ex_k 1 (P := none) (g := (cod m1_movesByPlace 39, [some (.inl 7), some (.inr x), some (.inr v), some (.inr 2), some (.inr z)], [.inr v], τ)) rfl trivial ?_
    exact ex_r rfl trivial rfl (rI (by rw [hv]; show _ + sm _ 12 = _ + sm _ k; rw [show k = 12 from by omega]))
  | succ j ih =>
    intro k hk z v hz hv
    refine ex_k 2 (P := none) (g := (cod m1_movesByPlace 11, [some (.inl 7), some (.inr x), some (.inr v), some (.inr 1), some (.inr z)], [.inr 12, .inr z], τ)) rfl trivial ?_
    refine ex_b (P := 12 ≤ z) (ct := (cod m1_movesByPlace 36, [some (.inl 7), some (.inr x), some (.inr v), some (.inr 1), some (.inr z)], [], τ)) (cf := (cod m1_movesByPlace 12, [some (.inl 7), some (.inr x), some (.inr v), some (.inr 1), some (.inr z)], [], τ)) rfl ⟨⟨by omega, by omega⟩, ⟨by decide, by decide⟩⟩ (fun hh => absurd hh (by omega)) (fun _ => ?_)
    refine ex_k 4 (P := none) (g := (cod m1_movesByPlace 16, [some (.inl 7), some (.inr x), some (.inr v), some (.inr 1), some (.inr z)], [.inr z, .inr 1, .inl 1], τ)) rfl trivial ?_
    refine ex_c (s_isFree (τ := τ) (r := 1) (p := z) (Or.inl ⟨rfl, rfl⟩) (by omega) ⟨by omega, by omega⟩ hS.bd) (is := cod m1_movesByPlace 17) (L := [some (.inl 7), some (.inr x), some (.inr v), some (.inr 1), some (.inr z)]) (st := []) rfl rfl rfl ?_
    show Ex _ _ (cod m1_movesByPlace 17, [some (.inl 7), some (.inr x), some (.inr v), some (.inr 1), some (.inr z)], [.inr (b2 ((0 ≤ z ∧ z < 12) ∧ cel (τ 4) (48 + 1 * 12 + z) = -1))], τ) _ _
    refine ex_b (P := (b2 ((0 ≤ z ∧ z < 12) ∧ cel (τ 4) (48 + 1 * 12 + z) = -1)) = 0) (ct := (cod m1_movesByPlace 34, [some (.inl 7), some (.inr x), some (.inr v), some (.inr 1), some (.inr z)], [], τ)) (cf := (cod m1_movesByPlace 18, [some (.inl 7), some (.inr x), some (.inr v), some (.inr 1), some (.inr z)], [], τ)) rfl b2_rng (fun h2 => ?_) (fun h2 => ?_)
    · first
      | (exfalso; have h2 := b2_e0 h2; omega)
      | (
          have h2 := b2_e0 h2
          refine ex_k 2 (P := none) (g := (cod m1_movesByPlace 9, [some (.inl 7), some (.inr x), some (.inr v), some (.inr 1), some (.inr (z + 1))], [], τ)) rfl trivial ?_
          exact ih (k + 1) (by omega) _ _ (by omega) (by subst hz; first | exact addb_t hv (by omega) | exact addb_f hv (by omega)))
    · first
      | (exfalso; have h2 := b2_n0 h2; omega)
      | (
          have h2 := b2_n0 h2
          refine ex_k 6 (P := none) (g := (cod m1_movesByPlace 24, [some (.inl 7), some (.inr x), some (.inr v), some (.inr 1), some (.inr z)], [.inr 1, .inr z, .inr 1, .inr x, .inl 7, .inr v], τ)) rfl trivial ?_
          refine ex_c (s_comersTo (τ := τ) (x := x) (r := 1) (p := z) (s := 1) (Or.inl ⟨rfl, rfl, rfl⟩) (by omega) (by omega) (by omega) (by omega) hS) (is := cod m1_movesByPlace 25) (L := [some (.inl 7), some (.inr x), some (.inr v), some (.inr 1), some (.inr z)]) (st := [.inr v]) rfl rfl rfl ?_
          show Ex _ _ (cod m1_movesByPlace 25, [some (.inl 7), some (.inr x), some (.inr v), some (.inr 1), some (.inr z)], [.inr (cmr (τ 4) x 1 z 1), .inr v], τ) _ _
          refine ex_k 5 (P := none) (g := (cod m1_movesByPlace 30, [some (.inl 7), some (.inr x), some (.inr v), some (.inr 1), some (.inr z)], [.inr (-1), .inr z, .inr 1, .inr x, .inl 7, .inr (cmr (τ 4) x 1 z 1), .inr v], τ)) rfl trivial ?_
          refine ex_c (s_comersTo (τ := τ) (x := x) (r := 1) (p := z) (s := (-1)) (Or.inl ⟨rfl, rfl, rfl⟩) (by omega) (by omega) (by omega) (by omega) hS) (is := cod m1_movesByPlace 31) (L := [some (.inl 7), some (.inr x), some (.inr v), some (.inr 1), some (.inr z)]) (st := [.inr (cmr (τ 4) x 1 z 1), .inr v]) rfl rfl rfl ?_
          show Ex _ _ (cod m1_movesByPlace 31, [some (.inl 7), some (.inr x), some (.inr v), some (.inr 1), some (.inr z)], [.inr (cmr (τ 4) x 1 z (-1)), .inr (cmr (τ 4) x 1 z 1), .inr v], τ) _ _
          refine ex_k 5 (P := none) (g := (cod m1_movesByPlace 9, [some (.inl 7), some (.inr x), some (.inr (v + ((cmr (τ 4) x 1 z 1) + (cmr (τ 4) x 1 z (-1))))), some (.inr 1), some (.inr (z + 1))], [], τ)) rfl trivial ?_
          exact ih (k + 1) (by omega) _ _ (by omega) (by subst hz; first | exact addb_t hv (by omega) | exact addb_f hv (by omega)))
theorem lp_mbp_0_4 {τ : SZ} {x : Int} {B : Int} (hx : 0 ≤ x ∧ x < 2) (hS : Sh B (τ 4)) : ∀ (j k : Nat), k + j = 12 → ∀ (z v : Int), z = (k : Int) → v = 0 + sm (fun k => if (0 ≤ (k : Int) ∧ (k : Int) < 12) ∧ cel (τ 4) (48 + 0 * 12 + (k : Int)) = -1 then cmr (τ 4) x 0 (k : Int) 1 + cmr (τ 4) x 0 (k : Int) (-1) else 0) k → Ex 4 m1_movesByPlace (cod m1_movesByPlace 9, [some (.inl 7), some (.inr x), some (.inr v), some (.inr 0), some (.inr z)], [], τ) 0 (.inl (some (.inr (mbp (τ 4) x)), τ)) := by
  intro j
  induction j with
  | zero =>
    intro k hk z v hz hv
    refine ex_k 2 (P := none) (g := (cod m1_movesByPlace 11, [some (.inl 7), some (.inr x), some (.inr v), some (.inr 0), some (.inr z)], [.inr 12, .inr z], τ)) rfl trivial ?_
    refine ex_b (P := 12 ≤ z) (ct := (cod m1_movesByPlace 36, [some (.inl 7), some (.inr x), some (.inr v), some (.inr 0), some (.inr z)], [], τ)) (cf := (cod m1_movesByPlace 12, [some (.inl 7), some (.inr x), some (.inr v), some (.inr 0), some (.inr z)], [], τ)) rfl ⟨⟨by omega, by omega⟩, ⟨by decide, by decide⟩⟩ (fun _ => ?_) (fun hh => absurd (by omega) hh)
    refine ex_k 4 (P := none) (g := (cod m1_movesByPlace 6, [some (.inl 7), some (.inr x), some (.inr v), some (.inr 1), some (.inr z)], [.inr 2, .inr 1], τ)) rfl trivial ?_
    refine ex_b (P := 2 ≤ 1) (ct := (cod m1_movesByPlace 38, [some (.inl 7), some (.inr x), some (.inr v), some (.inr 1), some (.inr z)], [], τ)) (cf := (cod m1_movesByPlace 7, [some (.inl 7), some (.inr x), some (.inr v), some (.inr 1), some (.inr z)], [], τ)) rfl ⟨⟨by decide, by decide⟩, ⟨by decide, by decide⟩⟩ (fun hh => absurd hh (by decide)) (fun _ => ?_)
    refine ex_k 2 (P := none) (g := (cod m1_movesByPlace 9, [some (.inl 7), some (.inr x), some (.inr v), some (.inr 1), some (.inr 0)], [], τ)) rfl trivial ?_
    exact lp_mbp_1_4 hx hS 12 0 (by omega) 0 v rfl (by rw [hv]; show 0 + sm _ k = 0 + sm _ 12 + 0; rw [show k = 12 from by omega, Int.add_zero])
  | succ j ih =>
    intro k hk z v hz hv
    refine ex_k 2 (P := none) (g := (cod m1_movesByPlace 11, [some (.inl 7), some (.inr x), some (.inr v), some (.inr 0), some (.inr z)], [.inr 12, .inr z], τ)) rfl trivial ?_
    refine ex_b (P := 12 ≤ z) (ct := (cod m1_movesByPlace 36, [some (.inl 7), some (.inr x), some (.inr v), some (.inr 0), some (.inr z)], [], τ)) (cf := (cod m1_movesByPlace 12, [some (.inl 7), some (.inr x), some (.inr v), some (.inr 0), some (.inr z)], [], τ)) rfl ⟨⟨by omega, by omega⟩, ⟨by decide, by decide⟩⟩ (fun hh => absurd hh (by omega)) (fun _ => ?_)
    refine ex_k 4 (P := none) (g := (cod m1_movesByPlace 16, [some (.inl 7), some (.inr x), some (.inr v), some (.inr 0), some (.inr z)], [.inr z, .inr 0, .inl 1], τ)) rfl trivial ?_
    refine ex_c (s_isFree (τ := τ) (r := 0) (p := z) (Or.inl ⟨rfl, rfl⟩) (by omega) ⟨by omega, by omega⟩ hS.bd) (is := cod m1_movesByPlace 17) (L := [some (.inl 7), some (.inr x), some (.inr v), some (.inr 0), some (.inr z)]) (st := []) rfl rfl rfl ?_
    show Ex _ _ (cod m1_movesByPlace 17, [some (.inl 7), some (.inr x), some (.inr v), some (.inr 0), some (.inr z)], [.inr (b2 ((0 ≤ z ∧ z < 12) ∧ cel (τ 4) (48 + 0 * 12 + z) = -1))], τ) _ _
    refine ex_b (P := (b2 ((0 ≤ z ∧ z < 12) ∧ cel (τ 4) (48 + 0 * 12 + z) = -1)) = 0) (ct := (cod m1_movesByPlace 34, [some (.inl 7), some (.inr x), some (.inr v), some (.inr 0), some (.inr z)], [], τ)) (cf := (cod m1_movesByPlace 18, [some (.inl 7), some (.inr x), some (.inr v), some (.inr 0), some (.inr z)], [], τ)) rfl b2_rng (fun h2 => ?_) (fun h2 => ?_)
    · first
      | (exfalso; have h2 := b2_e0 h2; omega)
      | (
          have h2 := b2_e0 h2
          refine ex_k 2 (P := none) (g := (cod m1_movesByPlace 9, [some (.inl 7), some (.inr x), some (.inr v), some (.inr 0), some (.inr (z + 1))], [], τ)) rfl trivial ?_
          exact ih (k + 1) (by omega) _ _ (by omega) (by subst hz; first | exact addb_t hv (by omega) | exact addb_f hv (by omega)))
    · first
      | (exfalso; have h2 := b2_n0 h2; omega)
      | (
          have h2 := b2_n0 h2
          refine ex_k 6 (P := none) (g := (cod m1_movesByPlace 24, [some (.inl 7), some (.inr x), some (.inr v), some (.inr 0), some (.inr z)], [.inr 1, .inr z, .inr 0, .inr x, .inl 7, .inr v], τ)) rfl trivial ?_
          refine ex_c (s_comersTo (τ := τ) (x := x) (r := 0) (p := z) (s := 1) (Or.inl ⟨rfl, rfl, rfl⟩) (by omega) (by omega) (by omega) (by omega) hS) (is := cod m1_movesByPlace 25) (L := [some (.inl 7), some (.inr x), some (.inr v), some (.inr 0), some (.inr z)]) (st := [.inr v]) rfl rfl rfl ?_
          show Ex _ _ (cod m1_movesByPlace 25, [some (.inl 7), some (.inr x), some (.inr v), some (.inr 0), some (.inr z)], [.inr (cmr (τ 4) x 0 z 1), .inr v], τ) _ _
          refine ex_k 5 (P := none) (g := (cod m1_movesByPlace 30, [some (.inl 7), some (.inr x), some (.inr v), some (.inr 0), some (.inr z)], [.inr (-1), .inr z, .inr 0, .inr x, .inl 7, .inr (cmr (τ 4) x 0 z 1), .inr v], τ)) rfl trivial ?_
          refine ex_c (s_comersTo (τ := τ) (x := x) (r := 0) (p := z) (s := (-1)) (Or.inl ⟨rfl, rfl, rfl⟩) (by omega) (by omega) (by omega) (by omega) hS) (is := cod m1_movesByPlace 31) (L := [some (.inl 7), some (.inr x), some (.inr v), some (.inr 0), some (.inr z)]) (st := [.inr (cmr (τ 4) x 0 z 1), .inr v]) rfl rfl rfl ?_
          show Ex _ _ (cod m1_movesByPlace 31, [some (.inl 7), some (.inr x), some (.inr v), some (.inr 0), some (.inr z)], [.inr (cmr (τ 4) x 0 z (-1)), .inr (cmr (τ 4) x 0 z 1), .inr v], τ) _ _
          refine ex_k 5 (P := none) (g := (cod m1_movesByPlace 9, [some (.inl 7), some (.inr x), some (.inr (v + ((cmr (τ 4) x 0 z 1) + (cmr (τ 4) x 0 z (-1))))), some (.inr 0), some (.inr (z + 1))], [], τ)) rfl trivial ?_
          exact ih (k + 1) (by omega) _ _ (by omega) (by subst hz; first | exact addb_t hv (by omega) | exact addb_f hv (by omega)))
theorem lp_mbp_1_5 {τ : SZ} {x : Int} {B : Int} (hx : 0 ≤ x ∧ x < 2) (hS : Sh B (τ 5)) : ∀ (j k : Nat), k + j = 12 → ∀ (z v : Int), z = (k : Int) → v = (0 + sm (fun k => if (0 ≤ (k : Int) ∧ (k : Int) < 12) ∧ cel (τ 5) (48 + 0 * 12 + (k : Int)) = -1 then cmr (τ 5) x 0 (k : Int) 1 + cmr (τ 5) x 0 (k : Int) (-1) else 0) 12) + sm (fun k => if (0 ≤ (k : Int) ∧ (k : Int) < 12) ∧ cel (τ 5) (48 + 1 * 12 + (k : Int)) = -1 then cmr (τ 5) x 1 (k : Int) 1 + cmr (τ 5) x 1 (k : Int) (-1) else 0) k → Ex 4 m1_movesByPlace (cod m1_movesByPlace 9, [some (.inl 8), some (.inr x), some (.inr v), some (.inr 1), some (.inr z)], [], τ) 0 (.inl (some (.inr (mbp (τ 5) x)), τ)) := by
  intro j
  induction j with
  | zero =>
    intro k hk z v hz hv
    refine ex_k 2 (P := none) (g := (cod m1_movesByPlace 11, [some (.inl 8), some (.inr x), some (.inr v), some (.inr 1), some (.inr z)], [.inr 12, .inr z], τ)) rfl trivial ?_
    refine ex_b (P := 12 ≤ z) (ct := (cod m1_movesByPlace 36, [some (.inl 8), some (.inr x), some (.inr v), some (.inr 1), some (.inr z)], [], τ)) (cf := (cod m1_movesByPlace 12, [some (.inl 8), some (.inr x), some (.inr v), some (.inr 1), some (.inr z)], [], τ)) rfl ⟨⟨by omega, by omega⟩, ⟨by decide, by decide⟩⟩ (fun _ => ?_) (fun hh => absurd (by omega) hh)
    refine ex_k 4 (P := none) (g := (cod m1_movesByPlace 6, [some (.inl 8), some (.inr x), some (.inr v), some (.inr 2), some (.inr z)], [.inr 2, .inr 2], τ)) rfl trivial ?_
    refine ex_b (P := 2 ≤ 2) (ct := (cod m1_movesByPlace 38, [some (.inl 8), some (.inr x), some (.inr v), some (.inr 2), some (.inr z)], [], τ)) (cf := (cod m1_movesByPlace 7, [some (.inl 8), some (.inr x), some (.inr v), some (.inr 2), some (.inr z)], [], τ)) rfl ⟨⟨by decide, by decide⟩, ⟨by decide, by decide⟩⟩ (fun _ => ?_) (fun hh => absurd (by decide) hh)
    refine ex_k 1 (P := none) (g := (cod m1_movesByPlace 39, [some (.inl 8), some (.inr x), some (.inr v), some (.inr 2), some (.inr z)], [.inr v], τ)) rfl trivial ?_
    exact ex_r rfl trivial rfl (rI (by rw [hv]; show _ + sm _ 12 = _ + sm _ k; rw [show k = 12 from by omega]))
  | succ j ih =>
    intro k hk z v hz hv
    refine ex_k 2 (P := none) (g := (cod m1_movesByPlace 11, [some (.inl 8), some (.inr x), some (.inr v), some (.inr 1), some (.inr z)], [.inr 12, .inr z], τ)) rfl trivial ?_
    refine ex_b (P := 12 ≤ z) (ct := (cod m1_movesByPlace 36, [some (.inl 8), some (.inr x), some (.inr v), some (.inr 1), some (.inr z)], [], τ)) (cf := (cod m1_movesByPlace 12, [some (.inl 8), some (.inr x), some (.inr v), some (.inr 1), some (.inr z)], [], τ)) rfl ⟨⟨by omega, by omega⟩, ⟨by decide, by decide⟩⟩ (fun hh => absurd hh (by omega)) (fun _ => ?_)
    refine ex_k 4 (P := none) (g := (cod m1_movesByPlace 16, [some (.inl 8), some (.inr x), some (.inr v), some (.inr 1), some (.inr z)], [.inr z, .inr 1, .inl 2], τ)) rfl trivial ?_
    refine ex_c (s_isFree (τ := τ) (r := 1) (p := z) (Or.inr (Or.inl ⟨rfl, rfl⟩)) (by omega) ⟨by omega, by omega⟩ hS.bd) (is := cod m1_movesByPlace 17) (L := [some (.inl 8), some (.inr x), some (.inr v), some (.inr 1), some (.inr z)]) (st := []) rfl rfl rfl ?_
    show Ex _ _ (cod m1_movesByPlace 17, [some (.inl 8), some (.inr x), some (.inr v), some (.inr 1), some (.inr z)], [.inr (b2 ((0 ≤ z ∧ z < 12) ∧ cel (τ 5) (48 + 1 * 12 + z) = -1))], τ) _ _
    refine ex_b (P := (b2 ((0 ≤ z ∧ z < 12) ∧ cel (τ 5) (48 + 1 * 12 + z) = -1)) = 0) (ct := (cod m1_movesByPlace 34, [some (.inl 8), some (.inr x), some (.inr v), some (.inr 1), some (.inr z)], [], τ)) (cf := (cod m1_movesByPlace 18, [some (.inl 8), some (.inr x), some (.inr v), some (.inr 1), some (.inr z)], [], τ)) rfl b2_rng (fun h2 => ?_) (fun h2 => ?_)
    · first
      | (exfalso; have h2 := b2_e0 h2; omega)
      | (
          have h2 := b2_e0 h2
          refine ex_k 2 (P := none) (g := (cod m1_movesByPlace 9, [some (.inl 8), some (.inr x), some (.inr v), some (.inr 1), some (.inr (z + 1))], [], τ)) rfl trivial ?_
          exact ih (k + 1) (by omega) _ _ (by omega) (by subst hz; first | exact addb_t hv (by omega) | exact addb_f hv (by omega)))
    · first
      | (exfalso; have h2 := b2_n0 h2; omega)
      | (
          have h2 := b2_n0 h2
          refine ex_k 6 (P := none) (g := (cod m1_movesByPlace 24, [some (.inl 8), some (.inr x), some (.inr v), some (.inr 1), some (.inr z)], [.inr 1, .inr z, .inr 1, .inr x, .inl 8, .inr v], τ)) rfl trivial ?_
          refine ex_c (s_comersTo (τ := τ) (x := x) (r := 1) (p := z) (s := 1) (Or.inr ⟨rfl, rfl, rfl⟩) (by omega) (by omega) (by omega) (by omega) hS) (is := cod m1_movesByPlace 25) (L := [some (.inl 8), some (.inr x), some (.inr v), some (.inr 1), some (.inr z)]) (st := [.inr v]) rfl rfl rfl ?_
          show Ex _ _ (cod m1_movesByPlace 25, [some (.inl 8), some (.inr x), some (.inr v), some (.inr 1), some (.inr z)], [.inr (cmr (τ 5) x 1 z 1), .inr v], τ) _ _
          refine ex_k 5 (P := none) (g := (cod m1_movesByPlace 30, [some (.inl 8), some (.inr x), some (.inr v), some (.inr 1), some (.inr z)], [.inr (-1), .inr z, .inr 1, .inr x, .inl 8, .inr (cmr (τ 5) x 1 z 1), .inr v], τ)) rfl trivial ?_
          refine ex_c (s_comersTo (τ := τ) (x := x) (r := 1) (p := z) (s := (-1)) (Or.inr ⟨rfl, rfl, rfl⟩) (by omega) (by omega) (by omega) (by omega) hS) (is := cod m1_movesByPlace 31) (L := [some (.inl 8), some (.inr x), some (.inr v), some (.inr 1), some (.inr z)]) (st := [.inr (cmr (τ 5) x 1 z 1), .inr v]) rfl rfl rfl ?_
          show Ex _ _ (cod m1_movesByPlace 31, [some (.inl 8), some (.inr x), some (.inr v), some (.inr 1), some (.inr z)], [.inr (cmr (τ 5) x 1 z (-1)), .inr (cmr (τ 5) x 1 z 1), .inr v], τ) _ _
          refine ex_k 5 (P := none) (g := (cod m1_movesByPlace 9, [some (.inl 8), some (.inr x), some (.inr (v + ((cmr (τ 5) x 1 z 1) + (cmr (τ 5) x 1 z (-1))))), some (.inr 1), some (.inr (z + 1))], [], τ)) rfl trivial ?_
          exact ih (k + 1) (by omega) _ _ (by omega) (by subst hz; first | exact addb_t hv (by omega) | exact addb_f hv (by omega)))
theorem lp_mbp_0_5 {τ : SZ} {x : Int} {B : Int} (hx : 0 ≤ x ∧ x < 2) (hS : Sh B (τ 5)) : ∀ (j k : Nat), k + j = 12 → ∀ (z v : Int), z = (k : Int) → v = 0 + sm (fun k => if (0 ≤ (k : Int) ∧ (k : Int) < 12) ∧ cel (τ 5) (48 + 0 * 12 + (k : Int)) = -1 then cmr (τ 5) x 0 (k : Int) 1 + cmr (τ 5) x 0 (k : Int) (-1) else 0) k → Ex 4 m1_movesByPlace (cod m1_movesByPlace 9, [some (.inl 8), some (.inr x), some (.inr v), some (.inr 0), some (.inr z)], [], τ) 0 (.inl (some (.inr (mbp (τ 5) x)), τ)) := by
  intro j
  induction j with
  | zero =>
    intro k hk z v hz hv
    refine ex_k 2 (P := none) (g := (cod m1_movesByPlace 11, [some (.inl 8), some (.inr x), some (.inr v), some (.inr 0), some (.inr z)], [.inr 12, .inr z], τ)) rfl trivial ?_
    refine ex_b (P := 12 ≤ z) (ct := (cod m1_movesByPlace 36, [some (.inl 8), some (.inr x), some (.inr v), some (.inr 0), some (.inr z)], [], τ)) (cf := (cod m1_movesByPlace 12, [some (.inl 8), some (.inr x), some (.inr v), some (.inr 0), some (.inr z)], [], τ)) rfl ⟨⟨by omega, by omega⟩, ⟨by decide, by decide⟩⟩ (fun _ => ?_) (fun hh => absurd (by omega) hh)
    refine ex_k 4 (P := none) (g := (cod m1_movesByPlace 6, [some (.inl 8), some (.inr x), some (.inr v), some (.inr 1), some (.inr z)], [.inr 2, .inr 1], τ)) rfl trivial ?_
    refine ex_b (P := 2 ≤ 1) (ct := (cod m1_movesByPlace 38, [some (.inl 8), some (.inr x), some (.inr v), some (.inr 1), some (.inr z)], [], τ)) (cf := (cod m1_movesByPlace 7, [some (.inl 8), some (.inr x), some (.inr v), some (.inr 1), some (.inr z)], [], τ)) rfl ⟨⟨by decide, by decide⟩, ⟨by decide, by decide⟩⟩ (fun hh => absurd hh (by decide)) (fun _ => ?_)
    refine ex_k 2 (P := none) (g := (cod m1_movesByPlace 9, [some (.inl 8), some (.inr x), some (.inr v), some (.inr 1), some (.inr 0)], [], τ)) rfl trivial ?_
    exact lp_mbp_1_5 hx hS 12 0 (by omega) 0 v rfl (by rw [hv]; show 0 + sm _ k = 0 + sm _ 12 + 0; rw [show k = 12 from by omega, Int.add_zero])
  | succ j ih =>
    intro k hk z v hz hv
    refine ex_k 2 (P := none) (g := (cod m1_movesByPlace 11, [some (.inl 8), some (.inr x), some (.inr v), some (.inr 0), some (.inr z)], [.inr 12, .inr z], τ)) rfl trivial ?_
    refine ex_b (P := 12 ≤ z) (ct := (cod m1_movesByPlace 36, [some (.inl 8), some (.inr x), some (.inr v), some (.inr 0), some (.inr z)], [], τ)) (cf := (cod m1_movesByPlace 12, [some (.inl 8), some (.inr x), some (.inr v), some (.inr 0), some (.inr z)], [], τ)) rfl ⟨⟨by omega, by omega⟩, ⟨by decide, by decide⟩⟩ (fun hh => absurd hh (by omega)) (fun _ => ?_)
    refine ex_k 4 (P := none) (g := (cod m1_movesByPlace 16, [some (.inl 8), some (.inr x), some (.inr v), some (.inr 0), some (.inr z)], [.inr z, .inr 0, .inl 2], τ)) rfl trivial ?_
    refine ex_c (s_isFree (τ := τ) (r := 0) (p := z) (Or.inr (Or.inl ⟨rfl, rfl⟩)) (by omega) ⟨by omega, by omega⟩ hS.bd) (is := cod m1_movesByPlace 17) (L := [some (.inl 8), some (.inr x), some (.inr v), some (.inr 0), some (.inr z)]) (st := []) rfl rfl rfl ?_
    show Ex _ _ (cod m1_movesByPlace 17, [some (.inl 8), some (.inr x), some (.inr v), some (.inr 0), some (.inr z)], [.inr (b2 ((0 ≤ z ∧ z < 12) ∧ cel (τ 5) (48 + 0 * 12 + z) = -1))], τ) _ _
    refine ex_b (P := (b2 ((0 ≤ z ∧ z < 12) ∧ cel (τ 5) (48 + 0 * 12 + z) = -1)) = 0) (ct := (cod m1_movesByPlace 34, [some (.inl 8), some (.inr x), some (.inr v), some (.inr 0), some (.inr z)], [], τ)) (cf := (cod m1_movesByPlace 18, [some (.inl 8), some (.inr x), some (.inr v), some (.inr 0), some (.inr z)], [], τ)) rfl b2_rng (fun h2 => ?_) (fun h2 => ?_)
    · first
      | (exfalso; have h2 := b2_e0 h2; omega)
      | (
          have h2 := b2_e0 h2
          refine ex_k 2 (P := none) (g := (cod m1_movesByPlace 9, [some (.inl 8), some (.inr x), some (.inr v), some (.inr 0), some (.inr (z + 1))], [], τ)) rfl trivial ?_
          exact ih (k + 1) (by omega) _ _ (by omega) (by subst hz; first | exact addb_t hv (by omega) | exact addb_f hv (by omega)))
    · first
      | (exfalso; have h2 := b2_n0 h2; omega)
      | (
          have h2 := b2_n0 h2
          refine ex_k 6 (P := none) (g := (cod m1_movesByPlace 24, [some (.inl 8), some (.inr x), some (.inr v), some (.inr 0), some (.inr z)], [.inr 1, .inr z, .inr 0, .inr x, .inl 8, .inr v], τ)) rfl trivial ?_
          refine ex_c (s_comersTo (τ := τ) (x := x) (r := 0) (p := z) (s := 1) (Or.inr ⟨rfl, rfl, rfl⟩) (by omega) (by omega) (by omega) (by omega) hS) (is := cod m1_movesByPlace 25) (L := [some (.inl 8), some (.inr x), some (.inr v), some (.inr 0), some (.inr z)]) (st := [.inr v]) rfl rfl rfl ?_
          show Ex _ _ (cod m1_movesByPlace 25, [some (.inl 8), some (.inr x), some (.inr v), some (.inr 0), some (.inr z)], [.inr (cmr (τ 5) x 0 z 1), .inr v], τ) _ _
          refine ex_k 5 (P := none) (g := (cod m1_movesByPlace 30, [some (.inl 8), some (.inr x), some (.inr v), some (.inr 0), some (.inr z)], [.inr (-1), .inr z, .inr 0, .inr x, .inl 8, .inr (cmr (τ 5) x 0 z 1), .inr v], τ)) rfl trivial ?_
          refine ex_c (s_comersTo (τ := τ) (x := x) (r := 0) (p := z) (s := (-1)) (Or.inr ⟨rfl, rfl, rfl⟩) (by omega) (by omega) (by omega) (by omega) hS) (is := cod m1_movesByPlace 31) (L := [some (.inl 8), some (.inr x), some (.inr v), some (.inr 0), some (.inr z)]) (st := [.inr (cmr (τ 5) x 0 z 1), .inr v]) rfl rfl rfl ?_
          show Ex _ _ (cod m1_movesByPlace 31, [some (.inl 8), some (.inr x), some (.inr v), some (.inr 0), some (.inr z)], [.inr (cmr (τ 5) x 0 z (-1)), .inr (cmr (τ 5) x 0 z 1), .inr v], τ) _ _
          refine ex_k 5 (P := none) (g := (cod m1_movesByPlace 9, [some (.inl 8), some (.inr x), some (.inr (v + ((cmr (τ 5) x 0 z 1) + (cmr (τ 5) x 0 z (-1))))), some (.inr 0), some (.inr (z + 1))], [], τ)) rfl trivial ?_
          exact ih (k + 1) (by omega) _ _ (by omega) (by subst hz; first | exact addb_t hv (by omega) | exact addb_f hv (by omega)))
theorem s_movesByPlace {γ ρ a : Nat} {x : Int} {τ : SZ} (hγ : GA γ ρ a) (hx : 0 ≤ x ∧ x < 2) {B : Int} (hS : Sh B (τ a)) : RZ 5 m1_movesByPlace [.inl γ, .inr x] τ (.inl (some (.inr (mbp (τ a) x)), τ)) := by
  rcases hγ with ⟨rfl, rfl, rfl⟩ | ⟨rfl, rfl, rfl⟩
  · refine Ex.call ?_ rfl rfl
    show Ex _ _ (cod m1_movesByPlace 0, [some (.inl 7), some (.inr x), none, none, none], [], τ) _ _
    refine ex_k 6 (P := none) (g := (cod m1_movesByPlace 6, [some (.inl 7), some (.inr x), some (.inr 0), some (.inr 0), none], [.inr 2, .inr 0], τ)) rfl trivial ?_
    refine ex_b (P := 2 ≤ 0) (ct := (cod m1_movesByPlace 38, [some (.inl 7), some (.inr x), some (.inr 0), some (.inr 0), none], [], τ)) (cf := (cod m1_movesByPlace 7, [some (.inl 7), some (.inr x), some (.inr 0), some (.inr 0), none], [], τ)) rfl ⟨⟨by decide, by decide⟩, ⟨by decide, by decide⟩⟩ (fun hh => absurd hh (by decide)) (fun _ => ?_)
    refine ex_k 2 (P := none) (g := (cod m1_movesByPlace 9, [some (.inl 7), some (.inr x), some (.inr 0), some (.inr 0), some (.inr 0)], [], τ)) rfl trivial ?_
    exact lp_mbp_0_4 hx hS 12 0 (by omega) 0 0 rfl rfl
  · refine Ex.call ?_ rfl rfl
    show Ex _ _ (cod m1_movesByPlace 0, [some (.inl 8), some (.inr x), none, none, none], [], τ) _ _
    refine ex_k 6 (P := none) (g := (cod m1_movesByPlace 6, [some (.inl 8), some (.inr x), some (.inr 0), some (.inr 0), none], [.inr 2, .inr 0], τ)) rfl trivial ?_
    refine ex_b (P := 2 ≤ 0) (ct := (cod m1_movesByPlace 38, [some (.inl 8), some (.inr x), some (.inr 0), some (.inr 0), none], [], τ)) (cf := (cod m1_movesByPlace 7, [some (.inl 8), some (.inr x), some (.inr 0), some (.inr 0), none], [], τ)) rfl ⟨⟨by decide, by decide⟩, ⟨by decide, by decide⟩⟩ (fun hh => absurd hh (by decide)) (fun _ => ?_)
    refine ex_k 2 (P := none) (g := (cod m1_movesByPlace 9, [some (.inl 8), some (.inr x), some (.inr 0), some (.inr 0), some (.inr 0)], [], τ)) rfl trivial ?_
    exact lp_mbp_0_5 hx hS 12 0 (by omega) 0 0 rfl rfl
theorem mbp_in {c : Nat → Int} {x : Int} : 0 ≤ mbp c x ∧ mbp c x ≤ 96 := by
  have e : ∀ r : Int, 0 ≤ sm (fun k => if (0 ≤ (k : Int) ∧ (k : Int) < 12) ∧ cel c (48 + r * 12 + (k : Int)) = -1 then cmr c x r (k : Int) 1 + cmr c x r (k : Int) (-1) else 0) 12 ∧ sm (fun k => if (0 ≤ (k : Int) ∧ (k : Int) < 12) ∧ cel c (48 + r * 12 + (k : Int)) = -1 then cmr c x r (k : Int) 1 + cmr c x r (k : Int) (-1) else 0) 12 ≤ 4 * ((12 : Nat) : Int) := fun r => sm4_in (fun k => by
    have h1 := @cmr_in c x r (k : Int) 1
    have h2 := @cmr_in c x r (k : Int) (-1)
    split <;> omega)
  have h0 := e 0
  have h1 := e 1
  unfold mbp
  omega
theorem s_isToldAlike {γ ρ a : Nat} {N : Nat} {x : Int} {τ : SZ} (hγ : GA γ ρ a) (hx : 0 ≤ x ∧ x < 2) {B : Int} (hS : Sh B (τ a)) (hn : cel (τ a) 107 = (N : Int)) : RZ 6 m1_isToldAlike [.inl γ, .inr x] τ (.inl (some (.inr (b2 (mbf (τ a) x N = mbp (τ a) x ∧ cbj (τ a) x N = cbd (τ a) x N))), τ)) := by
  have hN := hS.n
  have h1 := @mbf_in (τ a) x N
  have h2 := @mbp_in (τ a) x
  have h3 := @cbj_in (τ a) x N
  have h4 := @cbd_in (τ a) x N
  rcases hγ with ⟨rfl, rfl, rfl⟩ | ⟨rfl, rfl, rfl⟩
  · refine Ex.call ?_ rfl rfl
    show Ex _ _ (cod m1_isToldAlike 0, [some (.inl 7), some (.inr x)], [], τ) _ _
    refine ex_k 2 (P := none) (g := (cod m1_isToldAlike 2, [some (.inl 7), some (.inr x)], [.inr x, .inl 7], τ)) rfl trivial ?_
    refine ex_c (s_movesByFerry (τ := τ) (x := x) (Or.inl ⟨rfl, rfl, rfl⟩) (by omega) hS hn) (is := cod m1_isToldAlike 3) (L := [some (.inl 7), some (.inr x)]) (st := []) rfl rfl rfl ?_
    show Ex _ _ (cod m1_isToldAlike 3, [some (.inl 7), some (.inr x)], [.inr (mbf (τ 4) x N)], τ) _ _
    refine ex_k 2 (P := none) (g := (cod m1_isToldAlike 5, [some (.inl 7), some (.inr x)], [.inr x, .inl 7, .inr (mbf (τ 4) x N)], τ)) rfl trivial ?_
    refine ex_c (s_movesByPlace (τ := τ) (x := x) (Or.inl ⟨rfl, rfl, rfl⟩) (by omega) hS) (is := cod m1_isToldAlike 6) (L := [some (.inl 7), some (.inr x)]) (st := [.inr (mbf (τ 4) x N)]) rfl rfl rfl ?_
    show Ex _ _ (cod m1_isToldAlike 6, [some (.inl 7), some (.inr x)], [.inr (mbp (τ 4) x), .inr (mbf (τ 4) x N)], τ) _ _
    refine ex_b (P := ¬ (mbf (τ 4) x N) = (mbp (τ 4) x)) (ct := (cod m1_isToldAlike 16, [some (.inl 7), some (.inr x)], [], τ)) (cf := (cod m1_isToldAlike 7, [some (.inl 7), some (.inr x)], [], τ)) rfl ⟨⟨by omega, by omega⟩, ⟨by omega, by omega⟩⟩ (fun g1 => ?_) (fun g1 => ?_)
    · first
      | (exfalso; omega)
      | (
          refine ex_k 1 (P := none) (g := (cod m1_isToldAlike 17, [some (.inl 7), some (.inr x)], [.inr 0], τ)) rfl trivial ?_
          exact ex_r rfl (by first | exact Or.inl rfl | exact Or.inr rfl | omega) rfl (rI (by first | rw [b2_t (show _ ∧ _ from ⟨by omega, by omega⟩)] | rw [b2_f (fun q => by have q1 := q.1; have q2 := q.2; omega)])))
    · first
      | (exfalso; omega)
      | (
          refine ex_k 2 (P := none) (g := (cod m1_isToldAlike 9, [some (.inl 7), some (.inr x)], [.inr x, .inl 7], τ)) rfl trivial ?_
          refine ex_c (s_capturesByJumper (τ := τ) (x := x) (Or.inl ⟨rfl, rfl, rfl⟩) (by omega) hS hn) (is := cod m1_isToldAlike 10) (L := [some (.inl 7), some (.inr x)]) (st := []) rfl rfl rfl ?_
          show Ex _ _ (cod m1_isToldAlike 10, [some (.inl 7), some (.inr x)], [.inr (cbj (τ 4) x N)], τ) _ _
          refine ex_k 2 (P := none) (g := (cod m1_isToldAlike 12, [some (.inl 7), some (.inr x)], [.inr x, .inl 7, .inr (cbj (τ 4) x N)], τ)) rfl trivial ?_
          refine ex_c (s_capturesByJumped (τ := τ) (x := x) (Or.inl ⟨rfl, rfl, rfl⟩) (by omega) hS hn) (is := cod m1_isToldAlike 13) (L := [some (.inl 7), some (.inr x)]) (st := [.inr (cbj (τ 4) x N)]) rfl rfl rfl ?_
          show Ex _ _ (cod m1_isToldAlike 13, [some (.inl 7), some (.inr x)], [.inr (cbd (τ 4) x N), .inr (cbj (τ 4) x N)], τ) _ _
          refine ex_b (P := ¬ (cbj (τ 4) x N) = (cbd (τ 4) x N)) (ct := (cod m1_isToldAlike 16, [some (.inl 7), some (.inr x)], [], τ)) (cf := (cod m1_isToldAlike 14, [some (.inl 7), some (.inr x)], [], τ)) rfl ⟨⟨by omega, by omega⟩, ⟨by omega, by omega⟩⟩ (fun g2 => ?_) (fun g2 => ?_)
          · first
            | (exfalso; omega)
            | (
                refine ex_k 1 (P := none) (g := (cod m1_isToldAlike 17, [some (.inl 7), some (.inr x)], [.inr 0], τ)) rfl trivial ?_
                exact ex_r rfl (by first | exact Or.inl rfl | exact Or.inr rfl | omega) rfl (rI (by first | rw [b2_t (show _ ∧ _ from ⟨by omega, by omega⟩)] | rw [b2_f (fun q => by have q1 := q.1; have q2 := q.2; omega)])))
          · first
            | (exfalso; omega)
            | (
                refine ex_k 2 (P := none) (g := (cod m1_isToldAlike 17, [some (.inl 7), some (.inr x)], [.inr 1], τ)) rfl trivial ?_
                exact ex_r rfl (by first | exact Or.inl rfl | exact Or.inr rfl | omega) rfl (rI (by first | rw [b2_t (show _ ∧ _ from ⟨by omega, by omega⟩)] | rw [b2_f (fun q => by have q1 := q.1; have q2 := q.2; omega)]))))
  · refine Ex.call ?_ rfl rfl
    show Ex _ _ (cod m1_isToldAlike 0, [some (.inl 8), some (.inr x)], [], τ) _ _
    refine ex_k 2 (P := none) (g := (cod m1_isToldAlike 2, [some (.inl 8), some (.inr x)], [.inr x, .inl 8], τ)) rfl trivial ?_
    refine ex_c (s_movesByFerry (τ := τ) (x := x) (Or.inr ⟨rfl, rfl, rfl⟩) (by omega) hS hn) (is := cod m1_isToldAlike 3) (L := [some (.inl 8), some (.inr x)]) (st := []) rfl rfl rfl ?_
    show Ex _ _ (cod m1_isToldAlike 3, [some (.inl 8), some (.inr x)], [.inr (mbf (τ 5) x N)], τ) _ _
    refine ex_k 2 (P := none) (g := (cod m1_isToldAlike 5, [some (.inl 8), some (.inr x)], [.inr x, .inl 8, .inr (mbf (τ 5) x N)], τ)) rfl trivial ?_
    refine ex_c (s_movesByPlace (τ := τ) (x := x) (Or.inr ⟨rfl, rfl, rfl⟩) (by omega) hS) (is := cod m1_isToldAlike 6) (L := [some (.inl 8), some (.inr x)]) (st := [.inr (mbf (τ 5) x N)]) rfl rfl rfl ?_
    show Ex _ _ (cod m1_isToldAlike 6, [some (.inl 8), some (.inr x)], [.inr (mbp (τ 5) x), .inr (mbf (τ 5) x N)], τ) _ _
    refine ex_b (P := ¬ (mbf (τ 5) x N) = (mbp (τ 5) x)) (ct := (cod m1_isToldAlike 16, [some (.inl 8), some (.inr x)], [], τ)) (cf := (cod m1_isToldAlike 7, [some (.inl 8), some (.inr x)], [], τ)) rfl ⟨⟨by omega, by omega⟩, ⟨by omega, by omega⟩⟩ (fun g1 => ?_) (fun g1 => ?_)
    · first
      | (exfalso; omega)
      | (
          refine ex_k 1 (P := none) (g := (cod m1_isToldAlike 17, [some (.inl 8), some (.inr x)], [.inr 0], τ)) rfl trivial ?_
          exact ex_r rfl (by first | exact Or.inl rfl | exact Or.inr rfl | omega) rfl (rI (by first | rw [b2_t (show _ ∧ _ from ⟨by omega, by omega⟩)] | rw [b2_f (fun q => by have q1 := q.1; have q2 := q.2; omega)])))
    · first
      | (exfalso; omega)
      | (
          refine ex_k 2 (P := none) (g := (cod m1_isToldAlike 9, [some (.inl 8), some (.inr x)], [.inr x, .inl 8], τ)) rfl trivial ?_
          refine ex_c (s_capturesByJumper (τ := τ) (x := x) (Or.inr ⟨rfl, rfl, rfl⟩) (by omega) hS hn) (is := cod m1_isToldAlike 10) (L := [some (.inl 8), some (.inr x)]) (st := []) rfl rfl rfl ?_
          show Ex _ _ (cod m1_isToldAlike 10, [some (.inl 8), some (.inr x)], [.inr (cbj (τ 5) x N)], τ) _ _
          refine ex_k 2 (P := none) (g := (cod m1_isToldAlike 12, [some (.inl 8), some (.inr x)], [.inr x, .inl 8, .inr (cbj (τ 5) x N)], τ)) rfl trivial ?_
          refine ex_c (s_capturesByJumped (τ := τ) (x := x) (Or.inr ⟨rfl, rfl, rfl⟩) (by omega) hS hn) (is := cod m1_isToldAlike 13) (L := [some (.inl 8), some (.inr x)]) (st := [.inr (cbj (τ 5) x N)]) rfl rfl rfl ?_
          show Ex _ _ (cod m1_isToldAlike 13, [some (.inl 8), some (.inr x)], [.inr (cbd (τ 5) x N), .inr (cbj (τ 5) x N)], τ) _ _
          refine ex_b (P := ¬ (cbj (τ 5) x N) = (cbd (τ 5) x N)) (ct := (cod m1_isToldAlike 16, [some (.inl 8), some (.inr x)], [], τ)) (cf := (cod m1_isToldAlike 14, [some (.inl 8), some (.inr x)], [], τ)) rfl ⟨⟨by omega, by omega⟩, ⟨by omega, by omega⟩⟩ (fun g2 => ?_) (fun g2 => ?_)
          · first
            | (exfalso; omega)
            | (
                refine ex_k 1 (P := none) (g := (cod m1_isToldAlike 17, [some (.inl 8), some (.inr x)], [.inr 0], τ)) rfl trivial ?_
                exact ex_r rfl (by first | exact Or.inl rfl | exact Or.inr rfl | omega) rfl (rI (by first | rw [b2_t (show _ ∧ _ from ⟨by omega, by omega⟩)] | rw [b2_f (fun q => by have q1 := q.1; have q2 := q.2; omega)])))
          · first
            | (exfalso; omega)
            | (
                refine ex_k 2 (P := none) (g := (cod m1_isToldAlike 17, [some (.inl 8), some (.inr x)], [.inr 1], τ)) rfl trivial ?_
                exact ex_r rfl (by first | exact Or.inl rfl | exact Or.inr rfl | omega) rfl (rI (by first | rw [b2_t (show _ ∧ _ from ⟨by omega, by omega⟩)] | rw [b2_f (fun q => by have q1 := q.1; have q2 := q.2; omega)]))))
def mxp (c : Nat → Int) (x : Int) : Nat → Int
  | 0 => 0
  | k + 1 => if ¬ cel c (0 + (k : Int) * 6 + 0) = x ∧ 0 < jov c (k : Int) then (if mxp c x k < 1 + cel c (0 + (k : Int) * 6 + 3) then 1 + cel c (0 + (k : Int) * 6 + 3) else mxp c x k) else mxp c x k
theorem lp_mostPoints_4 {τ : SZ} {N : Nat} {x : Int} {B : Int} (hx : 0 ≤ x ∧ x < 2) (hS : Sh B (τ 4)) (hn : cel (τ 4) 107 = (N : Int)) : ∀ (j k : Nat), k + j = N → ∀ (z v : Int), z = (k : Int) → (v = mxp (τ 4) x k ∧ (0 ≤ v ∧ v ≤ 2)) → Ex 4 m1_mostPoints (cod m1_mostPoints 4, [some (.inl 7), some (.inr x), some (.inr v), some (.inr z)], [], τ) 0 (.inl (some (.inr (mxp (τ 4) x N)), τ)) := by
  intro j
  induction j with
  | zero =>
    intro k hk z v  hz hv
    have hN := hS.n
    have hb := cel_bd hS.bd (0 + z * 6 + 0)
    have hj := @jov_in (τ 4) z
    have hk2 : 0 ≤ z → z < 8 → 0 ≤ cel (τ 4) (0 + z * 6 + 3) ∧ cel (τ 4) (0 + z * 6 + 3) ≤ 1 := fun q1 q2 => hS.kg ⟨q1, q2⟩
    refine ex_k 4 (P := none) (g := (cod m1_mostPoints 8, [some (.inl 7), some (.inr x), some (.inr v), some (.inr z)], [.inr 7, .inl 1, .inr z], τ)) rfl trivial ?_
    refine ex_c (s_total (τ := τ) (w := 7) (Or.inl ⟨rfl, rfl⟩) (by omega)) (is := cod m1_mostPoints 9) (L := [some (.inl 7), some (.inr x), some (.inr v), some (.inr z)]) (st := [.inr z]) rfl rfl rfl ?_
    show Ex _ _ (cod m1_mostPoints 9, [some (.inl 7), some (.inr x), some (.inr v), some (.inr z)], [.inr (cel (τ 4) 107), .inr z], τ) _ _
    refine ex_b (P := (cel (τ 4) 107) ≤ z) (ct := (cod m1_mostPoints 29, [some (.inl 7), some (.inr x), some (.inr v), some (.inr z)], [], τ)) (cf := (cod m1_mostPoints 10, [some (.inl 7), some (.inr x), some (.inr v), some (.inr z)], [], τ)) rfl ⟨⟨by omega, by omega⟩, ⟨by omega, by omega⟩⟩ (fun _ => ?_) (fun hh => absurd (by omega) hh)
    refine ex_k 1 (P := none) (g := (cod m1_mostPoints 30, [some (.inl 7), some (.inr x), some (.inr v), some (.inr z)], [.inr v], τ)) rfl trivial ?_
    exact ex_r rfl trivial rfl (rI (by rw [hv.1]; congr 1; omega))
  | succ j ih =>
    intro k hk z v  hz hv
    have hN := hS.n
    have hb := cel_bd hS.bd (0 + z * 6 + 0)
    have hj := @jov_in (τ 4) z
    have hk2 : 0 ≤ z → z < 8 → 0 ≤ cel (τ 4) (0 + z * 6 + 3) ∧ cel (τ 4) (0 + z * 6 + 3) ≤ 1 := fun q1 q2 => hS.kg ⟨q1, q2⟩
    refine ex_k 4 (P := none) (g := (cod m1_mostPoints 8, [some (.inl 7), some (.inr x), some (.inr v), some (.inr z)], [.inr 7, .inl 1, .inr z], τ)) rfl trivial ?_
    refine ex_c (s_total (τ := τ) (w := 7) (Or.inl ⟨rfl, rfl⟩) (by omega)) (is := cod m1_mostPoints 9) (L := [some (.inl 7), some (.inr x), some (.inr v), some (.inr z)]) (st := [.inr z]) rfl rfl rfl ?_
    show Ex _ _ (cod m1_mostPoints 9, [some (.inl 7), some (.inr x), some (.inr v), some (.inr z)], [.inr (cel (τ 4) 107), .inr z], τ) _ _
    refine ex_b (P := (cel (τ 4) 107) ≤ z) (ct := (cod m1_mostPoints 29, [some (.inl 7), some (.inr x), some (.inr v), some (.inr z)], [], τ)) (cf := (cod m1_mostPoints 10, [some (.inl 7), some (.inr x), some (.inr v), some (.inr z)], [], τ)) rfl ⟨⟨by omega, by omega⟩, ⟨by omega, by omega⟩⟩ (fun hh => absurd hh (by omega)) (fun _ => ?_)
    refine ex_k 4 (P := none) (g := (cod m1_mostPoints 14, [some (.inl 7), some (.inr x), some (.inr v), some (.inr z)], [.inr 0, .inr z, .inl 1], τ)) rfl trivial ?_
    refine ex_c (s_number (τ := τ) (f := z) (w := 0) (Or.inl ⟨rfl, rfl⟩) (by omega) (by omega)) (is := cod m1_mostPoints 15) (L := [some (.inl 7), some (.inr x), some (.inr v), some (.inr z)]) (st := []) rfl rfl rfl ?_
    show Ex _ _ (cod m1_mostPoints 15, [some (.inl 7), some (.inr x), some (.inr v), some (.inr z)], [.inr (cel (τ 4) (0 + z * 6 + 0))], τ) _ _
    refine ex_k 1 (P := none) (g := (cod m1_mostPoints 16, [some (.inl 7), some (.inr x), some (.inr v), some (.inr z)], [.inr x, .inr (cel (τ 4) (0 + z * 6 + 0))], τ)) rfl trivial ?_
    refine ex_b (P := (cel (τ 4) (0 + z * 6 + 0)) = x) (ct := (cod m1_mostPoints 27, [some (.inl 7), some (.inr x), some (.inr v), some (.inr z)], [], τ)) (cf := (cod m1_mostPoints 17, [some (.inl 7), some (.inr x), some (.inr v), some (.inr z)], [], τ)) rfl ⟨⟨by omega, by omega⟩, ⟨by omega, by omega⟩⟩ (fun h2 => ?_) (fun h2 => ?_)
    · first
      | (exfalso; omega)
      | (
          refine ex_k 2 (P := none) (g := (cod m1_mostPoints 4, [some (.inl 7), some (.inr x), some (.inr v), some (.inr (z + 1))], [], τ)) rfl trivial ?_
          exact ih (k + 1) (by omega) _ _  (by omega) (by subst hz; have hv1 := hv.1; refine ⟨?_, by omega⟩; show _ = ite _ _ _; first | (rw [if_pos (show _ ∧ _ from ⟨by omega, by omega⟩), ← hv1]; done) | (rw [if_neg (fun q => by have q1 := q.1; have q2 := q.2; omega), ← hv1]; done)))
    · first
      | (exfalso; omega)
      | (
          refine ex_k 2 (P := none) (g := (cod m1_mostPoints 19, [some (.inl 7), some (.inr x), some (.inr v), some (.inr z)], [.inr z, .inl 7], τ)) rfl trivial ?_
          refine ex_c (s_jumpsOver (τ := τ) (f := z) (Or.inl ⟨rfl, rfl, rfl⟩) (by omega) hS) (is := cod m1_mostPoints 20) (L := [some (.inl 7), some (.inr x), some (.inr v), some (.inr z)]) (st := []) rfl rfl rfl ?_
          show Ex _ _ (cod m1_mostPoints 20, [some (.inl 7), some (.inr x), some (.inr v), some (.inr z)], [.inr (jov (τ 4) z)], τ) _ _
          refine ex_b (P := (jov (τ 4) z) ≤ 0) (ct := (cod m1_mostPoints 27, [some (.inl 7), some (.inr x), some (.inr v), some (.inr z)], [], τ)) (cf := (cod m1_mostPoints 21, [some (.inl 7), some (.inr x), some (.inr v), some (.inr z)], [], τ)) rfl ⟨by omega, by omega⟩ (fun h3 => ?_) (fun h3 => ?_)
          · first
            | (exfalso; omega)
            | (
                refine ex_k 2 (P := none) (g := (cod m1_mostPoints 4, [some (.inl 7), some (.inr x), some (.inr v), some (.inr (z + 1))], [], τ)) rfl trivial ?_
                exact ih (k + 1) (by omega) _ _  (by omega) (by subst hz; have hv1 := hv.1; refine ⟨?_, by omega⟩; show _ = ite _ _ _; first | (rw [if_pos (show _ ∧ _ from ⟨by omega, by omega⟩), ← hv1]; done) | (rw [if_neg (fun q => by have q1 := q.1; have q2 := q.2; omega), ← hv1]; done)))
          · first
            | (exfalso; omega)
            | (
                refine ex_k 3 (P := none) (g := (cod m1_mostPoints 24, [some (.inl 7), some (.inr x), some (.inr v), some (.inr z)], [.inr z, .inl 7, .inr v], τ)) rfl trivial ?_
                refine ex_c (s_worthOf (τ := τ) (f := z) (Or.inl ⟨rfl, rfl, rfl⟩) (by omega)) (is := cod m1_mostPoints 25) (L := [some (.inl 7), some (.inr x), some (.inr v), some (.inr z)]) (st := [.inr v]) rfl rfl rfl ?_
                show Ex _ _ (cod m1_mostPoints 25, [some (.inl 7), some (.inr x), some (.inr v), some (.inr z)], [.inr (1 + cel (τ 4) (0 + z * 6 + 3)), .inr v], τ) _ _
                refine ex_k 1 (P := some (Rng v ∧ Rng (1 + cel (τ 4) (0 + z * 6 + 3)))) (g := (cod m1_mostPoints 26, [some (.inl 7), some (.inr x), some (.inr v), some (.inr z)], [.inr (if v < (1 + cel (τ 4) (0 + z * 6 + 3)) then (1 + cel (τ 4) (0 + z * 6 + 3)) else v)], τ)) rfl ⟨⟨by omega, by omega⟩, ⟨by omega, by omega⟩⟩ ?_
                refine ex_k 3 (P := none) (g := (cod m1_mostPoints 4, [some (.inl 7), some (.inr x), some (.inr (if v < (1 + cel (τ 4) (0 + z * 6 + 3)) then (1 + cel (τ 4) (0 + z * 6 + 3)) else v)), some (.inr (z + 1))], [], τ)) rfl trivial ?_
                exact ih (k + 1) (by omega) _ _  (by omega) (by subst hz; have hv1 := hv.1; refine ⟨?_, by omega⟩; show _ = ite _ _ _; first | (rw [if_pos (show _ ∧ _ from ⟨by omega, by omega⟩), ← hv1]; done) | (rw [if_neg (fun q => by have q1 := q.1; have q2 := q.2; omega), ← hv1]; done))))
theorem lp_mostPoints_5 {τ : SZ} {N : Nat} {x : Int} {B : Int} (hx : 0 ≤ x ∧ x < 2) (hS : Sh B (τ 5)) (hn : cel (τ 5) 107 = (N : Int)) : ∀ (j k : Nat), k + j = N → ∀ (z v : Int), z = (k : Int) → (v = mxp (τ 5) x k ∧ (0 ≤ v ∧ v ≤ 2)) → Ex 4 m1_mostPoints (cod m1_mostPoints 4, [some (.inl 8), some (.inr x), some (.inr v), some (.inr z)], [], τ) 0 (.inl (some (.inr (mxp (τ 5) x N)), τ)) := by
  intro j
  induction j with
  | zero =>
    intro k hk z v  hz hv
    have hN := hS.n
    have hb := cel_bd hS.bd (0 + z * 6 + 0)
    have hj := @jov_in (τ 5) z
    have hk2 : 0 ≤ z → z < 8 → 0 ≤ cel (τ 5) (0 + z * 6 + 3) ∧ cel (τ 5) (0 + z * 6 + 3) ≤ 1 := fun q1 q2 => hS.kg ⟨q1, q2⟩
    refine ex_k 4 (P := none) (g := (cod m1_mostPoints 8, [some (.inl 8), some (.inr x), some (.inr v), some (.inr z)], [.inr 7, .inl 2, .inr z], τ)) rfl trivial ?_
    refine ex_c (s_total (τ := τ) (w := 7) (Or.inr (Or.inl ⟨rfl, rfl⟩)) (by omega)) (is := cod m1_mostPoints 9) (L := [some (.inl 8), some (.inr x), some (.inr v), some (.inr z)]) (st := [.inr z]) rfl rfl rfl ?_
    show Ex _ _ (cod m1_mostPoints 9, [some (.inl 8), some (.inr x), some (.inr v), some (.inr z)], [.inr (cel (τ 5) 107), .inr z], τ) _ _
    refine ex_b (P := (cel (τ 5) 107) ≤ z) (ct := (cod m1_mostPoints 29, [some (.inl 8), some (.inr x), some (.inr v), some (.inr z)], [], τ)) (cf := (cod m1_mostPoints 10, [some (.inl 8), some (.inr x), some (.inr v), some (.inr z)], [], τ)) rfl ⟨⟨by omega, by omega⟩, ⟨by omega, by omega⟩⟩ (fun _ => ?_) (fun hh => absurd (by omega) hh)
    refine ex_k 1 (P := none) (g := (cod m1_mostPoints 30, [some (.inl 8), some (.inr x), some (.inr v), some (.inr z)], [.inr v], τ)) rfl trivial ?_
    exact ex_r rfl trivial rfl (rI (by rw [hv.1]; congr 1; omega))
  | succ j ih =>
    intro k hk z v  hz hv
    have hN := hS.n
    have hb := cel_bd hS.bd (0 + z * 6 + 0)
    have hj := @jov_in (τ 5) z
    have hk2 : 0 ≤ z → z < 8 → 0 ≤ cel (τ 5) (0 + z * 6 + 3) ∧ cel (τ 5) (0 + z * 6 + 3) ≤ 1 := fun q1 q2 => hS.kg ⟨q1, q2⟩
    refine ex_k 4 (P := none) (g := (cod m1_mostPoints 8, [some (.inl 8), some (.inr x), some (.inr v), some (.inr z)], [.inr 7, .inl 2, .inr z], τ)) rfl trivial ?_
    refine ex_c (s_total (τ := τ) (w := 7) (Or.inr (Or.inl ⟨rfl, rfl⟩)) (by omega)) (is := cod m1_mostPoints 9) (L := [some (.inl 8), some (.inr x), some (.inr v), some (.inr z)]) (st := [.inr z]) rfl rfl rfl ?_
    show Ex _ _ (cod m1_mostPoints 9, [some (.inl 8), some (.inr x), some (.inr v), some (.inr z)], [.inr (cel (τ 5) 107), .inr z], τ) _ _
    refine ex_b (P := (cel (τ 5) 107) ≤ z) (ct := (cod m1_mostPoints 29, [some (.inl 8), some (.inr x), some (.inr v), some (.inr z)], [], τ)) (cf := (cod m1_mostPoints 10, [some (.inl 8), some (.inr x), some (.inr v), some (.inr z)], [], τ)) rfl ⟨⟨by omega, by omega⟩, ⟨by omega, by omega⟩⟩ (fun hh => absurd hh (by omega)) (fun _ => ?_)
    refine ex_k 4 (P := none) (g := (cod m1_mostPoints 14, [some (.inl 8), some (.inr x), some (.inr v), some (.inr z)], [.inr 0, .inr z, .inl 2], τ)) rfl trivial ?_
    refine ex_c (s_number (τ := τ) (f := z) (w := 0) (Or.inr (Or.inl ⟨rfl, rfl⟩)) (by omega) (by omega)) (is := cod m1_mostPoints 15) (L := [some (.inl 8), some (.inr x), some (.inr v), some (.inr z)]) (st := []) rfl rfl rfl ?_
    show Ex _ _ (cod m1_mostPoints 15, [some (.inl 8), some (.inr x), some (.inr v), some (.inr z)], [.inr (cel (τ 5) (0 + z * 6 + 0))], τ) _ _
    refine ex_k 1 (P := none) (g := (cod m1_mostPoints 16, [some (.inl 8), some (.inr x), some (.inr v), some (.inr z)], [.inr x, .inr (cel (τ 5) (0 + z * 6 + 0))], τ)) rfl trivial ?_
    refine ex_b (P := (cel (τ 5) (0 + z * 6 + 0)) = x) (ct := (cod m1_mostPoints 27, [some (.inl 8), some (.inr x), some (.inr v), some (.inr z)], [], τ)) (cf := (cod m1_mostPoints 17, [some (.inl 8), some (.inr x), some (.inr v), some (.inr z)], [], τ)) rfl ⟨⟨by omega, by omega⟩, ⟨by omega, by omega⟩⟩ (fun h2 => ?_) (fun h2 => ?_)
    · first
      | (exfalso; omega)
      | (
          refine ex_k 2 (P := none) (g := (cod m1_mostPoints 4, [some (.inl 8), some (.inr x), some (.inr v), some (.inr (z + 1))], [], τ)) rfl trivial ?_
          exact ih (k + 1) (by omega) _ _  (by omega) (by subst hz; have hv1 := hv.1; refine ⟨?_, by omega⟩; show _ = ite _ _ _; first | (rw [if_pos (show _ ∧ _ from ⟨by omega, by omega⟩), ← hv1]; done) | (rw [if_neg (fun q => by have q1 := q.1; have q2 := q.2; omega), ← hv1]; done)))
    · first
      | (exfalso; omega)
      | (
          refine ex_k 2 (P := none) (g := (cod m1_mostPoints 19, [some (.inl 8), some (.inr x), some (.inr v), some (.inr z)], [.inr z, .inl 8], τ)) rfl trivial ?_
          refine ex_c (s_jumpsOver (τ := τ) (f := z) (Or.inr ⟨rfl, rfl, rfl⟩) (by omega) hS) (is := cod m1_mostPoints 20) (L := [some (.inl 8), some (.inr x), some (.inr v), some (.inr z)]) (st := []) rfl rfl rfl ?_
          show Ex _ _ (cod m1_mostPoints 20, [some (.inl 8), some (.inr x), some (.inr v), some (.inr z)], [.inr (jov (τ 5) z)], τ) _ _
          refine ex_b (P := (jov (τ 5) z) ≤ 0) (ct := (cod m1_mostPoints 27, [some (.inl 8), some (.inr x), some (.inr v), some (.inr z)], [], τ)) (cf := (cod m1_mostPoints 21, [some (.inl 8), some (.inr x), some (.inr v), some (.inr z)], [], τ)) rfl ⟨by omega, by omega⟩ (fun h3 => ?_) (fun h3 => ?_)
          · first
            | (exfalso; omega)
            | (
                refine ex_k 2 (P := none) (g := (cod m1_mostPoints 4, [some (.inl 8), some (.inr x), some (.inr v), some (.inr (z + 1))], [], τ)) rfl trivial ?_
                exact ih (k + 1) (by omega) _ _  (by omega) (by subst hz; have hv1 := hv.1; refine ⟨?_, by omega⟩; show _ = ite _ _ _; first | (rw [if_pos (show _ ∧ _ from ⟨by omega, by omega⟩), ← hv1]; done) | (rw [if_neg (fun q => by have q1 := q.1; have q2 := q.2; omega), ← hv1]; done)))
          · first
            | (exfalso; omega)
            | (
                refine ex_k 3 (P := none) (g := (cod m1_mostPoints 24, [some (.inl 8), some (.inr x), some (.inr v), some (.inr z)], [.inr z, .inl 8, .inr v], τ)) rfl trivial ?_
                refine ex_c (s_worthOf (τ := τ) (f := z) (Or.inr ⟨rfl, rfl, rfl⟩) (by omega)) (is := cod m1_mostPoints 25) (L := [some (.inl 8), some (.inr x), some (.inr v), some (.inr z)]) (st := [.inr v]) rfl rfl rfl ?_
                show Ex _ _ (cod m1_mostPoints 25, [some (.inl 8), some (.inr x), some (.inr v), some (.inr z)], [.inr (1 + cel (τ 5) (0 + z * 6 + 3)), .inr v], τ) _ _
                refine ex_k 1 (P := some (Rng v ∧ Rng (1 + cel (τ 5) (0 + z * 6 + 3)))) (g := (cod m1_mostPoints 26, [some (.inl 8), some (.inr x), some (.inr v), some (.inr z)], [.inr (if v < (1 + cel (τ 5) (0 + z * 6 + 3)) then (1 + cel (τ 5) (0 + z * 6 + 3)) else v)], τ)) rfl ⟨⟨by omega, by omega⟩, ⟨by omega, by omega⟩⟩ ?_
                refine ex_k 3 (P := none) (g := (cod m1_mostPoints 4, [some (.inl 8), some (.inr x), some (.inr (if v < (1 + cel (τ 5) (0 + z * 6 + 3)) then (1 + cel (τ 5) (0 + z * 6 + 3)) else v)), some (.inr (z + 1))], [], τ)) rfl trivial ?_
                exact ih (k + 1) (by omega) _ _  (by omega) (by subst hz; have hv1 := hv.1; refine ⟨?_, by omega⟩; show _ = ite _ _ _; first | (rw [if_pos (show _ ∧ _ from ⟨by omega, by omega⟩), ← hv1]; done) | (rw [if_neg (fun q => by have q1 := q.1; have q2 := q.2; omega), ← hv1]; done))))
theorem s_mostPoints {γ ρ a : Nat} {N : Nat} {x : Int} {B : Int} {τ : SZ} (hγ : GA γ ρ a) (hx : 0 ≤ x ∧ x < 2) (hS : Sh B (τ a)) (hn : cel (τ a) 107 = (N : Int)) : RZ 5 m1_mostPoints [.inl γ, .inr x] τ (.inl (some (.inr (mxp (τ a) x N)), τ)) := by
  rcases hγ with ⟨rfl, rfl, rfl⟩ | ⟨rfl, rfl, rfl⟩
  · refine Ex.call ?_ rfl rfl
    show Ex _ _ (cod m1_mostPoints 0, [some (.inl 7), some (.inr x), none, none], [], τ) _ _
    refine ex_k 4 (P := none) (g := (cod m1_mostPoints 4, [some (.inl 7), some (.inr x), some (.inr 0), some (.inr 0)], [], τ)) rfl trivial ?_
    exact lp_mostPoints_4 hx hS hn N 0 (by omega) 0 0 rfl ⟨rfl, by omega⟩
  · refine Ex.call ?_ rfl rfl
    show Ex _ _ (cod m1_mostPoints 0, [some (.inl 8), some (.inr x), none, none], [], τ) _ _
    refine ex_k 4 (P := none) (g := (cod m1_mostPoints 4, [some (.inl 8), some (.inr x), some (.inr 0), some (.inr 0)], [], τ)) rfl trivial ?_
    exact lp_mostPoints_5 hx hS hn N 0 (by omega) 0 0 rfl ⟨rfl, by omega⟩
def wtl (c : Nat → Int) (f r : Int) : Nat → Int
  | 0 => 0
  | j + 1 => if (((cel c (0 + f * 6 + 0) = 0 ∧ 1 = 1) ∨ (¬ cel c (0 + f * 6 + 0) = 0 ∧ 1 = -1) ∨ cel c (0 + f * 6 + 3) = 1) ∧ 0 < usz c r (cel c (0 + f * 6 + (1 + r)) + (11 - (j : Int)))) ∨ (((cel c (0 + f * 6 + 0) = 0 ∧ (-1) = 1) ∨ (¬ cel c (0 + f * 6 + 0) = 0 ∧ (-1) = -1) ∨ cel c (0 + f * 6 + 3) = 1) ∧ 0 < usz c r (cel c (0 + f * 6 + (1 + r)) - (11 - (j : Int)))) then 11 - (j : Int) else wtl c f r j
theorem lp_wayToLock_4 {τ : SZ} {f r : Int} {B : Int} (hf : 0 ≤ f ∧ f < 8) (hr : 0 ≤ r ∧ r < 2) (hS : Sh B (τ 4)) : ∀ (j : Nat) (z : Int) (o1 o2 : Option VZ), z + (j : Int) = 12 → 1 ≤ z → Ex 3 m1_wayToLock (cod m1_wayToLock 10, [some (.inl 7), some (.inr f), some (.inr r), some (.inr (cel (τ 4) (0 + f * 6 + (1 + r)))), some (.inr z), o1, o2], [], τ) 0 (.inl (some (.inr (wtl (τ 4) f r j)), τ)) := by
  intro j
  induction j with
  | zero =>
    intro z o1 o2 hz hz1
    have hp := hS.pl hf hr
    have hu1 := hS.us (p := cel (τ 4) (0 + f * 6 + (1 + r)) + z) hr
    have hu2 := hS.us (p := cel (τ 4) (0 + f * 6 + (1 + r)) - z) hr
    refine ex_k 2 (P := none) (g := (cod m1_wayToLock 12, [some (.inl 7), some (.inr f), some (.inr r), some (.inr (cel (τ 4) (0 + f * 6 + (1 + r)))), some (.inr z), o1, o2], [.inr 12, .inr z], τ)) rfl trivial ?_
    refine ex_b (P := 12 ≤ z) (ct := (cod m1_wayToLock 55, [some (.inl 7), some (.inr f), some (.inr r), some (.inr (cel (τ 4) (0 + f * 6 + (1 + r)))), some (.inr z), o1, o2], [], τ)) (cf := (cod m1_wayToLock 13, [some (.inl 7), some (.inr f), some (.inr r), some (.inr (cel (τ 4) (0 + f * 6 + (1 + r)))), some (.inr z), o1, o2], [], τ)) rfl ⟨⟨by omega, by omega⟩, ⟨by decide, by decide⟩⟩ (fun _ => ?_) (fun hh => absurd (by omega) hh)
    refine ex_k 1 (P := none) (g := (cod m1_wayToLock 56, [some (.inl 7), some (.inr f), some (.inr r), some (.inr (cel (τ 4) (0 + f * 6 + (1 + r)))), some (.inr z), o1, o2], [.inr 0], τ)) rfl trivial ?_
    exact ex_r rfl trivial rfl (rfl)
  | succ j ih =>
    intro z o1 o2 hz hz1
    have hp := hS.pl hf hr
    have hu1 := hS.us (p := cel (τ 4) (0 + f * 6 + (1 + r)) + z) hr
    have hu2 := hS.us (p := cel (τ 4) (0 + f * 6 + (1 + r)) - z) hr
    have ez : z = 11 - (j : Int) := by omega
    refine ex_k 2 (P := none) (g := (cod m1_wayToLock 12, [some (.inl 7), some (.inr f), some (.inr r), some (.inr (cel (τ 4) (0 + f * 6 + (1 + r)))), some (.inr z), o1, o2], [.inr 12, .inr z], τ)) rfl trivial ?_
    refine ex_b (P := 12 ≤ z) (ct := (cod m1_wayToLock 55, [some (.inl 7), some (.inr f), some (.inr r), some (.inr (cel (τ 4) (0 + f * 6 + (1 + r)))), some (.inr z), o1, o2], [], τ)) (cf := (cod m1_wayToLock 13, [some (.inl 7), some (.inr f), some (.inr r), some (.inr (cel (τ 4) (0 + f * 6 + (1 + r)))), some (.inr z), o1, o2], [], τ)) rfl ⟨⟨by omega, by omega⟩, ⟨by decide, by decide⟩⟩ (fun hh => absurd hh (by omega)) (fun _ => ?_)
    refine ex_k 3 (P := none) (g := (cod m1_wayToLock 16, [some (.inl 7), some (.inr f), some (.inr r), some (.inr (cel (τ 4) (0 + f * 6 + (1 + r)))), some (.inr z), o1, o2], [.inr 1, .inr f, .inl 7], τ)) rfl trivial ?_
    refine ex_c (s_goesBy (τ := τ) (f := f) (s := 1) (Or.inl ⟨rfl, rfl, rfl⟩) (by omega) (by omega) hS.bd) (is := cod m1_wayToLock 17) (L := [some (.inl 7), some (.inr f), some (.inr r), some (.inr (cel (τ 4) (0 + f * 6 + (1 + r)))), some (.inr z), o1, o2]) (st := []) rfl rfl rfl ?_
    show Ex _ _ (cod m1_wayToLock 17, [some (.inl 7), some (.inr f), some (.inr r), some (.inr (cel (τ 4) (0 + f * 6 + (1 + r)))), some (.inr z), o1, o2], [.inr (b2 ((cel (τ 4) (0 + f * 6 + 0) = 0 ∧ 1 = 1) ∨ (¬ cel (τ 4) (0 + f * 6 + 0) = 0 ∧ 1 = -1) ∨ cel (τ 4) (0 + f * 6 + 3) = 1))], τ) _ _
    refine ex_b (P := (b2 ((cel (τ 4) (0 + f * 6 + 0) = 0 ∧ 1 = 1) ∨ (¬ cel (τ 4) (0 + f * 6 + 0) = 0 ∧ 1 = -1) ∨ cel (τ 4) (0 + f * 6 + 3) = 1)) = 0) (ct := (cod m1_wayToLock 28, [some (.inl 7), some (.inr f), some (.inr r), some (.inr (cel (τ 4) (0 + f * 6 + (1 + r)))), some (.inr z), o1, o2], [], τ)) (cf := (cod m1_wayToLock 18, [some (.inl 7), some (.inr f), some (.inr r), some (.inr (cel (τ 4) (0 + f * 6 + (1 + r)))), some (.inr z), o1, o2], [], τ)) rfl b2_rng (fun h2 => ?_) (fun h2 => ?_)
    · first
      | (exfalso; have h2 := b2_e0 h2; omega)
      | (
          have h2 := b2_e0 h2
          refine ex_k 5 (P := none) (g := (cod m1_wayToLock 33, [some (.inl 7), some (.inr f), some (.inr r), some (.inr (cel (τ 4) (0 + f * 6 + (1 + r)))), some (.inr z), some (.inr 0), o2], [.inr (-1), .inr f, .inl 7], τ)) rfl trivial ?_
          refine ex_c (s_goesBy (τ := τ) (f := f) (s := (-1)) (Or.inl ⟨rfl, rfl, rfl⟩) (by omega) (by omega) hS.bd) (is := cod m1_wayToLock 34) (L := [some (.inl 7), some (.inr f), some (.inr r), some (.inr (cel (τ 4) (0 + f * 6 + (1 + r)))), some (.inr z), some (.inr 0), o2]) (st := []) rfl rfl rfl ?_
          show Ex _ _ (cod m1_wayToLock 34, [some (.inl 7), some (.inr f), some (.inr r), some (.inr (cel (τ 4) (0 + f * 6 + (1 + r)))), some (.inr z), some (.inr 0), o2], [.inr (b2 ((cel (τ 4) (0 + f * 6 + 0) = 0 ∧ (-1) = 1) ∨ (¬ cel (τ 4) (0 + f * 6 + 0) = 0 ∧ (-1) = -1) ∨ cel (τ 4) (0 + f * 6 + 3) = 1))], τ) _ _
          refine ex_b (P := (b2 ((cel (τ 4) (0 + f * 6 + 0) = 0 ∧ (-1) = 1) ∨ (¬ cel (τ 4) (0 + f * 6 + 0) = 0 ∧ (-1) = -1) ∨ cel (τ 4) (0 + f * 6 + 3) = 1)) = 0) (ct := (cod m1_wayToLock 45, [some (.inl 7), some (.inr f), some (.inr r), some (.inr (cel (τ 4) (0 + f * 6 + (1 + r)))), some (.inr z), some (.inr 0), o2], [], τ)) (cf := (cod m1_wayToLock 35, [some (.inl 7), some (.inr f), some (.inr r), some (.inr (cel (τ 4) (0 + f * 6 + (1 + r)))), some (.inr z), some (.inr 0), o2], [], τ)) rfl b2_rng (fun h3 => ?_) (fun h3 => ?_)
          · first
            | (exfalso; have h3 := b2_e0 h3; omega)
            | (
                have h3 := b2_e0 h3
                refine ex_k 3 (P := none) (g := (cod m1_wayToLock 48, [some (.inl 7), some (.inr f), some (.inr r), some (.inr (cel (τ 4) (0 + f * 6 + (1 + r)))), some (.inr z), some (.inr 0), some (.inr 0)], [.inr 0], τ)) rfl trivial ?_
                refine ex_b (P := ¬ 0 = 0) (ct := (cod m1_wayToLock 51, [some (.inl 7), some (.inr f), some (.inr r), some (.inr (cel (τ 4) (0 + f * 6 + (1 + r)))), some (.inr z), some (.inr 0), some (.inr 0)], [], τ)) (cf := (cod m1_wayToLock 49, [some (.inl 7), some (.inr f), some (.inr r), some (.inr (cel (τ 4) (0 + f * 6 + (1 + r)))), some (.inr z), some (.inr 0), some (.inr 0)], [], τ)) rfl ⟨by decide, by decide⟩ (fun hh => absurd hh (by decide)) (fun _ => ?_)
                refine ex_k 1 (P := none) (g := (cod m1_wayToLock 50, [some (.inl 7), some (.inr f), some (.inr r), some (.inr (cel (τ 4) (0 + f * 6 + (1 + r)))), some (.inr z), some (.inr 0), some (.inr 0)], [.inr 0], τ)) rfl trivial ?_
                refine ex_b (P := 0 = 0) (ct := (cod m1_wayToLock 53, [some (.inl 7), some (.inr f), some (.inr r), some (.inr (cel (τ 4) (0 + f * 6 + (1 + r)))), some (.inr z), some (.inr 0), some (.inr 0)], [], τ)) (cf := (cod m1_wayToLock 51, [some (.inl 7), some (.inr f), some (.inr r), some (.inr (cel (τ 4) (0 + f * 6 + (1 + r)))), some (.inr z), some (.inr 0), some (.inr 0)], [], τ)) rfl ⟨by decide, by decide⟩ (fun _ => ?_) (fun hh => absurd (by decide) hh)
                refine ex_k 2 (P := none) (g := (cod m1_wayToLock 10, [some (.inl 7), some (.inr f), some (.inr r), some (.inr (cel (τ 4) (0 + f * 6 + (1 + r)))), some (.inr (z + 1)), some (.inr 0), some (.inr 0)], [], τ)) rfl trivial ?_
                have e : wtl (τ 4) f r (j + 1) = wtl (τ 4) f r j := if_neg (by rw [← ez]; omega)
                rw [e]
                exact ih (z + 1) _ _ (by omega) (by omega))
          · first
            | (exfalso; have h3 := b2_n0 h3; omega)
            | (
                have h3 := b2_n0 h3
                refine ex_k 6 (P := none) (g := (cod m1_wayToLock 41, [some (.inl 7), some (.inr f), some (.inr r), some (.inr (cel (τ 4) (0 + f * 6 + (1 + r)))), some (.inr z), some (.inr 0), o2], [.inr ((cel (τ 4) (0 + f * 6 + (1 + r))) - z), .inr r, .inl 1], τ)) rfl trivial ?_
                refine ex_c (s_usesAt (τ := τ) (r := r) (p := (cel (τ 4) (0 + f * 6 + (1 + r))) - z) (Or.inl ⟨rfl, rfl⟩) (by omega) ⟨by omega, by omega⟩) (is := cod m1_wayToLock 42) (L := [some (.inl 7), some (.inr f), some (.inr r), some (.inr (cel (τ 4) (0 + f * 6 + (1 + r)))), some (.inr z), some (.inr 0), o2]) (st := []) rfl rfl rfl ?_
                show Ex _ _ (cod m1_wayToLock 42, [some (.inl 7), some (.inr f), some (.inr r), some (.inr (cel (τ 4) (0 + f * 6 + (1 + r)))), some (.inr z), some (.inr 0), o2], [.inr (usz (τ 4) r ((cel (τ 4) (0 + f * 6 + (1 + r))) - z))], τ) _ _
                refine ex_b (P := (usz (τ 4) r ((cel (τ 4) (0 + f * 6 + (1 + r))) - z)) ≤ 0) (ct := (cod m1_wayToLock 45, [some (.inl 7), some (.inr f), some (.inr r), some (.inr (cel (τ 4) (0 + f * 6 + (1 + r)))), some (.inr z), some (.inr 0), o2], [], τ)) (cf := (cod m1_wayToLock 43, [some (.inl 7), some (.inr f), some (.inr r), some (.inr (cel (τ 4) (0 + f * 6 + (1 + r)))), some (.inr z), some (.inr 0), o2], [], τ)) rfl ⟨by omega, by omega⟩ (fun h6 => ?_) (fun h6 => ?_)
                · first
                  | (exfalso; omega)
                  | (
                      refine ex_k 3 (P := none) (g := (cod m1_wayToLock 48, [some (.inl 7), some (.inr f), some (.inr r), some (.inr (cel (τ 4) (0 + f * 6 + (1 + r)))), some (.inr z), some (.inr 0), some (.inr 0)], [.inr 0], τ)) rfl trivial ?_
                      refine ex_b (P := ¬ 0 = 0) (ct := (cod m1_wayToLock 51, [some (.inl 7), some (.inr f), some (.inr r), some (.inr (cel (τ 4) (0 + f * 6 + (1 + r)))), some (.inr z), some (.inr 0), some (.inr 0)], [], τ)) (cf := (cod m1_wayToLock 49, [some (.inl 7), some (.inr f), some (.inr r), some (.inr (cel (τ 4) (0 + f * 6 + (1 + r)))), some (.inr z), some (.inr 0), some (.inr 0)], [], τ)) rfl ⟨by decide, by decide⟩ (fun hh => absurd hh (by decide)) (fun _ => ?_)
                      refine ex_k 1 (P := none) (g := (cod m1_wayToLock 50, [some (.inl 7), some (.inr f), some (.inr r), some (.inr (cel (τ 4) (0 + f * 6 + (1 + r)))), some (.inr z), some (.inr 0), some (.inr 0)], [.inr 0], τ)) rfl trivial ?_
                      refine ex_b (P := 0 = 0) (ct := (cod m1_wayToLock 53, [some (.inl 7), some (.inr f), some (.inr r), some (.inr (cel (τ 4) (0 + f * 6 + (1 + r)))), some (.inr z), some (.inr 0), some (.inr 0)], [], τ)) (cf := (cod m1_wayToLock 51, [some (.inl 7), some (.inr f), some (.inr r), some (.inr (cel (τ 4) (0 + f * 6 + (1 + r)))), some (.inr z), some (.inr 0), some (.inr 0)], [], τ)) rfl ⟨by decide, by decide⟩ (fun _ => ?_) (fun hh => absurd (by decide) hh)
                      refine ex_k 2 (P := none) (g := (cod m1_wayToLock 10, [some (.inl 7), some (.inr f), some (.inr r), some (.inr (cel (τ 4) (0 + f * 6 + (1 + r)))), some (.inr (z + 1)), some (.inr 0), some (.inr 0)], [], τ)) rfl trivial ?_
                      have e : wtl (τ 4) f r (j + 1) = wtl (τ 4) f r j := if_neg (by rw [← ez]; omega)
                      rw [e]
                      exact ih (z + 1) _ _ (by omega) (by omega))
                · first
                  | (exfalso; omega)
                  | (
                      refine ex_k 4 (P := none) (g := (cod m1_wayToLock 48, [some (.inl 7), some (.inr f), some (.inr r), some (.inr (cel (τ 4) (0 + f * 6 + (1 + r)))), some (.inr z), some (.inr 0), some (.inr 1)], [.inr 0], τ)) rfl trivial ?_
                      refine ex_b (P := ¬ 0 = 0) (ct := (cod m1_wayToLock 51, [some (.inl 7), some (.inr f), some (.inr r), some (.inr (cel (τ 4) (0 + f * 6 + (1 + r)))), some (.inr z), some (.inr 0), some (.inr 1)], [], τ)) (cf := (cod m1_wayToLock 49, [some (.inl 7), some (.inr f), some (.inr r), some (.inr (cel (τ 4) (0 + f * 6 + (1 + r)))), some (.inr z), some (.inr 0), some (.inr 1)], [], τ)) rfl ⟨by decide, by decide⟩ (fun hh => absurd hh (by decide)) (fun _ => ?_)
                      refine ex_k 1 (P := none) (g := (cod m1_wayToLock 50, [some (.inl 7), some (.inr f), some (.inr r), some (.inr (cel (τ 4) (0 + f * 6 + (1 + r)))), some (.inr z), some (.inr 0), some (.inr 1)], [.inr 1], τ)) rfl trivial ?_
                      refine ex_b (P := 1 = 0) (ct := (cod m1_wayToLock 53, [some (.inl 7), some (.inr f), some (.inr r), some (.inr (cel (τ 4) (0 + f * 6 + (1 + r)))), some (.inr z), some (.inr 0), some (.inr 1)], [], τ)) (cf := (cod m1_wayToLock 51, [some (.inl 7), some (.inr f), some (.inr r), some (.inr (cel (τ 4) (0 + f * 6 + (1 + r)))), some (.inr z), some (.inr 0), some (.inr 1)], [], τ)) rfl ⟨by decide, by decide⟩ (fun hh => absurd hh (by decide)) (fun _ => ?_)
                      refine ex_k 1 (P := none) (g := (cod m1_wayToLock 52, [some (.inl 7), some (.inr f), some (.inr r), some (.inr (cel (τ 4) (0 + f * 6 + (1 + r)))), some (.inr z), some (.inr 0), some (.inr 1)], [.inr z], τ)) rfl trivial ?_
                      exact ex_r rfl trivial rfl (rI (by show ite _ _ _ = z; rw [← ez]; rw [if_pos (by omega)])))))
    · first
      | (exfalso; have h2 := b2_n0 h2; omega)
      | (
          have h2 := b2_n0 h2
          refine ex_k 6 (P := none) (g := (cod m1_wayToLock 24, [some (.inl 7), some (.inr f), some (.inr r), some (.inr (cel (τ 4) (0 + f * 6 + (1 + r)))), some (.inr z), o1, o2], [.inr ((cel (τ 4) (0 + f * 6 + (1 + r))) + z), .inr r, .inl 1], τ)) rfl trivial ?_
          refine ex_c (s_usesAt (τ := τ) (r := r) (p := (cel (τ 4) (0 + f * 6 + (1 + r))) + z) (Or.inl ⟨rfl, rfl⟩) (by omega) ⟨by omega, by omega⟩) (is := cod m1_wayToLock 25) (L := [some (.inl 7), some (.inr f), some (.inr r), some (.inr (cel (τ 4) (0 + f * 6 + (1 + r)))), some (.inr z), o1, o2]) (st := []) rfl rfl rfl ?_
          show Ex _ _ (cod m1_wayToLock 25, [some (.inl 7), some (.inr f), some (.inr r), some (.inr (cel (τ 4) (0 + f * 6 + (1 + r)))), some (.inr z), o1, o2], [.inr (usz (τ 4) r ((cel (τ 4) (0 + f * 6 + (1 + r))) + z))], τ) _ _
          refine ex_b (P := (usz (τ 4) r ((cel (τ 4) (0 + f * 6 + (1 + r))) + z)) ≤ 0) (ct := (cod m1_wayToLock 28, [some (.inl 7), some (.inr f), some (.inr r), some (.inr (cel (τ 4) (0 + f * 6 + (1 + r)))), some (.inr z), o1, o2], [], τ)) (cf := (cod m1_wayToLock 26, [some (.inl 7), some (.inr f), some (.inr r), some (.inr (cel (τ 4) (0 + f * 6 + (1 + r)))), some (.inr z), o1, o2], [], τ)) rfl ⟨by omega, by omega⟩ (fun h11 => ?_) (fun h11 => ?_)
          · first
            | (exfalso; omega)
            | (
                refine ex_k 5 (P := none) (g := (cod m1_wayToLock 33, [some (.inl 7), some (.inr f), some (.inr r), some (.inr (cel (τ 4) (0 + f * 6 + (1 + r)))), some (.inr z), some (.inr 0), o2], [.inr (-1), .inr f, .inl 7], τ)) rfl trivial ?_
                refine ex_c (s_goesBy (τ := τ) (f := f) (s := (-1)) (Or.inl ⟨rfl, rfl, rfl⟩) (by omega) (by omega) hS.bd) (is := cod m1_wayToLock 34) (L := [some (.inl 7), some (.inr f), some (.inr r), some (.inr (cel (τ 4) (0 + f * 6 + (1 + r)))), some (.inr z), some (.inr 0), o2]) (st := []) rfl rfl rfl ?_
                show Ex _ _ (cod m1_wayToLock 34, [some (.inl 7), some (.inr f), some (.inr r), some (.inr (cel (τ 4) (0 + f * 6 + (1 + r)))), some (.inr z), some (.inr 0), o2], [.inr (b2 ((cel (τ 4) (0 + f * 6 + 0) = 0 ∧ (-1) = 1) ∨ (¬ cel (τ 4) (0 + f * 6 + 0) = 0 ∧ (-1) = -1) ∨ cel (τ 4) (0 + f * 6 + 3) = 1))], τ) _ _
                refine ex_b (P := (b2 ((cel (τ 4) (0 + f * 6 + 0) = 0 ∧ (-1) = 1) ∨ (¬ cel (τ 4) (0 + f * 6 + 0) = 0 ∧ (-1) = -1) ∨ cel (τ 4) (0 + f * 6 + 3) = 1)) = 0) (ct := (cod m1_wayToLock 45, [some (.inl 7), some (.inr f), some (.inr r), some (.inr (cel (τ 4) (0 + f * 6 + (1 + r)))), some (.inr z), some (.inr 0), o2], [], τ)) (cf := (cod m1_wayToLock 35, [some (.inl 7), some (.inr f), some (.inr r), some (.inr (cel (τ 4) (0 + f * 6 + (1 + r)))), some (.inr z), some (.inr 0), o2], [], τ)) rfl b2_rng (fun h12 => ?_) (fun h12 => ?_)
                · first
                  | (exfalso; have h12 := b2_e0 h12; omega)
                  | (
                      have h12 := b2_e0 h12
                      refine ex_k 3 (P := none) (g := (cod m1_wayToLock 48, [some (.inl 7), some (.inr f), some (.inr r), some (.inr (cel (τ 4) (0 + f * 6 + (1 + r)))), some (.inr z), some (.inr 0), some (.inr 0)], [.inr 0], τ)) rfl trivial ?_
                      refine ex_b (P := ¬ 0 = 0) (ct := (cod m1_wayToLock 51, [some (.inl 7), some (.inr f), some (.inr r), some (.inr (cel (τ 4) (0 + f * 6 + (1 + r)))), some (.inr z), some (.inr 0), some (.inr 0)], [], τ)) (cf := (cod m1_wayToLock 49, [some (.inl 7), some (.inr f), some (.inr r), some (.inr (cel (τ 4) (0 + f * 6 + (1 + r)))), some (.inr z), some (.inr 0), some (.inr 0)], [], τ)) rfl ⟨by decide, by decide⟩ (fun hh => absurd hh (by decide)) (fun _ => ?_)
                      refine ex_k 1 (P := none) (g := (cod m1_wayToLock 50, [some (.inl 7), some (.inr f), some (.inr r), some (.inr (cel (τ 4) (0 + f * 6 + (1 + r)))), some (.inr z), some (.inr 0), some (.inr 0)], [.inr 0], τ)) rfl trivial ?_
                      refine ex_b (P := 0 = 0) (ct := (cod m1_wayToLock 53, [some (.inl 7), some (.inr f), some (.inr r), some (.inr (cel (τ 4) (0 + f * 6 + (1 + r)))), some (.inr z), some (.inr 0), some (.inr 0)], [], τ)) (cf := (cod m1_wayToLock 51, [some (.inl 7), some (.inr f), some (.inr r), some (.inr (cel (τ 4) (0 + f * 6 + (1 + r)))), some (.inr z), some (.inr 0), some (.inr 0)], [], τ)) rfl ⟨by decide, by decide⟩ (fun _ => ?_) (fun hh => absurd (by decide) hh)
                      refine ex_k 2 (P := none) (g := (cod m1_wayToLock 10, [some (.inl 7), some (.inr f), some (.inr r), some (.inr (cel (τ 4) (0 + f * 6 + (1 + r)))), some (.inr (z + 1)), some (.inr 0), some (.inr 0)], [], τ)) rfl trivial ?_
                      have e : wtl (τ 4) f r (j + 1) = wtl (τ 4) f r j := if_neg (by rw [← ez]; omega)
                      rw [e]
                      exact ih (z + 1) _ _ (by omega) (by omega))
                · first
                  | (exfalso; have h12 := b2_n0 h12; omega)
                  | (
                      have h12 := b2_n0 h12
                      refine ex_k 6 (P := none) (g := (cod m1_wayToLock 41, [some (.inl 7), some (.inr f), some (.inr r), some (.inr (cel (τ 4) (0 + f * 6 + (1 + r)))), some (.inr z), some (.inr 0), o2], [.inr ((cel (τ 4) (0 + f * 6 + (1 + r))) - z), .inr r, .inl 1], τ)) rfl trivial ?_
                      refine ex_c (s_usesAt (τ := τ) (r := r) (p := (cel (τ 4) (0 + f * 6 + (1 + r))) - z) (Or.inl ⟨rfl, rfl⟩) (by omega) ⟨by omega, by omega⟩) (is := cod m1_wayToLock 42) (L := [some (.inl 7), some (.inr f), some (.inr r), some (.inr (cel (τ 4) (0 + f * 6 + (1 + r)))), some (.inr z), some (.inr 0), o2]) (st := []) rfl rfl rfl ?_
                      show Ex _ _ (cod m1_wayToLock 42, [some (.inl 7), some (.inr f), some (.inr r), some (.inr (cel (τ 4) (0 + f * 6 + (1 + r)))), some (.inr z), some (.inr 0), o2], [.inr (usz (τ 4) r ((cel (τ 4) (0 + f * 6 + (1 + r))) - z))], τ) _ _
                      refine ex_b (P := (usz (τ 4) r ((cel (τ 4) (0 + f * 6 + (1 + r))) - z)) ≤ 0) (ct := (cod m1_wayToLock 45, [some (.inl 7), some (.inr f), some (.inr r), some (.inr (cel (τ 4) (0 + f * 6 + (1 + r)))), some (.inr z), some (.inr 0), o2], [], τ)) (cf := (cod m1_wayToLock 43, [some (.inl 7), some (.inr f), some (.inr r), some (.inr (cel (τ 4) (0 + f * 6 + (1 + r)))), some (.inr z), some (.inr 0), o2], [], τ)) rfl ⟨by omega, by omega⟩ (fun h15 => ?_) (fun h15 => ?_)
                      · first
                        | (exfalso; omega)
                        | (
                            refine ex_k 3 (P := none) (g := (cod m1_wayToLock 48, [some (.inl 7), some (.inr f), some (.inr r), some (.inr (cel (τ 4) (0 + f * 6 + (1 + r)))), some (.inr z), some (.inr 0), some (.inr 0)], [.inr 0], τ)) rfl trivial ?_
                            refine ex_b (P := ¬ 0 = 0) (ct := (cod m1_wayToLock 51, [some (.inl 7), some (.inr f), some (.inr r), some (.inr (cel (τ 4) (0 + f * 6 + (1 + r)))), some (.inr z), some (.inr 0), some (.inr 0)], [], τ)) (cf := (cod m1_wayToLock 49, [some (.inl 7), some (.inr f), some (.inr r), some (.inr (cel (τ 4) (0 + f * 6 + (1 + r)))), some (.inr z), some (.inr 0), some (.inr 0)], [], τ)) rfl ⟨by decide, by decide⟩ (fun hh => absurd hh (by decide)) (fun _ => ?_)
                            refine ex_k 1 (P := none) (g := (cod m1_wayToLock 50, [some (.inl 7), some (.inr f), some (.inr r), some (.inr (cel (τ 4) (0 + f * 6 + (1 + r)))), some (.inr z), some (.inr 0), some (.inr 0)], [.inr 0], τ)) rfl trivial ?_
                            refine ex_b (P := 0 = 0) (ct := (cod m1_wayToLock 53, [some (.inl 7), some (.inr f), some (.inr r), some (.inr (cel (τ 4) (0 + f * 6 + (1 + r)))), some (.inr z), some (.inr 0), some (.inr 0)], [], τ)) (cf := (cod m1_wayToLock 51, [some (.inl 7), some (.inr f), some (.inr r), some (.inr (cel (τ 4) (0 + f * 6 + (1 + r)))), some (.inr z), some (.inr 0), some (.inr 0)], [], τ)) rfl ⟨by decide, by decide⟩ (fun _ => ?_) (fun hh => absurd (by decide) hh)
                            refine ex_k 2 (P := none) (g := (cod m1_wayToLock 10, [some (.inl 7), some (.inr f), some (.inr r), some (.inr (cel (τ 4) (0 + f * 6 + (1 + r)))), some (.inr (z + 1)), some (.inr 0), some (.inr 0)], [], τ)) rfl trivial ?_
                            have e : wtl (τ 4) f r (j + 1) = wtl (τ 4) f r j := if_neg (by rw [← ez]; omega)
                            rw [e]
                            exact ih (z + 1) _ _ (by omega) (by omega))
                      · first
                        | (exfalso; omega)
                        | (
                            refine ex_k 4 (P := none) (g := (cod m1_wayToLock 48, [some (.inl 7), some (.inr f), some (.inr r), some (.inr (cel (τ 4) (0 + f * 6 + (1 + r)))), some (.inr z), some (.inr 0), some (.inr 1)], [.inr 0], τ)) rfl trivial ?_
                            refine ex_b (P := ¬ 0 = 0) (ct := (cod m1_wayToLock 51, [some (.inl 7), some (.inr f), some (.inr r), some (.inr (cel (τ 4) (0 + f * 6 + (1 + r)))), some (.inr z), some (.inr 0), some (.inr 1)], [], τ)) (cf := (cod m1_wayToLock 49, [some (.inl 7), some (.inr f), some (.inr r), some (.inr (cel (τ 4) (0 + f * 6 + (1 + r)))), some (.inr z), some (.inr 0), some (.inr 1)], [], τ)) rfl ⟨by decide, by decide⟩ (fun hh => absurd hh (by decide)) (fun _ => ?_)
                            refine ex_k 1 (P := none) (g := (cod m1_wayToLock 50, [some (.inl 7), some (.inr f), some (.inr r), some (.inr (cel (τ 4) (0 + f * 6 + (1 + r)))), some (.inr z), some (.inr 0), some (.inr 1)], [.inr 1], τ)) rfl trivial ?_
                            refine ex_b (P := 1 = 0) (ct := (cod m1_wayToLock 53, [some (.inl 7), some (.inr f), some (.inr r), some (.inr (cel (τ 4) (0 + f * 6 + (1 + r)))), some (.inr z), some (.inr 0), some (.inr 1)], [], τ)) (cf := (cod m1_wayToLock 51, [some (.inl 7), some (.inr f), some (.inr r), some (.inr (cel (τ 4) (0 + f * 6 + (1 + r)))), some (.inr z), some (.inr 0), some (.inr 1)], [], τ)) rfl ⟨by decide, by decide⟩ (fun hh => absurd hh (by decide)) (fun _ => ?_)
                            refine ex_k 1 (P := none) (g := (cod m1_wayToLock 52, [some (.inl 7), some (.inr f), some (.inr r), some (.inr (cel (τ 4) (0 + f * 6 + (1 + r)))), some (.inr z), some (.inr 0), some (.inr 1)], [.inr z], τ)) rfl trivial ?_
                            exact ex_r rfl trivial rfl (rI (by show ite _ _ _ = z; rw [← ez]; rw [if_pos (by omega)])))))
          · first
            | (exfalso; omega)
            | (
                refine ex_k 6 (P := none) (g := (cod m1_wayToLock 33, [some (.inl 7), some (.inr f), some (.inr r), some (.inr (cel (τ 4) (0 + f * 6 + (1 + r)))), some (.inr z), some (.inr 1), o2], [.inr (-1), .inr f, .inl 7], τ)) rfl trivial ?_
                refine ex_c (s_goesBy (τ := τ) (f := f) (s := (-1)) (Or.inl ⟨rfl, rfl, rfl⟩) (by omega) (by omega) hS.bd) (is := cod m1_wayToLock 34) (L := [some (.inl 7), some (.inr f), some (.inr r), some (.inr (cel (τ 4) (0 + f * 6 + (1 + r)))), some (.inr z), some (.inr 1), o2]) (st := []) rfl rfl rfl ?_
                show Ex _ _ (cod m1_wayToLock 34, [some (.inl 7), some (.inr f), some (.inr r), some (.inr (cel (τ 4) (0 + f * 6 + (1 + r)))), some (.inr z), some (.inr 1), o2], [.inr (b2 ((cel (τ 4) (0 + f * 6 + 0) = 0 ∧ (-1) = 1) ∨ (¬ cel (τ 4) (0 + f * 6 + 0) = 0 ∧ (-1) = -1) ∨ cel (τ 4) (0 + f * 6 + 3) = 1))], τ) _ _
                refine ex_b (P := (b2 ((cel (τ 4) (0 + f * 6 + 0) = 0 ∧ (-1) = 1) ∨ (¬ cel (τ 4) (0 + f * 6 + 0) = 0 ∧ (-1) = -1) ∨ cel (τ 4) (0 + f * 6 + 3) = 1)) = 0) (ct := (cod m1_wayToLock 45, [some (.inl 7), some (.inr f), some (.inr r), some (.inr (cel (τ 4) (0 + f * 6 + (1 + r)))), some (.inr z), some (.inr 1), o2], [], τ)) (cf := (cod m1_wayToLock 35, [some (.inl 7), some (.inr f), some (.inr r), some (.inr (cel (τ 4) (0 + f * 6 + (1 + r)))), some (.inr z), some (.inr 1), o2], [], τ)) rfl b2_rng (fun h20 => ?_) (fun h20 => ?_)
                · first
                  | (exfalso; have h20 := b2_e0 h20; omega)
                  | (
                      have h20 := b2_e0 h20
                      refine ex_k 3 (P := none) (g := (cod m1_wayToLock 48, [some (.inl 7), some (.inr f), some (.inr r), some (.inr (cel (τ 4) (0 + f * 6 + (1 + r)))), some (.inr z), some (.inr 1), some (.inr 0)], [.inr 1], τ)) rfl trivial ?_
                      refine ex_b (P := ¬ 1 = 0) (ct := (cod m1_wayToLock 51, [some (.inl 7), some (.inr f), some (.inr r), some (.inr (cel (τ 4) (0 + f * 6 + (1 + r)))), some (.inr z), some (.inr 1), some (.inr 0)], [], τ)) (cf := (cod m1_wayToLock 49, [some (.inl 7), some (.inr f), some (.inr r), some (.inr (cel (τ 4) (0 + f * 6 + (1 + r)))), some (.inr z), some (.inr 1), some (.inr 0)], [], τ)) rfl ⟨by decide, by decide⟩ (fun _ => ?_) (fun hh => absurd (by decide) hh)
                      refine ex_k 1 (P := none) (g := (cod m1_wayToLock 52, [some (.inl 7), some (.inr f), some (.inr r), some (.inr (cel (τ 4) (0 + f * 6 + (1 + r)))), some (.inr z), some (.inr 1), some (.inr 0)], [.inr z], τ)) rfl trivial ?_
                      exact ex_r rfl trivial rfl (rI (by show ite _ _ _ = z; rw [← ez]; rw [if_pos (by omega)])))
                · first
                  | (exfalso; have h20 := b2_n0 h20; omega)
                  | (
                      have h20 := b2_n0 h20
                      refine ex_k 6 (P := none) (g := (cod m1_wayToLock 41, [some (.inl 7), some (.inr f), some (.inr r), some (.inr (cel (τ 4) (0 + f * 6 + (1 + r)))), some (.inr z), some (.inr 1), o2], [.inr ((cel (τ 4) (0 + f * 6 + (1 + r))) - z), .inr r, .inl 1], τ)) rfl trivial ?_
                      refine ex_c (s_usesAt (τ := τ) (r := r) (p := (cel (τ 4) (0 + f * 6 + (1 + r))) - z) (Or.inl ⟨rfl, rfl⟩) (by omega) ⟨by omega, by omega⟩) (is := cod m1_wayToLock 42) (L := [some (.inl 7), some (.inr f), some (.inr r), some (.inr (cel (τ 4) (0 + f * 6 + (1 + r)))), some (.inr z), some (.inr 1), o2]) (st := []) rfl rfl rfl ?_
                      show Ex _ _ (cod m1_wayToLock 42, [some (.inl 7), some (.inr f), some (.inr r), some (.inr (cel (τ 4) (0 + f * 6 + (1 + r)))), some (.inr z), some (.inr 1), o2], [.inr (usz (τ 4) r ((cel (τ 4) (0 + f * 6 + (1 + r))) - z))], τ) _ _
                      refine ex_b (P := (usz (τ 4) r ((cel (τ 4) (0 + f * 6 + (1 + r))) - z)) ≤ 0) (ct := (cod m1_wayToLock 45, [some (.inl 7), some (.inr f), some (.inr r), some (.inr (cel (τ 4) (0 + f * 6 + (1 + r)))), some (.inr z), some (.inr 1), o2], [], τ)) (cf := (cod m1_wayToLock 43, [some (.inl 7), some (.inr f), some (.inr r), some (.inr (cel (τ 4) (0 + f * 6 + (1 + r)))), some (.inr z), some (.inr 1), o2], [], τ)) rfl ⟨by omega, by omega⟩ (fun h22 => ?_) (fun h22 => ?_)
                      · first
                        | (exfalso; omega)
                        | (
                            refine ex_k 3 (P := none) (g := (cod m1_wayToLock 48, [some (.inl 7), some (.inr f), some (.inr r), some (.inr (cel (τ 4) (0 + f * 6 + (1 + r)))), some (.inr z), some (.inr 1), some (.inr 0)], [.inr 1], τ)) rfl trivial ?_
                            refine ex_b (P := ¬ 1 = 0) (ct := (cod m1_wayToLock 51, [some (.inl 7), some (.inr f), some (.inr r), some (.inr (cel (τ 4) (0 + f * 6 + (1 + r)))), some (.inr z), some (.inr 1), some (.inr 0)], [], τ)) (cf := (cod m1_wayToLock 49, [some (.inl 7), some (.inr f), some (.inr r), some (.inr (cel (τ 4) (0 + f * 6 + (1 + r)))), some (.inr z), some (.inr 1), some (.inr 0)], [], τ)) rfl ⟨by decide, by decide⟩ (fun _ => ?_) (fun hh => absurd (by decide) hh)
                            refine ex_k 1 (P := none) (g := (cod m1_wayToLock 52, [some (.inl 7), some (.inr f), some (.inr r), some (.inr (cel (τ 4) (0 + f * 6 + (1 + r)))), some (.inr z), some (.inr 1), some (.inr 0)], [.inr z], τ)) rfl trivial ?_
                            exact ex_r rfl trivial rfl (rI (by show ite _ _ _ = z; rw [← ez]; rw [if_pos (by omega)])))
                      · first
                        | (exfalso; omega)
                        | (
                            refine ex_k 4 (P := none) (g := (cod m1_wayToLock 48, [some (.inl 7), some (.inr f), some (.inr r), some (.inr (cel (τ 4) (0 + f * 6 + (1 + r)))), some (.inr z), some (.inr 1), some (.inr 1)], [.inr 1], τ)) rfl trivial ?_
                            refine ex_b (P := ¬ 1 = 0) (ct := (cod m1_wayToLock 51, [some (.inl 7), some (.inr f), some (.inr r), some (.inr (cel (τ 4) (0 + f * 6 + (1 + r)))), some (.inr z), some (.inr 1), some (.inr 1)], [], τ)) (cf := (cod m1_wayToLock 49, [some (.inl 7), some (.inr f), some (.inr r), some (.inr (cel (τ 4) (0 + f * 6 + (1 + r)))), some (.inr z), some (.inr 1), some (.inr 1)], [], τ)) rfl ⟨by decide, by decide⟩ (fun _ => ?_) (fun hh => absurd (by decide) hh)
                            refine ex_k 1 (P := none) (g := (cod m1_wayToLock 52, [some (.inl 7), some (.inr f), some (.inr r), some (.inr (cel (τ 4) (0 + f * 6 + (1 + r)))), some (.inr z), some (.inr 1), some (.inr 1)], [.inr z], τ)) rfl trivial ?_
                            exact ex_r rfl trivial rfl (rI (by show ite _ _ _ = z; rw [← ez]; rw [if_pos (by omega)]))))))
theorem lp_wayToLock_5 {τ : SZ} {f r : Int} {B : Int} (hf : 0 ≤ f ∧ f < 8) (hr : 0 ≤ r ∧ r < 2) (hS : Sh B (τ 5)) : ∀ (j : Nat) (z : Int) (o1 o2 : Option VZ), z + (j : Int) = 12 → 1 ≤ z → Ex 3 m1_wayToLock (cod m1_wayToLock 10, [some (.inl 8), some (.inr f), some (.inr r), some (.inr (cel (τ 5) (0 + f * 6 + (1 + r)))), some (.inr z), o1, o2], [], τ) 0 (.inl (some (.inr (wtl (τ 5) f r j)), τ)) := by
  intro j
  induction j with
  | zero =>
    intro z o1 o2 hz hz1
    have hp := hS.pl hf hr
    have hu1 := hS.us (p := cel (τ 5) (0 + f * 6 + (1 + r)) + z) hr
    have hu2 := hS.us (p := cel (τ 5) (0 + f * 6 + (1 + r)) - z) hr
    refine ex_k 2 (P := none) (g := (cod m1_wayToLock 12, [some (.inl 8), some (.inr f), some (.inr r), some (.inr (cel (τ 5) (0 + f * 6 + (1 + r)))), some (.inr z), o1, o2], [.inr 12, .inr z], τ)) rfl trivial ?_
    refine ex_b (P := 12 ≤ z) (ct := (cod m1_wayToLock 55, [some (.inl 8), some (.inr f), some (.inr r), some (.inr (cel (τ 5) (0 + f * 6 + (1 + r)))), some (.inr z), o1, o2], [], τ)) (cf := (cod m1_wayToLock 13, [some (.inl 8), some (.inr f), some (.inr r), some (.inr (cel (τ 5) (0 + f * 6 + (1 + r)))), some (.inr z), o1, o2], [], τ)) rfl ⟨⟨by omega, by omega⟩, ⟨by decide, by decide⟩⟩ (fun _ => ?_) (fun hh => absurd (by omega) hh)
    refine ex_k 1 (P := none) (g := (cod m1_wayToLock 56, [some (.inl 8), some (.inr f), some (.inr r), some (.inr (cel (τ 5) (0 + f * 6 + (1 + r)))), some (.inr z), o1, o2], [.inr 0], τ)) rfl trivial ?_
    exact ex_r rfl trivial rfl (rfl)
  | succ j ih =>
    intro z o1 o2 hz hz1
    have hp := hS.pl hf hr
    have hu1 := hS.us (p := cel (τ 5) (0 + f * 6 + (1 + r)) + z) hr
    have hu2 := hS.us (p := cel (τ 5) (0 + f * 6 + (1 + r)) - z) hr
    have ez : z = 11 - (j : Int) := by omega
    refine ex_k 2 (P := none) (g := (cod m1_wayToLock 12, [some (.inl 8), some (.inr f), some (.inr r), some (.inr (cel (τ 5) (0 + f * 6 + (1 + r)))), some (.inr z), o1, o2], [.inr 12, .inr z], τ)) rfl trivial ?_
    refine ex_b (P := 12 ≤ z) (ct := (cod m1_wayToLock 55, [some (.inl 8), some (.inr f), some (.inr r), some (.inr (cel (τ 5) (0 + f * 6 + (1 + r)))), some (.inr z), o1, o2], [], τ)) (cf := (cod m1_wayToLock 13, [some (.inl 8), some (.inr f), some (.inr r), some (.inr (cel (τ 5) (0 + f * 6 + (1 + r)))), some (.inr z), o1, o2], [], τ)) rfl ⟨⟨by omega, by omega⟩, ⟨by decide, by decide⟩⟩ (fun hh => absurd hh (by omega)) (fun _ => ?_)
    refine ex_k 3 (P := none) (g := (cod m1_wayToLock 16, [some (.inl 8), some (.inr f), some (.inr r), some (.inr (cel (τ 5) (0 + f * 6 + (1 + r)))), some (.inr z), o1, o2], [.inr 1, .inr f, .inl 8], τ)) rfl trivial ?_
    refine ex_c (s_goesBy (τ := τ) (f := f) (s := 1) (Or.inr ⟨rfl, rfl, rfl⟩) (by omega) (by omega) hS.bd) (is := cod m1_wayToLock 17) (L := [some (.inl 8), some (.inr f), some (.inr r), some (.inr (cel (τ 5) (0 + f * 6 + (1 + r)))), some (.inr z), o1, o2]) (st := []) rfl rfl rfl ?_
    show Ex _ _ (cod m1_wayToLock 17, [some (.inl 8), some (.inr f), some (.inr r), some (.inr (cel (τ 5) (0 + f * 6 + (1 + r)))), some (.inr z), o1, o2], [.inr (b2 ((cel (τ 5) (0 + f * 6 + 0) = 0 ∧ 1 = 1) ∨ (¬ cel (τ 5) (0 + f * 6 + 0) = 0 ∧ 1 = -1) ∨ cel (τ 5) (0 + f * 6 + 3) = 1))], τ) _ _
    refine ex_b (P := (b2 ((cel (τ 5) (0 + f * 6 + 0) = 0 ∧ 1 = 1) ∨ (¬ cel (τ 5) (0 + f * 6 + 0) = 0 ∧ 1 = -1) ∨ cel (τ 5) (0 + f * 6 + 3) = 1)) = 0) (ct := (cod m1_wayToLock 28, [some (.inl 8), some (.inr f), some (.inr r), some (.inr (cel (τ 5) (0 + f * 6 + (1 + r)))), some (.inr z), o1, o2], [], τ)) (cf := (cod m1_wayToLock 18, [some (.inl 8), some (.inr f), some (.inr r), some (.inr (cel (τ 5) (0 + f * 6 + (1 + r)))), some (.inr z), o1, o2], [], τ)) rfl b2_rng (fun h2 => ?_) (fun h2 => ?_)
    · first
      | (exfalso; have h2 := b2_e0 h2; omega)
      | (
          have h2 := b2_e0 h2
          refine ex_k 5 (P := none) (g := (cod m1_wayToLock 33, [some (.inl 8), some (.inr f), some (.inr r), some (.inr (cel (τ 5) (0 + f * 6 + (1 + r)))), some (.inr z), some (.inr 0), o2], [.inr (-1), .inr f, .inl 8], τ)) rfl trivial ?_
          refine ex_c (s_goesBy (τ := τ) (f := f) (s := (-1)) (Or.inr ⟨rfl, rfl, rfl⟩) (by omega) (by omega) hS.bd) (is := cod m1_wayToLock 34) (L := [some (.inl 8), some (.inr f), some (.inr r), some (.inr (cel (τ 5) (0 + f * 6 + (1 + r)))), some (.inr z), some (.inr 0), o2]) (st := []) rfl rfl rfl ?_
          show Ex _ _ (cod m1_wayToLock 34, [some (.inl 8), some (.inr f), some (.inr r), some (.inr (cel (τ 5) (0 + f * 6 + (1 + r)))), some (.inr z), some (.inr 0), o2], [.inr (b2 ((cel (τ 5) (0 + f * 6 + 0) = 0 ∧ (-1) = 1) ∨ (¬ cel (τ 5) (0 + f * 6 + 0) = 0 ∧ (-1) = -1) ∨ cel (τ 5) (0 + f * 6 + 3) = 1))], τ) _ _
          refine ex_b (P := (b2 ((cel (τ 5) (0 + f * 6 + 0) = 0 ∧ (-1) = 1) ∨ (¬ cel (τ 5) (0 + f * 6 + 0) = 0 ∧ (-1) = -1) ∨ cel (τ 5) (0 + f * 6 + 3) = 1)) = 0) (ct := (cod m1_wayToLock 45, [some (.inl 8), some (.inr f), some (.inr r), some (.inr (cel (τ 5) (0 + f * 6 + (1 + r)))), some (.inr z), some (.inr 0), o2], [], τ)) (cf := (cod m1_wayToLock 35, [some (.inl 8), some (.inr f), some (.inr r), some (.inr (cel (τ 5) (0 + f * 6 + (1 + r)))), some (.inr z), some (.inr 0), o2], [], τ)) rfl b2_rng (fun h3 => ?_) (fun h3 => ?_)
          · first
            | (exfalso; have h3 := b2_e0 h3; omega)
            | (
                have h3 := b2_e0 h3
                refine ex_k 3 (P := none) (g := (cod m1_wayToLock 48, [some (.inl 8), some (.inr f), some (.inr r), some (.inr (cel (τ 5) (0 + f * 6 + (1 + r)))), some (.inr z), some (.inr 0), some (.inr 0)], [.inr 0], τ)) rfl trivial ?_
                refine ex_b (P := ¬ 0 = 0) (ct := (cod m1_wayToLock 51, [some (.inl 8), some (.inr f), some (.inr r), some (.inr (cel (τ 5) (0 + f * 6 + (1 + r)))), some (.inr z), some (.inr 0), some (.inr 0)], [], τ)) (cf := (cod m1_wayToLock 49, [some (.inl 8), some (.inr f), some (.inr r), some (.inr (cel (τ 5) (0 + f * 6 + (1 + r)))), some (.inr z), some (.inr 0), some (.inr 0)], [], τ)) rfl ⟨by decide, by decide⟩ (fun hh => absurd hh (by decide)) (fun _ => ?_)
                refine ex_k 1 (P := none) (g := (cod m1_wayToLock 50, [some (.inl 8), some (.inr f), some (.inr r), some (.inr (cel (τ 5) (0 + f * 6 + (1 + r)))), some (.inr z), some (.inr 0), some (.inr 0)], [.inr 0], τ)) rfl trivial ?_
                refine ex_b (P := 0 = 0) (ct := (cod m1_wayToLock 53, [some (.inl 8), some (.inr f), some (.inr r), some (.inr (cel (τ 5) (0 + f * 6 + (1 + r)))), some (.inr z), some (.inr 0), some (.inr 0)], [], τ)) (cf := (cod m1_wayToLock 51, [some (.inl 8), some (.inr f), some (.inr r), some (.inr (cel (τ 5) (0 + f * 6 + (1 + r)))), some (.inr z), some (.inr 0), some (.inr 0)], [], τ)) rfl ⟨by decide, by decide⟩ (fun _ => ?_) (fun hh => absurd (by decide) hh)
                refine ex_k 2 (P := none) (g := (cod m1_wayToLock 10, [some (.inl 8), some (.inr f), some (.inr r), some (.inr (cel (τ 5) (0 + f * 6 + (1 + r)))), some (.inr (z + 1)), some (.inr 0), some (.inr 0)], [], τ)) rfl trivial ?_
                have e : wtl (τ 5) f r (j + 1) = wtl (τ 5) f r j := if_neg (by rw [← ez]; omega)
                rw [e]
                exact ih (z + 1) _ _ (by omega) (by omega))
          · first
            | (exfalso; have h3 := b2_n0 h3; omega)
            | (
                have h3 := b2_n0 h3
                refine ex_k 6 (P := none) (g := (cod m1_wayToLock 41, [some (.inl 8), some (.inr f), some (.inr r), some (.inr (cel (τ 5) (0 + f * 6 + (1 + r)))), some (.inr z), some (.inr 0), o2], [.inr ((cel (τ 5) (0 + f * 6 + (1 + r))) - z), .inr r, .inl 2], τ)) rfl trivial ?_
                refine ex_c (s_usesAt (τ := τ) (r := r) (p := (cel (τ 5) (0 + f * 6 + (1 + r))) - z) (Or.inr (Or.inl ⟨rfl, rfl⟩)) (by omega) ⟨by omega, by omega⟩) (is := cod m1_wayToLock 42) (L := [some (.inl 8), some (.inr f), some (.inr r), some (.inr (cel (τ 5) (0 + f * 6 + (1 + r)))), some (.inr z), some (.inr 0), o2]) (st := []) rfl rfl rfl ?_
                show Ex _ _ (cod m1_wayToLock 42, [some (.inl 8), some (.inr f), some (.inr r), some (.inr (cel (τ 5) (0 + f * 6 + (1 + r)))), some (.inr z), some (.inr 0), o2], [.inr (usz (τ 5) r ((cel (τ 5) (0 + f * 6 + (1 + r))) - z))], τ) _ _
                refine ex_b (P := (usz (τ 5) r ((cel (τ 5) (0 + f * 6 + (1 + r))) - z)) ≤ 0) (ct := (cod m1_wayToLock 45, [some (.inl 8), some (.inr f), some (.inr r), some (.inr (cel (τ 5) (0 + f * 6 + (1 + r)))), some (.inr z), some (.inr 0), o2], [], τ)) (cf := (cod m1_wayToLock 43, [some (.inl 8), some (.inr f), some (.inr r), some (.inr (cel (τ 5) (0 + f * 6 + (1 + r)))), some (.inr z), some (.inr 0), o2], [], τ)) rfl ⟨by omega, by omega⟩ (fun h6 => ?_) (fun h6 => ?_)
                · first
                  | (exfalso; omega)
                  | (
                      refine ex_k 3 (P := none) (g := (cod m1_wayToLock 48, [some (.inl 8), some (.inr f), some (.inr r), some (.inr (cel (τ 5) (0 + f * 6 + (1 + r)))), some (.inr z), some (.inr 0), some (.inr 0)], [.inr 0], τ)) rfl trivial ?_
                      refine ex_b (P := ¬ 0 = 0) (ct := (cod m1_wayToLock 51, [some (.inl 8), some (.inr f), some (.inr r), some (.inr (cel (τ 5) (0 + f * 6 + (1 + r)))), some (.inr z), some (.inr 0), some (.inr 0)], [], τ)) (cf := (cod m1_wayToLock 49, [some (.inl 8), some (.inr f), some (.inr r), some (.inr (cel (τ 5) (0 + f * 6 + (1 + r)))), some (.inr z), some (.inr 0), some (.inr 0)], [], τ)) rfl ⟨by decide, by decide⟩ (fun hh => absurd hh (by decide)) (fun _ => ?_)
                      refine ex_k 1 (P := none) (g := (cod m1_wayToLock 50, [some (.inl 8), some (.inr f), some (.inr r), some (.inr (cel (τ 5) (0 + f * 6 + (1 + r)))), some (.inr z), some (.inr 0), some (.inr 0)], [.inr 0], τ)) rfl trivial ?_
                      refine ex_b (P := 0 = 0) (ct := (cod m1_wayToLock 53, [some (.inl 8), some (.inr f), some (.inr r), some (.inr (cel (τ 5) (0 + f * 6 + (1 + r)))), some (.inr z), some (.inr 0), some (.inr 0)], [], τ)) (cf := (cod m1_wayToLock 51, [some (.inl 8), some (.inr f), some (.inr r), some (.inr (cel (τ 5) (0 + f * 6 + (1 + r)))), some (.inr z), some (.inr 0), some (.inr 0)], [], τ)) rfl ⟨by decide, by decide⟩ (fun _ => ?_) (fun hh => absurd (by decide) hh)
                      refine ex_k 2 (P := none) (g := (cod m1_wayToLock 10, [some (.inl 8), some (.inr f), some (.inr r), some (.inr (cel (τ 5) (0 + f * 6 + (1 + r)))), some (.inr (z + 1)), some (.inr 0), some (.inr 0)], [], τ)) rfl trivial ?_
                      have e : wtl (τ 5) f r (j + 1) = wtl (τ 5) f r j := if_neg (by rw [← ez]; omega)
                      rw [e]
                      exact ih (z + 1) _ _ (by omega) (by omega))
                · first
                  | (exfalso; omega)
                  | (
                      refine ex_k 4 (P := none) (g := (cod m1_wayToLock 48, [some (.inl 8), some (.inr f), some (.inr r), some (.inr (cel (τ 5) (0 + f * 6 + (1 + r)))), some (.inr z), some (.inr 0), some (.inr 1)], [.inr 0], τ)) rfl trivial ?_
                      refine ex_b (P := ¬ 0 = 0) (ct := (cod m1_wayToLock 51, [some (.inl 8), some (.inr f), some (.inr r), some (.inr (cel (τ 5) (0 + f * 6 + (1 + r)))), some (.inr z), some (.inr 0), some (.inr 1)], [], τ)) (cf := (cod m1_wayToLock 49, [some (.inl 8), some (.inr f), some (.inr r), some (.inr (cel (τ 5) (0 + f * 6 + (1 + r)))), some (.inr z), some (.inr 0), some (.inr 1)], [], τ)) rfl ⟨by decide, by decide⟩ (fun hh => absurd hh (by decide)) (fun _ => ?_)
                      refine ex_k 1 (P := none) (g := (cod m1_wayToLock 50, [some (.inl 8), some (.inr f), some (.inr r), some (.inr (cel (τ 5) (0 + f * 6 + (1 + r)))), some (.inr z), some (.inr 0), some (.inr 1)], [.inr 1], τ)) rfl trivial ?_
                      refine ex_b (P := 1 = 0) (ct := (cod m1_wayToLock 53, [some (.inl 8), some (.inr f), some (.inr r), some (.inr (cel (τ 5) (0 + f * 6 + (1 + r)))), some (.inr z), some (.inr 0), some (.inr 1)], [], τ)) (cf := (cod m1_wayToLock 51, [some (.inl 8), some (.inr f), some (.inr r), some (.inr (cel (τ 5) (0 + f * 6 + (1 + r)))), some (.inr z), some (.inr 0), some (.inr 1)], [], τ)) rfl ⟨by decide, by decide⟩ (fun hh => absurd hh (by decide)) (fun _ => ?_)
                      refine ex_k 1 (P := none) (g := (cod m1_wayToLock 52, [some (.inl 8), some (.inr f), some (.inr r), some (.inr (cel (τ 5) (0 + f * 6 + (1 + r)))), some (.inr z), some (.inr 0), some (.inr 1)], [.inr z], τ)) rfl trivial ?_
                      exact ex_r rfl trivial rfl (rI (by show ite _ _ _ = z; rw [← ez]; rw [if_pos (by omega)])))))
    · first
      | (exfalso; have h2 := b2_n0 h2; omega)
      | (
          have h2 := b2_n0 h2
          refine ex_k 6 (P := none) (g := (cod m1_wayToLock 24, [some (.inl 8), some (.inr f), some (.inr r), some (.inr (cel (τ 5) (0 + f * 6 + (1 + r)))), some (.inr z), o1, o2], [.inr ((cel (τ 5) (0 + f * 6 + (1 + r))) + z), .inr r, .inl 2], τ)) rfl trivial ?_
          refine ex_c (s_usesAt (τ := τ) (r := r) (p := (cel (τ 5) (0 + f * 6 + (1 + r))) + z) (Or.inr (Or.inl ⟨rfl, rfl⟩)) (by omega) ⟨by omega, by omega⟩) (is := cod m1_wayToLock 25) (L := [some (.inl 8), some (.inr f), some (.inr r), some (.inr (cel (τ 5) (0 + f * 6 + (1 + r)))), some (.inr z), o1, o2]) (st := []) rfl rfl rfl ?_
          show Ex _ _ (cod m1_wayToLock 25, [some (.inl 8), some (.inr f), some (.inr r), some (.inr (cel (τ 5) (0 + f * 6 + (1 + r)))), some (.inr z), o1, o2], [.inr (usz (τ 5) r ((cel (τ 5) (0 + f * 6 + (1 + r))) + z))], τ) _ _
          refine ex_b (P := (usz (τ 5) r ((cel (τ 5) (0 + f * 6 + (1 + r))) + z)) ≤ 0) (ct := (cod m1_wayToLock 28, [some (.inl 8), some (.inr f), some (.inr r), some (.inr (cel (τ 5) (0 + f * 6 + (1 + r)))), some (.inr z), o1, o2], [], τ)) (cf := (cod m1_wayToLock 26, [some (.inl 8), some (.inr f), some (.inr r), some (.inr (cel (τ 5) (0 + f * 6 + (1 + r)))), some (.inr z), o1, o2], [], τ)) rfl ⟨by omega, by omega⟩ (fun h11 => ?_) (fun h11 => ?_)
          · first
            | (exfalso; omega)
            | (
                refine ex_k 5 (P := none) (g := (cod m1_wayToLock 33, [some (.inl 8), some (.inr f), some (.inr r), some (.inr (cel (τ 5) (0 + f * 6 + (1 + r)))), some (.inr z), some (.inr 0), o2], [.inr (-1), .inr f, .inl 8], τ)) rfl trivial ?_
                refine ex_c (s_goesBy (τ := τ) (f := f) (s := (-1)) (Or.inr ⟨rfl, rfl, rfl⟩) (by omega) (by omega) hS.bd) (is := cod m1_wayToLock 34) (L := [some (.inl 8), some (.inr f), some (.inr r), some (.inr (cel (τ 5) (0 + f * 6 + (1 + r)))), some (.inr z), some (.inr 0), o2]) (st := []) rfl rfl rfl ?_
                show Ex _ _ (cod m1_wayToLock 34, [some (.inl 8), some (.inr f), some (.inr r), some (.inr (cel (τ 5) (0 + f * 6 + (1 + r)))), some (.inr z), some (.inr 0), o2], [.inr (b2 ((cel (τ 5) (0 + f * 6 + 0) = 0 ∧ (-1) = 1) ∨ (¬ cel (τ 5) (0 + f * 6 + 0) = 0 ∧ (-1) = -1) ∨ cel (τ 5) (0 + f * 6 + 3) = 1))], τ) _ _
                refine ex_b (P := (b2 ((cel (τ 5) (0 + f * 6 + 0) = 0 ∧ (-1) = 1) ∨ (¬ cel (τ 5) (0 + f * 6 + 0) = 0 ∧ (-1) = -1) ∨ cel (τ 5) (0 + f * 6 + 3) = 1)) = 0) (ct := (cod m1_wayToLock 45, [some (.inl 8), some (.inr f), some (.inr r), some (.inr (cel (τ 5) (0 + f * 6 + (1 + r)))), some (.inr z), some (.inr 0), o2], [], τ)) (cf := (cod m1_wayToLock 35, [some (.inl 8), some (.inr f), some (.inr r), some (.inr (cel (τ 5) (0 + f * 6 + (1 + r)))), some (.inr z), some (.inr 0), o2], [], τ)) rfl b2_rng (fun h12 => ?_) (fun h12 => ?_)
                · first
                  | (exfalso; have h12 := b2_e0 h12; omega)
                  | (
                      have h12 := b2_e0 h12
                      refine ex_k 3 (P := none) (g := (cod m1_wayToLock 48, [some (.inl 8), some (.inr f), some (.inr r), some (.inr (cel (τ 5) (0 + f * 6 + (1 + r)))), some (.inr z), some (.inr 0), some (.inr 0)], [.inr 0], τ)) rfl trivial ?_
                      refine ex_b (P := ¬ 0 = 0) (ct := (cod m1_wayToLock 51, [some (.inl 8), some (.inr f), some (.inr r), some (.inr (cel (τ 5) (0 + f * 6 + (1 + r)))), some (.inr z), some (.inr 0), some (.inr 0)], [], τ)) (cf := (cod m1_wayToLock 49, [some (.inl 8), some (.inr f), some (.inr r), some (.inr (cel (τ 5) (0 + f * 6 + (1 + r)))), some (.inr z), some (.inr 0), some (.inr 0)], [], τ)) rfl ⟨by decide, by decide⟩ (fun hh => absurd hh (by decide)) (fun _ => ?_)
                      refine ex_k 1 (P := none) (g := (cod m1_wayToLock 50, [some (.inl 8), some (.inr f), some (.inr r), some (.inr (cel (τ 5) (0 + f * 6 + (1 + r)))), some (.inr z), some (.inr 0), some (.inr 0)], [.inr 0], τ)) rfl trivial ?_
                      refine ex_b (P := 0 = 0) (ct := (cod m1_wayToLock 53, [some (.inl 8), some (.inr f), some (.inr r), some (.inr (cel (τ 5) (0 + f * 6 + (1 + r)))), some (.inr z), some (.inr 0), some (.inr 0)], [], τ)) (cf := (cod m1_wayToLock 51, [some (.inl 8), some (.inr f), some (.inr r), some (.inr (cel (τ 5) (0 + f * 6 + (1 + r)))), some (.inr z), some (.inr 0), some (.inr 0)], [], τ)) rfl ⟨by decide, by decide⟩ (fun _ => ?_) (fun hh => absurd (by decide) hh)
                      refine ex_k 2 (P := none) (g := (cod m1_wayToLock 10, [some (.inl 8), some (.inr f), some (.inr r), some (.inr (cel (τ 5) (0 + f * 6 + (1 + r)))), some (.inr (z + 1)), some (.inr 0), some (.inr 0)], [], τ)) rfl trivial ?_
                      have e : wtl (τ 5) f r (j + 1) = wtl (τ 5) f r j := if_neg (by rw [← ez]; omega)
                      rw [e]
                      exact ih (z + 1) _ _ (by omega) (by omega))
                · first
                  | (exfalso; have h12 := b2_n0 h12; omega)
                  | (
                      have h12 := b2_n0 h12
                      refine ex_k 6 (P := none) (g := (cod m1_wayToLock 41, [some (.inl 8), some (.inr f), some (.inr r), some (.inr (cel (τ 5) (0 + f * 6 + (1 + r)))), some (.inr z), some (.inr 0), o2], [.inr ((cel (τ 5) (0 + f * 6 + (1 + r))) - z), .inr r, .inl 2], τ)) rfl trivial ?_
                      refine ex_c (s_usesAt (τ := τ) (r := r) (p := (cel (τ 5) (0 + f * 6 + (1 + r))) - z) (Or.inr (Or.inl ⟨rfl, rfl⟩)) (by omega) ⟨by omega, by omega⟩) (is := cod m1_wayToLock 42) (L := [some (.inl 8), some (.inr f), some (.inr r), some (.inr (cel (τ 5) (0 + f * 6 + (1 + r)))), some (.inr z), some (.inr 0), o2]) (st := []) rfl rfl rfl ?_
                      show Ex _ _ (cod m1_wayToLock 42, [some (.inl 8), some (.inr f), some (.inr r), some (.inr (cel (τ 5) (0 + f * 6 + (1 + r)))), some (.inr z), some (.inr 0), o2], [.inr (usz (τ 5) r ((cel (τ 5) (0 + f * 6 + (1 + r))) - z))], τ) _ _
                      refine ex_b (P := (usz (τ 5) r ((cel (τ 5) (0 + f * 6 + (1 + r))) - z)) ≤ 0) (ct := (cod m1_wayToLock 45, [some (.inl 8), some (.inr f), some (.inr r), some (.inr (cel (τ 5) (0 + f * 6 + (1 + r)))), some (.inr z), some (.inr 0), o2], [], τ)) (cf := (cod m1_wayToLock 43, [some (.inl 8), some (.inr f), some (.inr r), some (.inr (cel (τ 5) (0 + f * 6 + (1 + r)))), some (.inr z), some (.inr 0), o2], [], τ)) rfl ⟨by omega, by omega⟩ (fun h15 => ?_) (fun h15 => ?_)
                      · first
                        | (exfalso; omega)
                        | (
                            refine ex_k 3 (P := none) (g := (cod m1_wayToLock 48, [some (.inl 8), some (.inr f), some (.inr r), some (.inr (cel (τ 5) (0 + f * 6 + (1 + r)))), some (.inr z), some (.inr 0), some (.inr 0)], [.inr 0], τ)) rfl trivial ?_
                            refine ex_b (P := ¬ 0 = 0) (ct := (cod m1_wayToLock 51, [some (.inl 8), some (.inr f), some (.inr r), some (.inr (cel (τ 5) (0 + f * 6 + (1 + r)))), some (.inr z), some (.inr 0), some (.inr 0)], [], τ)) (cf := (cod m1_wayToLock 49, [some (.inl 8), some (.inr f), some (.inr r), some (.inr (cel (τ 5) (0 + f * 6 + (1 + r)))), some (.inr z), some (.inr 0), some (.inr 0)], [], τ)) rfl ⟨by decide, by decide⟩ (fun hh => absurd hh (by decide)) (fun _ => ?_)
                            refine ex_k 1 (P := none) (g := (cod m1_wayToLock 50, [some (.inl 8), some (.inr f), some (.inr r), some (.inr (cel (τ 5) (0 + f * 6 + (1 + r)))), some (.inr z), some (.inr 0), some (.inr 0)], [.inr 0], τ)) rfl trivial ?_
                            refine ex_b (P := 0 = 0) (ct := (cod m1_wayToLock 53, [some (.inl 8), some (.inr f), some (.inr r), some (.inr (cel (τ 5) (0 + f * 6 + (1 + r)))), some (.inr z), some (.inr 0), some (.inr 0)], [], τ)) (cf := (cod m1_wayToLock 51, [some (.inl 8), some (.inr f), some (.inr r), some (.inr (cel (τ 5) (0 + f * 6 + (1 + r)))), some (.inr z), some (.inr 0), some (.inr 0)], [], τ)) rfl ⟨by decide, by decide⟩ (fun _ => ?_) (fun hh => absurd (by decide) hh)
                            refine ex_k 2 (P := none) (g := (cod m1_wayToLock 10, [some (.inl 8), some (.inr f), some (.inr r), some (.inr (cel (τ 5) (0 + f * 6 + (1 + r)))), some (.inr (z + 1)), some (.inr 0), some (.inr 0)], [], τ)) rfl trivial ?_
                            have e : wtl (τ 5) f r (j + 1) = wtl (τ 5) f r j := if_neg (by rw [← ez]; omega)
                            rw [e]
                            exact ih (z + 1) _ _ (by omega) (by omega))
                      · first
                        | (exfalso; omega)
                        | (
                            refine ex_k 4 (P := none) (g := (cod m1_wayToLock 48, [some (.inl 8), some (.inr f), some (.inr r), some (.inr (cel (τ 5) (0 + f * 6 + (1 + r)))), some (.inr z), some (.inr 0), some (.inr 1)], [.inr 0], τ)) rfl trivial ?_
                            refine ex_b (P := ¬ 0 = 0) (ct := (cod m1_wayToLock 51, [some (.inl 8), some (.inr f), some (.inr r), some (.inr (cel (τ 5) (0 + f * 6 + (1 + r)))), some (.inr z), some (.inr 0), some (.inr 1)], [], τ)) (cf := (cod m1_wayToLock 49, [some (.inl 8), some (.inr f), some (.inr r), some (.inr (cel (τ 5) (0 + f * 6 + (1 + r)))), some (.inr z), some (.inr 0), some (.inr 1)], [], τ)) rfl ⟨by decide, by decide⟩ (fun hh => absurd hh (by decide)) (fun _ => ?_)
                            refine ex_k 1 (P := none) (g := (cod m1_wayToLock 50, [some (.inl 8), some (.inr f), some (.inr r), some (.inr (cel (τ 5) (0 + f * 6 + (1 + r)))), some (.inr z), some (.inr 0), some (.inr 1)], [.inr 1], τ)) rfl trivial ?_
                            refine ex_b (P := 1 = 0) (ct := (cod m1_wayToLock 53, [some (.inl 8), some (.inr f), some (.inr r), some (.inr (cel (τ 5) (0 + f * 6 + (1 + r)))), some (.inr z), some (.inr 0), some (.inr 1)], [], τ)) (cf := (cod m1_wayToLock 51, [some (.inl 8), some (.inr f), some (.inr r), some (.inr (cel (τ 5) (0 + f * 6 + (1 + r)))), some (.inr z), some (.inr 0), some (.inr 1)], [], τ)) rfl ⟨by decide, by decide⟩ (fun hh => absurd hh (by decide)) (fun _ => ?_)
                            refine ex_k 1 (P := none) (g := (cod m1_wayToLock 52, [some (.inl 8), some (.inr f), some (.inr r), some (.inr (cel (τ 5) (0 + f * 6 + (1 + r)))), some (.inr z), some (.inr 0), some (.inr 1)], [.inr z], τ)) rfl trivial ?_
                            exact ex_r rfl trivial rfl (rI (by show ite _ _ _ = z; rw [← ez]; rw [if_pos (by omega)])))))
          · first
            | (exfalso; omega)
            | (
                refine ex_k 6 (P := none) (g := (cod m1_wayToLock 33, [some (.inl 8), some (.inr f), some (.inr r), some (.inr (cel (τ 5) (0 + f * 6 + (1 + r)))), some (.inr z), some (.inr 1), o2], [.inr (-1), .inr f, .inl 8], τ)) rfl trivial ?_
                refine ex_c (s_goesBy (τ := τ) (f := f) (s := (-1)) (Or.inr ⟨rfl, rfl, rfl⟩) (by omega) (by omega) hS.bd) (is := cod m1_wayToLock 34) (L := [some (.inl 8), some (.inr f), some (.inr r), some (.inr (cel (τ 5) (0 + f * 6 + (1 + r)))), some (.inr z), some (.inr 1), o2]) (st := []) rfl rfl rfl ?_
                show Ex _ _ (cod m1_wayToLock 34, [some (.inl 8), some (.inr f), some (.inr r), some (.inr (cel (τ 5) (0 + f * 6 + (1 + r)))), some (.inr z), some (.inr 1), o2], [.inr (b2 ((cel (τ 5) (0 + f * 6 + 0) = 0 ∧ (-1) = 1) ∨ (¬ cel (τ 5) (0 + f * 6 + 0) = 0 ∧ (-1) = -1) ∨ cel (τ 5) (0 + f * 6 + 3) = 1))], τ) _ _
                refine ex_b (P := (b2 ((cel (τ 5) (0 + f * 6 + 0) = 0 ∧ (-1) = 1) ∨ (¬ cel (τ 5) (0 + f * 6 + 0) = 0 ∧ (-1) = -1) ∨ cel (τ 5) (0 + f * 6 + 3) = 1)) = 0) (ct := (cod m1_wayToLock 45, [some (.inl 8), some (.inr f), some (.inr r), some (.inr (cel (τ 5) (0 + f * 6 + (1 + r)))), some (.inr z), some (.inr 1), o2], [], τ)) (cf := (cod m1_wayToLock 35, [some (.inl 8), some (.inr f), some (.inr r), some (.inr (cel (τ 5) (0 + f * 6 + (1 + r)))), some (.inr z), some (.inr 1), o2], [], τ)) rfl b2_rng (fun h20 => ?_) (fun h20 => ?_)
                · first
                  | (exfalso; have h20 := b2_e0 h20; omega)
                  | (
                      have h20 := b2_e0 h20
                      refine ex_k 3 (P := none) (g := (cod m1_wayToLock 48, [some (.inl 8), some (.inr f), some (.inr r), some (.inr (cel (τ 5) (0 + f * 6 + (1 + r)))), some (.inr z), some (.inr 1), some (.inr 0)], [.inr 1], τ)) rfl trivial ?_
                      refine ex_b (P := ¬ 1 = 0) (ct := (cod m1_wayToLock 51, [some (.inl 8), some (.inr f), some (.inr r), some (.inr (cel (τ 5) (0 + f * 6 + (1 + r)))), some (.inr z), some (.inr 1), some (.inr 0)], [], τ)) (cf := (cod m1_wayToLock 49, [some (.inl 8), some (.inr f), some (.inr r), some (.inr (cel (τ 5) (0 + f * 6 + (1 + r)))), some (.inr z), some (.inr 1), some (.inr 0)], [], τ)) rfl ⟨by decide, by decide⟩ (fun _ => ?_) (fun hh => absurd (by decide) hh)
                      refine ex_k 1 (P := none) (g := (cod m1_wayToLock 52, [some (.inl 8), some (.inr f), some (.inr r), some (.inr (cel (τ 5) (0 + f * 6 + (1 + r)))), some (.inr z), some (.inr 1), some (.inr 0)], [.inr z], τ)) rfl trivial ?_
                      exact ex_r rfl trivial rfl (rI (by show ite _ _ _ = z; rw [← ez]; rw [if_pos (by omega)])))
                · first
                  | (exfalso; have h20 := b2_n0 h20; omega)
                  | (
                      have h20 := b2_n0 h20
                      refine ex_k 6 (P := none) (g := (cod m1_wayToLock 41, [some (.inl 8), some (.inr f), some (.inr r), some (.inr (cel (τ 5) (0 + f * 6 + (1 + r)))), some (.inr z), some (.inr 1), o2], [.inr ((cel (τ 5) (0 + f * 6 + (1 + r))) - z), .inr r, .inl 2], τ)) rfl trivial ?_
                      refine ex_c (s_usesAt (τ := τ) (r := r) (p := (cel (τ 5) (0 + f * 6 + (1 + r))) - z) (Or.inr (Or.inl ⟨rfl, rfl⟩)) (by omega) ⟨by omega, by omega⟩) (is := cod m1_wayToLock 42) (L := [some (.inl 8), some (.inr f), some (.inr r), some (.inr (cel (τ 5) (0 + f * 6 + (1 + r)))), some (.inr z), some (.inr 1), o2]) (st := []) rfl rfl rfl ?_
                      show Ex _ _ (cod m1_wayToLock 42, [some (.inl 8), some (.inr f), some (.inr r), some (.inr (cel (τ 5) (0 + f * 6 + (1 + r)))), some (.inr z), some (.inr 1), o2], [.inr (usz (τ 5) r ((cel (τ 5) (0 + f * 6 + (1 + r))) - z))], τ) _ _
                      refine ex_b (P := (usz (τ 5) r ((cel (τ 5) (0 + f * 6 + (1 + r))) - z)) ≤ 0) (ct := (cod m1_wayToLock 45, [some (.inl 8), some (.inr f), some (.inr r), some (.inr (cel (τ 5) (0 + f * 6 + (1 + r)))), some (.inr z), some (.inr 1), o2], [], τ)) (cf := (cod m1_wayToLock 43, [some (.inl 8), some (.inr f), some (.inr r), some (.inr (cel (τ 5) (0 + f * 6 + (1 + r)))), some (.inr z), some (.inr 1), o2], [], τ)) rfl ⟨by omega, by omega⟩ (fun h22 => ?_) (fun h22 => ?_)
                      · first
                        | (exfalso; omega)
                        | (
                            refine ex_k 3 (P := none) (g := (cod m1_wayToLock 48, [some (.inl 8), some (.inr f), some (.inr r), some (.inr (cel (τ 5) (0 + f * 6 + (1 + r)))), some (.inr z), some (.inr 1), some (.inr 0)], [.inr 1], τ)) rfl trivial ?_
                            refine ex_b (P := ¬ 1 = 0) (ct := (cod m1_wayToLock 51, [some (.inl 8), some (.inr f), some (.inr r), some (.inr (cel (τ 5) (0 + f * 6 + (1 + r)))), some (.inr z), some (.inr 1), some (.inr 0)], [], τ)) (cf := (cod m1_wayToLock 49, [some (.inl 8), some (.inr f), some (.inr r), some (.inr (cel (τ 5) (0 + f * 6 + (1 + r)))), some (.inr z), some (.inr 1), some (.inr 0)], [], τ)) rfl ⟨by decide, by decide⟩ (fun _ => ?_) (fun hh => absurd (by decide) hh)
                            refine ex_k 1 (P := none) (g := (cod m1_wayToLock 52, [some (.inl 8), some (.inr f), some (.inr r), some (.inr (cel (τ 5) (0 + f * 6 + (1 + r)))), some (.inr z), some (.inr 1), some (.inr 0)], [.inr z], τ)) rfl trivial ?_
                            exact ex_r rfl trivial rfl (rI (by show ite _ _ _ = z; rw [← ez]; rw [if_pos (by omega)])))
                      · first
                        | (exfalso; omega)
                        | (
                            refine ex_k 4 (P := none) (g := (cod m1_wayToLock 48, [some (.inl 8), some (.inr f), some (.inr r), some (.inr (cel (τ 5) (0 + f * 6 + (1 + r)))), some (.inr z), some (.inr 1), some (.inr 1)], [.inr 1], τ)) rfl trivial ?_
                            refine ex_b (P := ¬ 1 = 0) (ct := (cod m1_wayToLock 51, [some (.inl 8), some (.inr f), some (.inr r), some (.inr (cel (τ 5) (0 + f * 6 + (1 + r)))), some (.inr z), some (.inr 1), some (.inr 1)], [], τ)) (cf := (cod m1_wayToLock 49, [some (.inl 8), some (.inr f), some (.inr r), some (.inr (cel (τ 5) (0 + f * 6 + (1 + r)))), some (.inr z), some (.inr 1), some (.inr 1)], [], τ)) rfl ⟨by decide, by decide⟩ (fun _ => ?_) (fun hh => absurd (by decide) hh)
                            refine ex_k 1 (P := none) (g := (cod m1_wayToLock 52, [some (.inl 8), some (.inr f), some (.inr r), some (.inr (cel (τ 5) (0 + f * 6 + (1 + r)))), some (.inr z), some (.inr 1), some (.inr 1)], [.inr z], τ)) rfl trivial ?_
                            exact ex_r rfl trivial rfl (rI (by show ite _ _ _ = z; rw [← ez]; rw [if_pos (by omega)]))))))
theorem s_wayToLock {γ ρ a : Nat} {f r : Int} {τ : SZ} (hγ : GA γ ρ a) (hf : 0 ≤ f ∧ f < 8) (hr : 0 ≤ r ∧ r < 2) {B : Int} (hS : Sh B (τ a)) : RZ 4 m1_wayToLock [.inl γ, .inr f, .inr r] τ (.inl (some (.inr (wtl (τ a) f r 11)), τ)) := by
  rcases hγ with ⟨rfl, rfl, rfl⟩ | ⟨rfl, rfl, rfl⟩
  · refine Ex.call ?_ rfl rfl
    show Ex _ _ (cod m1_wayToLock 0, [some (.inl 7), some (.inr f), some (.inr r), none, none, none, none], [], τ) _ _
    refine ex_k 6 (P := none) (g := (cod m1_wayToLock 6, [some (.inl 7), some (.inr f), some (.inr r), none, none, none, none], [.inr (1 + r), .inr f, .inl 1], τ)) rfl trivial ?_
    refine ex_c (s_number (τ := τ) (f := f) (w := 1 + r) (Or.inl ⟨rfl, rfl⟩) (by omega) (by omega)) (is := cod m1_wayToLock 7) (L := [some (.inl 7), some (.inr f), some (.inr r), none, none, none, none]) (st := []) rfl rfl rfl ?_
    show Ex _ _ (cod m1_wayToLock 7, [some (.inl 7), some (.inr f), some (.inr r), none, none, none, none], [.inr (cel (τ 4) (0 + f * 6 + (1 + r)))], τ) _ _
    refine ex_k 3 (P := none) (g := (cod m1_wayToLock 10, [some (.inl 7), some (.inr f), some (.inr r), some (.inr (cel (τ 4) (0 + f * 6 + (1 + r)))), some (.inr 1), none, none], [], τ)) rfl trivial ?_
    exact lp_wayToLock_4 hf hr hS 11 1 none none (by omega) (by omega)
  · refine Ex.call ?_ rfl rfl
    show Ex _ _ (cod m1_wayToLock 0, [some (.inl 8), some (.inr f), some (.inr r), none, none, none, none], [], τ) _ _
    refine ex_k 6 (P := none) (g := (cod m1_wayToLock 6, [some (.inl 8), some (.inr f), some (.inr r), none, none, none, none], [.inr (1 + r), .inr f, .inl 2], τ)) rfl trivial ?_
    refine ex_c (s_number (τ := τ) (f := f) (w := 1 + r) (Or.inr (Or.inl ⟨rfl, rfl⟩)) (by omega) (by omega)) (is := cod m1_wayToLock 7) (L := [some (.inl 8), some (.inr f), some (.inr r), none, none, none, none]) (st := []) rfl rfl rfl ?_
    show Ex _ _ (cod m1_wayToLock 7, [some (.inl 8), some (.inr f), some (.inr r), none, none, none, none], [.inr (cel (τ 5) (0 + f * 6 + (1 + r)))], τ) _ _
    refine ex_k 3 (P := none) (g := (cod m1_wayToLock 10, [some (.inl 8), some (.inr f), some (.inr r), some (.inr (cel (τ 5) (0 + f * 6 + (1 + r)))), some (.inr 1), none, none], [], τ)) rfl trivial ?_
    exact lp_wayToLock_5 hf hr hS 11 1 none none (by omega) (by omega)
abbrev bdn (c : Nat → Int) (f : Int) : Int := 2 * cel c (0 + f * 6 + 4) + cel c (0 + f * 6 + 3)
/-- how many are ahead of one *-/
abbrev ahd (key : Nat → Int) (f : Nat) (N : Nat) : Int := sm (fun k => b2 (0 < key k - key f ∨ (key k - key f = 0 ∧ (k : Int) < (f : Int)))) N
theorem wcm_in {B : Int} {c : Nat → Int} (h : Sh B c) {f : Int} (hf : 0 ≤ f ∧ f < 8) : 0 ≤ wcm c f ∧ wcm c f ≤ 22 := by
  have h1 := h.p1 hf
  have h2 := h.p2 hf
  unfold wcm
  split <;> omega
theorem lp_bolderThan_4 {τ : SZ} {N : Nat} {f : Nat} {B : Int} (hf : f < 8) (hS : Sh B (τ 4)) (hn : cel (τ 4) 107 = (N : Int)) : ∀ (j k : Nat), k + j = N → ∀ (z v : Int) (o1 : Option VZ), z = (k : Int) → v = sm (fun k => b2 (0 < (2 * cel (τ 4) (0 + (k : Int) * 6 + 4) + cel (τ 4) (0 + (k : Int) * 6 + 3)) - (2 * cel (τ 4) (0 + (f : Int) * 6 + 4) + cel (τ 4) (0 + (f : Int) * 6 + 3)) ∨ ((2 * cel (τ 4) (0 + (k : Int) * 6 + 4) + cel (τ 4) (0 + (k : Int) * 6 + 3)) - (2 * cel (τ 4) (0 + (f : Int) * 6 + 4) + cel (τ 4) (0 + (f : Int) * 6 + 3)) = 0 ∧ (k : Int) < (f : Int)))) k → Ex 4 m1_bolderThan (cod m1_bolderThan 4, [some (.inl 7), some (.inr (f : Int)), some (.inr v), some (.inr z), o1], [], τ) 0 (.inl (some (.inr (ahd (fun k => bdn (τ 4) (k : Int)) f N)), τ)) := by
  intro j
  induction j with
  | zero =>
    intro k hk z v o1 hz hv
    have hN := hS.n
    have q1 : 0 ≤ z → z < 8 → 0 ≤ cel (τ 4) (0 + z * 6 + 4) ∧ cel (τ 4) (0 + z * 6 + 4) ≤ B := fun q1 q2 => hS.ju ⟨q1, q2⟩
    have q2 : 0 ≤ z → z < 8 → 0 ≤ cel (τ 4) (0 + z * 6 + 3) ∧ cel (τ 4) (0 + z * 6 + 3) ≤ 1 := fun q1 q2 => hS.kg ⟨q1, q2⟩
    have q3 := hS.ju (f := (f : Int)) (by omega)
    have q4 := hS.kg (f := (f : Int)) (by omega)
    have q5 := hS.B
    refine ex_k 4 (P := none) (g := (cod m1_bolderThan 8, [some (.inl 7), some (.inr (f : Int)), some (.inr v), some (.inr z), o1], [.inr 7, .inl 1, .inr z], τ)) rfl trivial ?_
    refine ex_c (s_total (τ := τ) (w := 7) (Or.inl ⟨rfl, rfl⟩) (by omega)) (is := cod m1_bolderThan 9) (L := [some (.inl 7), some (.inr (f : Int)), some (.inr v), some (.inr z), o1]) (st := [.inr z]) rfl rfl rfl ?_
    show Ex _ _ (cod m1_bolderThan 9, [some (.inl 7), some (.inr (f : Int)), some (.inr v), some (.inr z), o1], [.inr (cel (τ 4) 107), .inr z], τ) _ _
    refine ex_b (P := (cel (τ 4) 107) ≤ z) (ct := (cod m1_bolderThan 28, [some (.inl 7), some (.inr (f : Int)), some (.inr v), some (.inr z), o1], [], τ)) (cf := (cod m1_bolderThan 10, [some (.inl 7), some (.inr (f : Int)), some (.inr v), some (.inr z), o1], [], τ)) rfl ⟨⟨by omega, by omega⟩, ⟨by omega, by omega⟩⟩ (fun _ => ?_) (fun hh => absurd (by omega) hh)
    refine ex_k 1 (P := none) (g := (cod m1_bolderThan 29, [some (.inl 7), some (.inr (f : Int)), some (.inr v), some (.inr z), o1], [.inr v], τ)) rfl trivial ?_
    exact ex_r rfl trivial rfl (rI (by rw [hv]; congr 1; omega))
  | succ j ih =>
    intro k hk z v o1 hz hv
    have hN := hS.n
    have q1 : 0 ≤ z → z < 8 → 0 ≤ cel (τ 4) (0 + z * 6 + 4) ∧ cel (τ 4) (0 + z * 6 + 4) ≤ B := fun q1 q2 => hS.ju ⟨q1, q2⟩
    have q2 : 0 ≤ z → z < 8 → 0 ≤ cel (τ 4) (0 + z * 6 + 3) ∧ cel (τ 4) (0 + z * 6 + 3) ≤ 1 := fun q1 q2 => hS.kg ⟨q1, q2⟩
    have q3 := hS.ju (f := (f : Int)) (by omega)
    have q4 := hS.kg (f := (f : Int)) (by omega)
    have q5 := hS.B
    refine ex_k 4 (P := none) (g := (cod m1_bolderThan 8, [some (.inl 7), some (.inr (f : Int)), some (.inr v), some (.inr z), o1], [.inr 7, .inl 1, .inr z], τ)) rfl trivial ?_
    refine ex_c (s_total (τ := τ) (w := 7) (Or.inl ⟨rfl, rfl⟩) (by omega)) (is := cod m1_bolderThan 9) (L := [some (.inl 7), some (.inr (f : Int)), some (.inr v), some (.inr z), o1]) (st := [.inr z]) rfl rfl rfl ?_
    show Ex _ _ (cod m1_bolderThan 9, [some (.inl 7), some (.inr (f : Int)), some (.inr v), some (.inr z), o1], [.inr (cel (τ 4) 107), .inr z], τ) _ _
    refine ex_b (P := (cel (τ 4) 107) ≤ z) (ct := (cod m1_bolderThan 28, [some (.inl 7), some (.inr (f : Int)), some (.inr v), some (.inr z), o1], [], τ)) (cf := (cod m1_bolderThan 10, [some (.inl 7), some (.inr (f : Int)), some (.inr v), some (.inr z), o1], [], τ)) rfl ⟨⟨by omega, by omega⟩, ⟨by omega, by omega⟩⟩ (fun hh => absurd hh (by omega)) (fun _ => ?_)
    refine ex_k 2 (P := none) (g := (cod m1_bolderThan 12, [some (.inl 7), some (.inr (f : Int)), some (.inr v), some (.inr z), o1], [.inr z, .inl 7], τ)) rfl trivial ?_
    refine ex_c (s_boldness (τ := τ) (f := z) (Or.inl ⟨rfl, rfl, rfl⟩) (by omega)) (is := cod m1_bolderThan 13) (L := [some (.inl 7), some (.inr (f : Int)), some (.inr v), some (.inr z), o1]) (st := []) rfl rfl rfl ?_
    show Ex _ _ (cod m1_bolderThan 13, [some (.inl 7), some (.inr (f : Int)), some (.inr v), some (.inr z), o1], [.inr (2 * cel (τ 4) (0 + z * 6 + 4) + cel (τ 4) (0 + z * 6 + 3))], τ) _ _
    refine ex_k 2 (P := none) (g := (cod m1_bolderThan 15, [some (.inl 7), some (.inr (f : Int)), some (.inr v), some (.inr z), o1], [.inr (f : Int), .inl 7, .inr (2 * cel (τ 4) (0 + z * 6 + 4) + cel (τ 4) (0 + z * 6 + 3))], τ)) rfl trivial ?_
    refine ex_c (s_boldness (τ := τ) (f := (f : Int)) (Or.inl ⟨rfl, rfl, rfl⟩) (by omega)) (is := cod m1_bolderThan 16) (L := [some (.inl 7), some (.inr (f : Int)), some (.inr v), some (.inr z), o1]) (st := [.inr (2 * cel (τ 4) (0 + z * 6 + 4) + cel (τ 4) (0 + z * 6 + 3))]) rfl rfl rfl ?_
    show Ex _ _ (cod m1_bolderThan 16, [some (.inl 7), some (.inr (f : Int)), some (.inr v), some (.inr z), o1], [.inr (2 * cel (τ 4) (0 + (f : Int) * 6 + 4) + cel (τ 4) (0 + (f : Int) * 6 + 3)), .inr (2 * cel (τ 4) (0 + z * 6 + 4) + cel (τ 4) (0 + z * 6 + 3))], τ) _ _
    refine ex_k 3 (P := none) (g := (cod m1_bolderThan 19, [some (.inl 7), some (.inr (f : Int)), some (.inr v), some (.inr z), some (.inr ((2 * cel (τ 4) (0 + z * 6 + 4) + cel (τ 4) (0 + z * 6 + 3)) - (2 * cel (τ 4) (0 + (f : Int) * 6 + 4) + cel (τ 4) (0 + (f : Int) * 6 + 3))))], [.inr ((2 * cel (τ 4) (0 + z * 6 + 4) + cel (τ 4) (0 + z * 6 + 3)) - (2 * cel (τ 4) (0 + (f : Int) * 6 + 4) + cel (τ 4) (0 + (f : Int) * 6 + 3)))], τ)) rfl trivial ?_
    refine ex_b (P := 0 < ((2 * cel (τ 4) (0 + z * 6 + 4) + cel (τ 4) (0 + z * 6 + 3)) - (2 * cel (τ 4) (0 + (f : Int) * 6 + 4) + cel (τ 4) (0 + (f : Int) * 6 + 3)))) (ct := (cod m1_bolderThan 25, [some (.inl 7), some (.inr (f : Int)), some (.inr v), some (.inr z), some (.inr ((2 * cel (τ 4) (0 + z * 6 + 4) + cel (τ 4) (0 + z * 6 + 3)) - (2 * cel (τ 4) (0 + (f : Int) * 6 + 4) + cel (τ 4) (0 + (f : Int) * 6 + 3))))], [], τ)) (cf := (cod m1_bolderThan 20, [some (.inl 7), some (.inr (f : Int)), some (.inr v), some (.inr z), some (.inr ((2 * cel (τ 4) (0 + z * 6 + 4) + cel (τ 4) (0 + z * 6 + 3)) - (2 * cel (τ 4) (0 + (f : Int) * 6 + 4) + cel (τ 4) (0 + (f : Int) * 6 + 3))))], [], τ)) rfl ⟨by omega, by omega⟩ (fun h2 => ?_) (fun h2 => ?_)
    · first
      | (exfalso; omega)
      | (
          refine ex_k 3 (P := none) (g := (cod m1_bolderThan 4, [some (.inl 7), some (.inr (f : Int)), some (.inr (v + 1)), some (.inr (z + 1)), some (.inr ((2 * cel (τ 4) (0 + z * 6 + 4) + cel (τ 4) (0 + z * 6 + 3)) - (2 * cel (τ 4) (0 + (f : Int) * 6 + 4) + cel (τ 4) (0 + (f : Int) * 6 + 3))))], [], τ)) rfl trivial ?_
          exact ih (k + 1) (by omega) _ _ _  (by omega) (by subst hz; first | exact cnt_t hv (by omega) | exact cnt_f hv (by omega)))
    · first
      | (exfalso; omega)
      | (
          refine ex_k 1 (P := none) (g := (cod m1_bolderThan 21, [some (.inl 7), some (.inr (f : Int)), some (.inr v), some (.inr z), some (.inr ((2 * cel (τ 4) (0 + z * 6 + 4) + cel (τ 4) (0 + z * 6 + 3)) - (2 * cel (τ 4) (0 + (f : Int) * 6 + 4) + cel (τ 4) (0 + (f : Int) * 6 + 3))))], [.inr ((2 * cel (τ 4) (0 + z * 6 + 4) + cel (τ 4) (0 + z * 6 + 3)) - (2 * cel (τ 4) (0 + (f : Int) * 6 + 4) + cel (τ 4) (0 + (f : Int) * 6 + 3)))], τ)) rfl trivial ?_
          refine ex_b (P := ¬ ((2 * cel (τ 4) (0 + z * 6 + 4) + cel (τ 4) (0 + z * 6 + 3)) - (2 * cel (τ 4) (0 + (f : Int) * 6 + 4) + cel (τ 4) (0 + (f : Int) * 6 + 3))) = 0) (ct := (cod m1_bolderThan 26, [some (.inl 7), some (.inr (f : Int)), some (.inr v), some (.inr z), some (.inr ((2 * cel (τ 4) (0 + z * 6 + 4) + cel (τ 4) (0 + z * 6 + 3)) - (2 * cel (τ 4) (0 + (f : Int) * 6 + 4) + cel (τ 4) (0 + (f : Int) * 6 + 3))))], [], τ)) (cf := (cod m1_bolderThan 22, [some (.inl 7), some (.inr (f : Int)), some (.inr v), some (.inr z), some (.inr ((2 * cel (τ 4) (0 + z * 6 + 4) + cel (τ 4) (0 + z * 6 + 3)) - (2 * cel (τ 4) (0 + (f : Int) * 6 + 4) + cel (τ 4) (0 + (f : Int) * 6 + 3))))], [], τ)) rfl ⟨by omega, by omega⟩ (fun h3 => ?_) (fun h3 => ?_)
          · first
            | (exfalso; omega)
            | (
                refine ex_k 2 (P := none) (g := (cod m1_bolderThan 4, [some (.inl 7), some (.inr (f : Int)), some (.inr v), some (.inr (z + 1)), some (.inr ((2 * cel (τ 4) (0 + z * 6 + 4) + cel (τ 4) (0 + z * 6 + 3)) - (2 * cel (τ 4) (0 + (f : Int) * 6 + 4) + cel (τ 4) (0 + (f : Int) * 6 + 3))))], [], τ)) rfl trivial ?_
                exact ih (k + 1) (by omega) _ _ _  (by omega) (by subst hz; first | exact cnt_t hv (by omega) | exact cnt_f hv (by omega)))
          · first
            | (exfalso; omega)
            | (
                refine ex_k 2 (P := none) (g := (cod m1_bolderThan 24, [some (.inl 7), some (.inr (f : Int)), some (.inr v), some (.inr z), some (.inr ((2 * cel (τ 4) (0 + z * 6 + 4) + cel (τ 4) (0 + z * 6 + 3)) - (2 * cel (τ 4) (0 + (f : Int) * 6 + 4) + cel (τ 4) (0 + (f : Int) * 6 + 3))))], [.inr (f : Int), .inr z], τ)) rfl trivial ?_
                refine ex_b (P := (f : Int) ≤ z) (ct := (cod m1_bolderThan 26, [some (.inl 7), some (.inr (f : Int)), some (.inr v), some (.inr z), some (.inr ((2 * cel (τ 4) (0 + z * 6 + 4) + cel (τ 4) (0 + z * 6 + 3)) - (2 * cel (τ 4) (0 + (f : Int) * 6 + 4) + cel (τ 4) (0 + (f : Int) * 6 + 3))))], [], τ)) (cf := (cod m1_bolderThan 25, [some (.inl 7), some (.inr (f : Int)), some (.inr v), some (.inr z), some (.inr ((2 * cel (τ 4) (0 + z * 6 + 4) + cel (τ 4) (0 + z * 6 + 3)) - (2 * cel (τ 4) (0 + (f : Int) * 6 + 4) + cel (τ 4) (0 + (f : Int) * 6 + 3))))], [], τ)) rfl ⟨⟨by omega, by omega⟩, ⟨by omega, by omega⟩⟩ (fun h4 => ?_) (fun h4 => ?_)
                · first
                  | (exfalso; omega)
                  | (
                      refine ex_k 2 (P := none) (g := (cod m1_bolderThan 4, [some (.inl 7), some (.inr (f : Int)), some (.inr v), some (.inr (z + 1)), some (.inr ((2 * cel (τ 4) (0 + z * 6 + 4) + cel (τ 4) (0 + z * 6 + 3)) - (2 * cel (τ 4) (0 + (f : Int) * 6 + 4) + cel (τ 4) (0 + (f : Int) * 6 + 3))))], [], τ)) rfl trivial ?_
                      exact ih (k + 1) (by omega) _ _ _  (by omega) (by subst hz; first | exact cnt_t hv (by omega) | exact cnt_f hv (by omega)))
                · first
                  | (exfalso; omega)
                  | (
                      refine ex_k 3 (P := none) (g := (cod m1_bolderThan 4, [some (.inl 7), some (.inr (f : Int)), some (.inr (v + 1)), some (.inr (z + 1)), some (.inr ((2 * cel (τ 4) (0 + z * 6 + 4) + cel (τ 4) (0 + z * 6 + 3)) - (2 * cel (τ 4) (0 + (f : Int) * 6 + 4) + cel (τ 4) (0 + (f : Int) * 6 + 3))))], [], τ)) rfl trivial ?_
                      exact ih (k + 1) (by omega) _ _ _  (by omega) (by subst hz; first | exact cnt_t hv (by omega) | exact cnt_f hv (by omega)))))
theorem lp_bolderThan_5 {τ : SZ} {N : Nat} {f : Nat} {B : Int} (hf : f < 8) (hS : Sh B (τ 5)) (hn : cel (τ 5) 107 = (N : Int)) : ∀ (j k : Nat), k + j = N → ∀ (z v : Int) (o1 : Option VZ), z = (k : Int) → v = sm (fun k => b2 (0 < (2 * cel (τ 5) (0 + (k : Int) * 6 + 4) + cel (τ 5) (0 + (k : Int) * 6 + 3)) - (2 * cel (τ 5) (0 + (f : Int) * 6 + 4) + cel (τ 5) (0 + (f : Int) * 6 + 3)) ∨ ((2 * cel (τ 5) (0 + (k : Int) * 6 + 4) + cel (τ 5) (0 + (k : Int) * 6 + 3)) - (2 * cel (τ 5) (0 + (f : Int) * 6 + 4) + cel (τ 5) (0 + (f : Int) * 6 + 3)) = 0 ∧ (k : Int) < (f : Int)))) k → Ex 4 m1_bolderThan (cod m1_bolderThan 4, [some (.inl 8), some (.inr (f : Int)), some (.inr v), some (.inr z), o1], [], τ) 0 (.inl (some (.inr (ahd (fun k => bdn (τ 5) (k : Int)) f N)), τ)) := by
  intro j
  induction j with
  | zero =>
    intro k hk z v o1 hz hv
    have hN := hS.n
    have q1 : 0 ≤ z → z < 8 → 0 ≤ cel (τ 5) (0 + z * 6 + 4) ∧ cel (τ 5) (0 + z * 6 + 4) ≤ B := fun q1 q2 => hS.ju ⟨q1, q2⟩
    have q2 : 0 ≤ z → z < 8 → 0 ≤ cel (τ 5) (0 + z * 6 + 3) ∧ cel (τ 5) (0 + z * 6 + 3) ≤ 1 := fun q1 q2 => hS.kg ⟨q1, q2⟩
    have q3 := hS.ju (f := (f : Int)) (by omega)
    have q4 := hS.kg (f := (f : Int)) (by omega)
    have q5 := hS.B
    refine ex_k 4 (P := none) (g := (cod m1_bolderThan 8, [some (.inl 8), some (.inr (f : Int)), some (.inr v), some (.inr z), o1], [.inr 7, .inl 2, .inr z], τ)) rfl trivial ?_
    refine ex_c (s_total (τ := τ) (w := 7) (Or.inr (Or.inl ⟨rfl, rfl⟩)) (by omega)) (is := cod m1_bolderThan 9) (L := [some (.inl 8), some (.inr (f : Int)), some (.inr v), some (.inr z), o1]) (st := [.inr z]) rfl rfl rfl ?_
    show Ex _ _ (cod m1_bolderThan 9, [some (.inl 8), some (.inr (f : Int)), some (.inr v), some (.inr z), o1], [.inr (cel (τ 5) 107), .inr z], τ) _ _
    refine ex_b (P := (cel (τ 5) 107) ≤ z) (ct := (cod m1_bolderThan 28, [some (.inl 8), some (.inr (f : Int)), some (.inr v), some (.inr z), o1], [], τ)) (cf := (cod m1_bolderThan 10, [some (.inl 8), some (.inr (f : Int)), some (.inr v), some (.inr z), o1], [], τ)) rfl ⟨⟨by omega, by omega⟩, ⟨by omega, by omega⟩⟩ (fun _ => ?_) (fun hh => absurd (by omega) hh)
    refine ex_k 1 (P := none) (g := (cod m1_bolderThan 29, [some (.inl 8), some (.inr (f : Int)), some (.inr v), some (.inr z), o1], [.inr v], τ)) rfl trivial ?_
    exact ex_r rfl trivial rfl (rI (by rw [hv]; congr 1; omega))
  | succ j ih =>
    intro k hk z v o1 hz hv
    have hN := hS.n
    have q1 : 0 ≤ z → z < 8 → 0 ≤ cel (τ 5) (0 + z * 6 + 4) ∧ cel (τ 5) (0 + z * 6 + 4) ≤ B := fun q1 q2 => hS.ju ⟨q1, q2⟩
    have q2 : 0 ≤ z → z < 8 → 0 ≤ cel (τ 5) (0 + z * 6 + 3) ∧ cel (τ 5) (0 + z * 6 + 3) ≤ 1 := fun q1 q2 => hS.kg ⟨q1, q2⟩
    have q3 := hS.ju (f := (f : Int)) (by omega)
    have q4 := hS.kg (f := (f : Int)) (by omega)
    have q5 := hS.B
    refine ex_k 4 (P := none) (g := (cod m1_bolderThan 8, [some (.inl 8), some (.inr (f : Int)), some (.inr v), some (.inr z), o1], [.inr 7, .inl 2, .inr z], τ)) rfl trivial ?_
    refine ex_c (s_total (τ := τ) (w := 7) (Or.inr (Or.inl ⟨rfl, rfl⟩)) (by omega)) (is := cod m1_bolderThan 9) (L := [some (.inl 8), some (.inr (f : Int)), some (.inr v), some (.inr z), o1]) (st := [.inr z]) rfl rfl rfl ?_
    show Ex _ _ (cod m1_bolderThan 9, [some (.inl 8), some (.inr (f : Int)), some (.inr v), some (.inr z), o1], [.inr (cel (τ 5) 107), .inr z], τ) _ _
    refine ex_b (P := (cel (τ 5) 107) ≤ z) (ct := (cod m1_bolderThan 28, [some (.inl 8), some (.inr (f : Int)), some (.inr v), some (.inr z), o1], [], τ)) (cf := (cod m1_bolderThan 10, [some (.inl 8), some (.inr (f : Int)), some (.inr v), some (.inr z), o1], [], τ)) rfl ⟨⟨by omega, by omega⟩, ⟨by omega, by omega⟩⟩ (fun hh => absurd hh (by omega)) (fun _ => ?_)
    refine ex_k 2 (P := none) (g := (cod m1_bolderThan 12, [some (.inl 8), some (.inr (f : Int)), some (.inr v), some (.inr z), o1], [.inr z, .inl 8], τ)) rfl trivial ?_
    refine ex_c (s_boldness (τ := τ) (f := z) (Or.inr ⟨rfl, rfl, rfl⟩) (by omega)) (is := cod m1_bolderThan 13) (L := [some (.inl 8), some (.inr (f : Int)), some (.inr v), some (.inr z), o1]) (st := []) rfl rfl rfl ?_
    show Ex _ _ (cod m1_bolderThan 13, [some (.inl 8), some (.inr (f : Int)), some (.inr v), some (.inr z), o1], [.inr (2 * cel (τ 5) (0 + z * 6 + 4) + cel (τ 5) (0 + z * 6 + 3))], τ) _ _
    refine ex_k 2 (P := none) (g := (cod m1_bolderThan 15, [some (.inl 8), some (.inr (f : Int)), some (.inr v), some (.inr z), o1], [.inr (f : Int), .inl 8, .inr (2 * cel (τ 5) (0 + z * 6 + 4) + cel (τ 5) (0 + z * 6 + 3))], τ)) rfl trivial ?_
    refine ex_c (s_boldness (τ := τ) (f := (f : Int)) (Or.inr ⟨rfl, rfl, rfl⟩) (by omega)) (is := cod m1_bolderThan 16) (L := [some (.inl 8), some (.inr (f : Int)), some (.inr v), some (.inr z), o1]) (st := [.inr (2 * cel (τ 5) (0 + z * 6 + 4) + cel (τ 5) (0 + z * 6 + 3))]) rfl rfl rfl ?_
    show Ex _ _ (cod m1_bolderThan 16, [some (.inl 8), some (.inr (f : Int)), some (.inr v), some (.inr z), o1], [.inr (2 * cel (τ 5) (0 + (f : Int) * 6 + 4) + cel (τ 5) (0 + (f : Int) * 6 + 3)), .inr (2 * cel (τ 5) (0 + z * 6 + 4) + cel (τ 5) (0 + z * 6 + 3))], τ) _ _
    refine ex_k 3 (P := none) (g := (cod m1_bolderThan 19, [some (.inl 8), some (.inr (f : Int)), some (.inr v), some (.inr z), some (.inr ((2 * cel (τ 5) (0 + z * 6 + 4) + cel (τ 5) (0 + z * 6 + 3)) - (2 * cel (τ 5) (0 + (f : Int) * 6 + 4) + cel (τ 5) (0 + (f : Int) * 6 + 3))))], [.inr ((2 * cel (τ 5) (0 + z * 6 + 4) + cel (τ 5) (0 + z * 6 + 3)) - (2 * cel (τ 5) (0 + (f : Int) * 6 + 4) + cel (τ 5) (0 + (f : Int) * 6 + 3)))], τ)) rfl trivial ?_
    refine ex_b (P := 0 < ((2 * cel (τ 5) (0 + z * 6 + 4) + cel (τ 5) (0 + z * 6 + 3)) - (2 * cel (τ 5) (0 + (f : Int) * 6 + 4) + cel (τ 5) (0 + (f : Int) * 6 + 3)))) (ct := (cod m1_bolderThan 25, [some (.inl 8), some (.inr (f : Int)), some (.inr v), some (.inr z), some (.inr ((2 * cel (τ 5) (0 + z * 6 + 4) + cel (τ 5) (0 + z * 6 + 3)) - (2 * cel (τ 5) (0 + (f : Int) * 6 + 4) + cel (τ 5) (0 + (f : Int) * 6 + 3))))], [], τ)) (cf := (cod m1_bolderThan 20, [some (.inl 8), some (.inr (f : Int)), some (.inr v), some (.inr z), some (.inr ((2 * cel (τ 5) (0 + z * 6 + 4) + cel (τ 5) (0 + z * 6 + 3)) - (2 * cel (τ 5) (0 + (f : Int) * 6 + 4) + cel (τ 5) (0 + (f : Int) * 6 + 3))))], [], τ)) rfl ⟨by omega, by omega⟩ (fun h2 => ?_) (fun h2 => ?_)
    · first
      | (exfalso; omega)
      | (
          refine ex_k 3 (P := none) (g := (cod m1_bolderThan 4, [some (.inl 8), some (.inr (f : Int)), some (.inr (v + 1)), some (.inr (z + 1)), some (.inr ((2 * cel (τ 5) (0 + z * 6 + 4) + cel (τ 5) (0 + z * 6 + 3)) - (2 * cel (τ 5) (0 + (f : Int) * 6 + 4) + cel (τ 5) (0 + (f : Int) * 6 + 3))))], [], τ)) rfl trivial ?_
          exact ih (k + 1) (by omega) _ _ _  (by omega) (by subst hz; first | exact cnt_t hv (by omega) | exact cnt_f hv (by omega)))
    · first
      | (exfalso; omega)
      | (
          refine ex_k 1 (P := none) (g := (cod m1_bolderThan 21, [some (.inl 8), some (.inr (f : Int)), some (.inr v), some (.inr z), some (.inr ((2 * cel (τ 5) (0 + z * 6 + 4) + cel (τ 5) (0 + z * 6 + 3)) - (2 * cel (τ 5) (0 + (f : Int) * 6 + 4) + cel (τ 5) (0 + (f : Int) * 6 + 3))))], [.inr ((2 * cel (τ 5) (0 + z * 6 + 4) + cel (τ 5) (0 + z * 6 + 3)) - (2 * cel (τ 5) (0 + (f : Int) * 6 + 4) + cel (τ 5) (0 + (f : Int) * 6 + 3)))], τ)) rfl trivial ?_
          refine ex_b (P := ¬ ((2 * cel (τ 5) (0 + z * 6 + 4) + cel (τ 5) (0 + z * 6 + 3)) - (2 * cel (τ 5) (0 + (f : Int) * 6 + 4) + cel (τ 5) (0 + (f : Int) * 6 + 3))) = 0) (ct := (cod m1_bolderThan 26, [some (.inl 8), some (.inr (f : Int)), some (.inr v), some (.inr z), some (.inr ((2 * cel (τ 5) (0 + z * 6 + 4) + cel (τ 5) (0 + z * 6 + 3)) - (2 * cel (τ 5) (0 + (f : Int) * 6 + 4) + cel (τ 5) (0 + (f : Int) * 6 + 3))))], [], τ)) (cf := (cod m1_bolderThan 22, [some (.inl 8), some (.inr (f : Int)), some (.inr v), some (.inr z), some (.inr ((2 * cel (τ 5) (0 + z * 6 + 4) + cel (τ 5) (0 + z * 6 + 3)) - (2 * cel (τ 5) (0 + (f : Int) * 6 + 4) + cel (τ 5) (0 + (f : Int) * 6 + 3))))], [], τ)) rfl ⟨by omega, by omega⟩ (fun h3 => ?_) (fun h3 => ?_)
          · first
            | (exfalso; omega)
            | (
                refine ex_k 2 (P := none) (g := (cod m1_bolderThan 4, [some (.inl 8), some (.inr (f : Int)), some (.inr v), some (.inr (z + 1)), some (.inr ((2 * cel (τ 5) (0 + z * 6 + 4) + cel (τ 5) (0 + z * 6 + 3)) - (2 * cel (τ 5) (0 + (f : Int) * 6 + 4) + cel (τ 5) (0 + (f : Int) * 6 + 3))))], [], τ)) rfl trivial ?_
                exact ih (k + 1) (by omega) _ _ _  (by omega) (by subst hz; first | exact cnt_t hv (by omega) | exact cnt_f hv (by omega)))
          · first
            | (exfalso; omega)
            | (
                refine ex_k 2 (P := none) (g := (cod m1_bolderThan 24, [some (.inl 8), some (.inr (f : Int)), some (.inr v), some (.inr z), some (.inr ((2 * cel (τ 5) (0 + z * 6 + 4) + cel (τ 5) (0 + z * 6 + 3)) - (2 * cel (τ 5) (0 + (f : Int) * 6 + 4) + cel (τ 5) (0 + (f : Int) * 6 + 3))))], [.inr (f : Int), .inr z], τ)) rfl trivial ?_
                refine ex_b (P := (f : Int) ≤ z) (ct := (cod m1_bolderThan 26, [some (.inl 8), some (.inr (f : Int)), some (.inr v), some (.inr z), some (.inr ((2 * cel (τ 5) (0 + z * 6 + 4) + cel (τ 5) (0 + z * 6 + 3)) - (2 * cel (τ 5) (0 + (f : Int) * 6 + 4) + cel (τ 5) (0 + (f : Int) * 6 + 3))))], [], τ)) (cf := (cod m1_bolderThan 25, [some (.inl 8), some (.inr (f : Int)), some (.inr v), some (.inr z), some (.inr ((2 * cel (τ 5) (0 + z * 6 + 4) + cel (τ 5) (0 + z * 6 + 3)) - (2 * cel (τ 5) (0 + (f : Int) * 6 + 4) + cel (τ 5) (0 + (f : Int) * 6 + 3))))], [], τ)) rfl ⟨⟨by omega, by omega⟩, ⟨by omega, by omega⟩⟩ (fun h4 => ?_) (fun h4 => ?_)
                · first
                  | (exfalso; omega)
                  | (
                      refine ex_k 2 (P := none) (g := (cod m1_bolderThan 4, [some (.inl 8), some (.inr (f : Int)), some (.inr v), some (.inr (z + 1)), some (.inr ((2 * cel (τ 5) (0 + z * 6 + 4) + cel (τ 5) (0 + z * 6 + 3)) - (2 * cel (τ 5) (0 + (f : Int) * 6 + 4) + cel (τ 5) (0 + (f : Int) * 6 + 3))))], [], τ)) rfl trivial ?_
                      exact ih (k + 1) (by omega) _ _ _  (by omega) (by subst hz; first | exact cnt_t hv (by omega) | exact cnt_f hv (by omega)))
                · first
                  | (exfalso; omega)
                  | (
                      refine ex_k 3 (P := none) (g := (cod m1_bolderThan 4, [some (.inl 8), some (.inr (f : Int)), some (.inr (v + 1)), some (.inr (z + 1)), some (.inr ((2 * cel (τ 5) (0 + z * 6 + 4) + cel (τ 5) (0 + z * 6 + 3)) - (2 * cel (τ 5) (0 + (f : Int) * 6 + 4) + cel (τ 5) (0 + (f : Int) * 6 + 3))))], [], τ)) rfl trivial ?_
                      exact ih (k + 1) (by omega) _ _ _  (by omega) (by subst hz; first | exact cnt_t hv (by omega) | exact cnt_f hv (by omega)))))
theorem s_bolderThan {γ ρ a : Nat} {N : Nat} {f : Nat} {B : Int} {τ : SZ} (hγ : GA γ ρ a) (hf : f < 8) (hS : Sh B (τ a)) (hn : cel (τ a) 107 = (N : Int)) : RZ 5 m1_bolderThan [.inl γ, .inr (f : Int)] τ (.inl (some (.inr (ahd (fun k => bdn (τ a) (k : Int)) f N)), τ)) := by
  rcases hγ with ⟨rfl, rfl, rfl⟩ | ⟨rfl, rfl, rfl⟩
  · refine Ex.call ?_ rfl rfl
    show Ex _ _ (cod m1_bolderThan 0, [some (.inl 7), some (.inr (f : Int)), none, none, none], [], τ) _ _
    refine ex_k 4 (P := none) (g := (cod m1_bolderThan 4, [some (.inl 7), some (.inr (f : Int)), some (.inr 0), some (.inr 0), none], [], τ)) rfl trivial ?_
    exact lp_bolderThan_4 hf hS hn N 0 (by omega) 0 0 _ rfl rfl
  · refine Ex.call ?_ rfl rfl
    show Ex _ _ (cod m1_bolderThan 0, [some (.inl 8), some (.inr (f : Int)), none, none, none], [], τ) _ _
    refine ex_k 4 (P := none) (g := (cod m1_bolderThan 4, [some (.inl 8), some (.inr (f : Int)), some (.inr 0), some (.inr 0), none], [], τ)) rfl trivial ?_
    exact lp_bolderThan_5 hf hS hn N 0 (by omega) 0 0 _ rfl rfl
theorem lp_fartherThan_4 {τ : SZ} {N : Nat} {f : Nat} {B : Int} (hf : f < 8) (hS : Sh B (τ 4)) (hn : cel (τ 4) 107 = (N : Int)) : ∀ (j k : Nat), k + j = N → ∀ (z v : Int) (o1 : Option VZ), z = (k : Int) → v = sm (fun k => b2 (0 < wcm (τ 4) (k : Int) - wcm (τ 4) (f : Int) ∨ (wcm (τ 4) (k : Int) - wcm (τ 4) (f : Int) = 0 ∧ (k : Int) < (f : Int)))) k → Ex 4 m1_fartherThan (cod m1_fartherThan 4, [some (.inl 7), some (.inr (f : Int)), some (.inr v), some (.inr z), o1], [], τ) 0 (.inl (some (.inr (ahd (fun k => wcm (τ 4) (k : Int)) f N)), τ)) := by
  intro j
  induction j with
  | zero =>
    intro k hk z v o1 hz hv
    have hN := hS.n
    have q1 : 0 ≤ z → z < 8 → 0 ≤ wcm (τ 4) z ∧ wcm (τ 4) z ≤ 22 := fun q1 q2 => wcm_in hS ⟨q1, q2⟩
    have q2 := wcm_in hS (f := (f : Int)) (by omega)
    refine ex_k 4 (P := none) (g := (cod m1_fartherThan 8, [some (.inl 7), some (.inr (f : Int)), some (.inr v), some (.inr z), o1], [.inr 7, .inl 1, .inr z], τ)) rfl trivial ?_
    refine ex_c (s_total (τ := τ) (w := 7) (Or.inl ⟨rfl, rfl⟩) (by omega)) (is := cod m1_fartherThan 9) (L := [some (.inl 7), some (.inr (f : Int)), some (.inr v), some (.inr z), o1]) (st := [.inr z]) rfl rfl rfl ?_
    show Ex _ _ (cod m1_fartherThan 9, [some (.inl 7), some (.inr (f : Int)), some (.inr v), some (.inr z), o1], [.inr (cel (τ 4) 107), .inr z], τ) _ _
    refine ex_b (P := (cel (τ 4) 107) ≤ z) (ct := (cod m1_fartherThan 28, [some (.inl 7), some (.inr (f : Int)), some (.inr v), some (.inr z), o1], [], τ)) (cf := (cod m1_fartherThan 10, [some (.inl 7), some (.inr (f : Int)), some (.inr v), some (.inr z), o1], [], τ)) rfl ⟨⟨by omega, by omega⟩, ⟨by omega, by omega⟩⟩ (fun _ => ?_) (fun hh => absurd (by omega) hh)
    refine ex_k 1 (P := none) (g := (cod m1_fartherThan 29, [some (.inl 7), some (.inr (f : Int)), some (.inr v), some (.inr z), o1], [.inr v], τ)) rfl trivial ?_
    exact ex_r rfl trivial rfl (rI (by rw [hv]; congr 1; omega))
  | succ j ih =>
    intro k hk z v o1 hz hv
    have hN := hS.n
    have q1 : 0 ≤ z → z < 8 → 0 ≤ wcm (τ 4) z ∧ wcm (τ 4) z ≤ 22 := fun q1 q2 => wcm_in hS ⟨q1, q2⟩
    have q2 := wcm_in hS (f := (f : Int)) (by omega)
    refine ex_k 4 (P := none) (g := (cod m1_fartherThan 8, [some (.inl 7), some (.inr (f : Int)), some (.inr v), some (.inr z), o1], [.inr 7, .inl 1, .inr z], τ)) rfl trivial ?_
    refine ex_c (s_total (τ := τ) (w := 7) (Or.inl ⟨rfl, rfl⟩) (by omega)) (is := cod m1_fartherThan 9) (L := [some (.inl 7), some (.inr (f : Int)), some (.inr v), some (.inr z), o1]) (st := [.inr z]) rfl rfl rfl ?_
    show Ex _ _ (cod m1_fartherThan 9, [some (.inl 7), some (.inr (f : Int)), some (.inr v), some (.inr z), o1], [.inr (cel (τ 4) 107), .inr z], τ) _ _
    refine ex_b (P := (cel (τ 4) 107) ≤ z) (ct := (cod m1_fartherThan 28, [some (.inl 7), some (.inr (f : Int)), some (.inr v), some (.inr z), o1], [], τ)) (cf := (cod m1_fartherThan 10, [some (.inl 7), some (.inr (f : Int)), some (.inr v), some (.inr z), o1], [], τ)) rfl ⟨⟨by omega, by omega⟩, ⟨by omega, by omega⟩⟩ (fun hh => absurd hh (by omega)) (fun _ => ?_)
    refine ex_k 2 (P := none) (g := (cod m1_fartherThan 12, [some (.inl 7), some (.inr (f : Int)), some (.inr v), some (.inr z), o1], [.inr z, .inl 7], τ)) rfl trivial ?_
    refine ex_c (s_wayCome (τ := τ) (f := z) (Or.inl ⟨rfl, rfl, rfl⟩) (by omega) hS.bd) (is := cod m1_fartherThan 13) (L := [some (.inl 7), some (.inr (f : Int)), some (.inr v), some (.inr z), o1]) (st := []) rfl rfl rfl ?_
    show Ex _ _ (cod m1_fartherThan 13, [some (.inl 7), some (.inr (f : Int)), some (.inr v), some (.inr z), o1], [.inr (wcm (τ 4) z)], τ) _ _
    refine ex_k 2 (P := none) (g := (cod m1_fartherThan 15, [some (.inl 7), some (.inr (f : Int)), some (.inr v), some (.inr z), o1], [.inr (f : Int), .inl 7, .inr (wcm (τ 4) z)], τ)) rfl trivial ?_
    refine ex_c (s_wayCome (τ := τ) (f := (f : Int)) (Or.inl ⟨rfl, rfl, rfl⟩) (by omega) hS.bd) (is := cod m1_fartherThan 16) (L := [some (.inl 7), some (.inr (f : Int)), some (.inr v), some (.inr z), o1]) (st := [.inr (wcm (τ 4) z)]) rfl rfl rfl ?_
    show Ex _ _ (cod m1_fartherThan 16, [some (.inl 7), some (.inr (f : Int)), some (.inr v), some (.inr z), o1], [.inr (wcm (τ 4) (f : Int)), .inr (wcm (τ 4) z)], τ) _ _
    refine ex_k 3 (P := none) (g := (cod m1_fartherThan 19, [some (.inl 7), some (.inr (f : Int)), some (.inr v), some (.inr z), some (.inr ((wcm (τ 4) z) - (wcm (τ 4) (f : Int))))], [.inr ((wcm (τ 4) z) - (wcm (τ 4) (f : Int)))], τ)) rfl trivial ?_
    refine ex_b (P := 0 < ((wcm (τ 4) z) - (wcm (τ 4) (f : Int)))) (ct := (cod m1_fartherThan 25, [some (.inl 7), some (.inr (f : Int)), some (.inr v), some (.inr z), some (.inr ((wcm (τ 4) z) - (wcm (τ 4) (f : Int))))], [], τ)) (cf := (cod m1_fartherThan 20, [some (.inl 7), some (.inr (f : Int)), some (.inr v), some (.inr z), some (.inr ((wcm (τ 4) z) - (wcm (τ 4) (f : Int))))], [], τ)) rfl ⟨by omega, by omega⟩ (fun h2 => ?_) (fun h2 => ?_)
    · first
      | (exfalso; omega)
      | (
          refine ex_k 3 (P := none) (g := (cod m1_fartherThan 4, [some (.inl 7), some (.inr (f : Int)), some (.inr (v + 1)), some (.inr (z + 1)), some (.inr ((wcm (τ 4) z) - (wcm (τ 4) (f : Int))))], [], τ)) rfl trivial ?_
          exact ih (k + 1) (by omega) _ _ _  (by omega) (by subst hz; first | exact cnt_t hv (by omega) | exact cnt_f hv (by omega)))
    · first
      | (exfalso; omega)
      | (
          refine ex_k 1 (P := none) (g := (cod m1_fartherThan 21, [some (.inl 7), some (.inr (f : Int)), some (.inr v), some (.inr z), some (.inr ((wcm (τ 4) z) - (wcm (τ 4) (f : Int))))], [.inr ((wcm (τ 4) z) - (wcm (τ 4) (f : Int)))], τ)) rfl trivial ?_
          refine ex_b (P := ¬ ((wcm (τ 4) z) - (wcm (τ 4) (f : Int))) = 0) (ct := (cod m1_fartherThan 26, [some (.inl 7), some (.inr (f : Int)), some (.inr v), some (.inr z), some (.inr ((wcm (τ 4) z) - (wcm (τ 4) (f : Int))))], [], τ)) (cf := (cod m1_fartherThan 22, [some (.inl 7), some (.inr (f : Int)), some (.inr v), some (.inr z), some (.inr ((wcm (τ 4) z) - (wcm (τ 4) (f : Int))))], [], τ)) rfl ⟨by omega, by omega⟩ (fun h3 => ?_) (fun h3 => ?_)
          · first
            | (exfalso; omega)
            | (
                refine ex_k 2 (P := none) (g := (cod m1_fartherThan 4, [some (.inl 7), some (.inr (f : Int)), some (.inr v), some (.inr (z + 1)), some (.inr ((wcm (τ 4) z) - (wcm (τ 4) (f : Int))))], [], τ)) rfl trivial ?_
                exact ih (k + 1) (by omega) _ _ _  (by omega) (by subst hz; first | exact cnt_t hv (by omega) | exact cnt_f hv (by omega)))
          · first
            | (exfalso; omega)
            | (
                refine ex_k 2 (P := none) (g := (cod m1_fartherThan 24, [some (.inl 7), some (.inr (f : Int)), some (.inr v), some (.inr z), some (.inr ((wcm (τ 4) z) - (wcm (τ 4) (f : Int))))], [.inr (f : Int), .inr z], τ)) rfl trivial ?_
                refine ex_b (P := (f : Int) ≤ z) (ct := (cod m1_fartherThan 26, [some (.inl 7), some (.inr (f : Int)), some (.inr v), some (.inr z), some (.inr ((wcm (τ 4) z) - (wcm (τ 4) (f : Int))))], [], τ)) (cf := (cod m1_fartherThan 25, [some (.inl 7), some (.inr (f : Int)), some (.inr v), some (.inr z), some (.inr ((wcm (τ 4) z) - (wcm (τ 4) (f : Int))))], [], τ)) rfl ⟨⟨by omega, by omega⟩, ⟨by omega, by omega⟩⟩ (fun h4 => ?_) (fun h4 => ?_)
                · first
                  | (exfalso; omega)
                  | (
                      refine ex_k 2 (P := none) (g := (cod m1_fartherThan 4, [some (.inl 7), some (.inr (f : Int)), some (.inr v), some (.inr (z + 1)), some (.inr ((wcm (τ 4) z) - (wcm (τ 4) (f : Int))))], [], τ)) rfl trivial ?_
                      exact ih (k + 1) (by omega) _ _ _  (by omega) (by subst hz; first | exact cnt_t hv (by omega) | exact cnt_f hv (by omega)))
                · first
                  | (exfalso; omega)
                  | (
                      refine ex_k 3 (P := none) (g := (cod m1_fartherThan 4, [some (.inl 7), some (.inr (f : Int)), some (.inr (v + 1)), some (.inr (z + 1)), some (.inr ((wcm (τ 4) z) - (wcm (τ 4) (f : Int))))], [], τ)) rfl trivial ?_
                      exact ih (k + 1) (by omega) _ _ _  (by omega) (by subst hz; first | exact cnt_t hv (by omega) | exact cnt_f hv (by omega)))))
theorem lp_fartherThan_5 {τ : SZ} {N : Nat} {f : Nat} {B : Int} (hf : f < 8) (hS : Sh B (τ 5)) (hn : cel (τ 5) 107 = (N : Int)) : ∀ (j k : Nat), k + j = N → ∀ (z v : Int) (o1 : Option VZ), z = (k : Int) → v = sm (fun k => b2 (0 < wcm (τ 5) (k : Int) - wcm (τ 5) (f : Int) ∨ (wcm (τ 5) (k : Int) - wcm (τ 5) (f : Int) = 0 ∧ (k : Int) < (f : Int)))) k → Ex 4 m1_fartherThan (cod m1_fartherThan 4, [some (.inl 8), some (.inr (f : Int)), some (.inr v), some (.inr z), o1], [], τ) 0 (.inl (some (.inr (ahd (fun k => wcm (τ 5) (k : Int)) f N)), τ)) := by
  intro j
  induction j with
  | zero =>
    intro k hk z v o1 hz hv
    have hN := hS.n
    have q1 : 0 ≤ z → z < 8 → 0 ≤ wcm (τ 5) z ∧ wcm (τ 5) z ≤ 22 := fun q1 q2 => wcm_in hS ⟨q1, q2⟩
    have q2 := wcm_in hS (f := (f : Int)) (by omega)
    refine ex_k 4 (P := none) (g := (cod m1_fartherThan 8, [some (.inl 8), some (.inr (f : Int)), some (.inr v), some (.inr z), o1], [.inr 7, .inl 2, .inr z], τ)) rfl trivial ?_
    refine ex_c (s_total (τ := τ) (w := 7) (Or.inr (Or.inl ⟨rfl, rfl⟩)) (by omega)) (is := cod m1_fartherThan 9) (L := [some (.inl 8), some (.inr (f : Int)), some (.inr v), some (.inr z), o1]) (st := [.inr z]) rfl rfl rfl ?_
    show Ex _ _ (cod m1_fartherThan 9, [some (.inl 8), some (.inr (f : Int)), some (.inr v), some (.inr z), o1], [.inr (cel (τ 5) 107), .inr z], τ) _ _
    refine ex_b (P := (cel (τ 5) 107) ≤ z) (ct := (cod m1_fartherThan 28, [some (.inl 8), some (.inr (f : Int)), some (.inr v), some (.inr z), o1], [], τ)) (cf := (cod m1_fartherThan 10, [some (.inl 8), some (.inr (f : Int)), some (.inr v), some (.inr z), o1], [], τ)) rfl ⟨⟨by omega, by omega⟩, ⟨by omega, by omega⟩⟩ (fun _ => ?_) (fun hh => absurd (by omega) hh)
    refine ex_k 1 (P := none) (g := (cod m1_fartherThan 29, [some (.inl 8), some (.inr (f : Int)), some (.inr v), some (.inr z), o1], [.inr v], τ)) rfl trivial ?_
    exact ex_r rfl trivial rfl (rI (by rw [hv]; congr 1; omega))
  | succ j ih =>
    intro k hk z v o1 hz hv
    have hN := hS.n
    have q1 : 0 ≤ z → z < 8 → 0 ≤ wcm (τ 5) z ∧ wcm (τ 5) z ≤ 22 := fun q1 q2 => wcm_in hS ⟨q1, q2⟩
    have q2 := wcm_in hS (f := (f : Int)) (by omega)
    refine ex_k 4 (P := none) (g := (cod m1_fartherThan 8, [some (.inl 8), some (.inr (f : Int)), some (.inr v), some (.inr z), o1], [.inr 7, .inl 2, .inr z], τ)) rfl trivial ?_
    refine ex_c (s_total (τ := τ) (w := 7) (Or.inr (Or.inl ⟨rfl, rfl⟩)) (by omega)) (is := cod m1_fartherThan 9) (L := [some (.inl 8), some (.inr (f : Int)), some (.inr v), some (.inr z), o1]) (st := [.inr z]) rfl rfl rfl ?_
    show Ex _ _ (cod m1_fartherThan 9, [some (.inl 8), some (.inr (f : Int)), some (.inr v), some (.inr z), o1], [.inr (cel (τ 5) 107), .inr z], τ) _ _
    refine ex_b (P := (cel (τ 5) 107) ≤ z) (ct := (cod m1_fartherThan 28, [some (.inl 8), some (.inr (f : Int)), some (.inr v), some (.inr z), o1], [], τ)) (cf := (cod m1_fartherThan 10, [some (.inl 8), some (.inr (f : Int)), some (.inr v), some (.inr z), o1], [], τ)) rfl ⟨⟨by omega, by omega⟩, ⟨by omega, by omega⟩⟩ (fun hh => absurd hh (by omega)) (fun _ => ?_)
    refine ex_k 2 (P := none) (g := (cod m1_fartherThan 12, [some (.inl 8), some (.inr (f : Int)), some (.inr v), some (.inr z), o1], [.inr z, .inl 8], τ)) rfl trivial ?_
    refine ex_c (s_wayCome (τ := τ) (f := z) (Or.inr ⟨rfl, rfl, rfl⟩) (by omega) hS.bd) (is := cod m1_fartherThan 13) (L := [some (.inl 8), some (.inr (f : Int)), some (.inr v), some (.inr z), o1]) (st := []) rfl rfl rfl ?_
    show Ex _ _ (cod m1_fartherThan 13, [some (.inl 8), some (.inr (f : Int)), some (.inr v), some (.inr z), o1], [.inr (wcm (τ 5) z)], τ) _ _
    refine ex_k 2 (P := none) (g := (cod m1_fartherThan 15, [some (.inl 8), some (.inr (f : Int)), some (.inr v), some (.inr z), o1], [.inr (f : Int), .inl 8, .inr (wcm (τ 5) z)], τ)) rfl trivial ?_
    refine ex_c (s_wayCome (τ := τ) (f := (f : Int)) (Or.inr ⟨rfl, rfl, rfl⟩) (by omega) hS.bd) (is := cod m1_fartherThan 16) (L := [some (.inl 8), some (.inr (f : Int)), some (.inr v), some (.inr z), o1]) (st := [.inr (wcm (τ 5) z)]) rfl rfl rfl ?_
    show Ex _ _ (cod m1_fartherThan 16, [some (.inl 8), some (.inr (f : Int)), some (.inr v), some (.inr z), o1], [.inr (wcm (τ 5) (f : Int)), .inr (wcm (τ 5) z)], τ) _ _
    refine ex_k 3 (P := none) (g := (cod m1_fartherThan 19, [some (.inl 8), some (.inr (f : Int)), some (.inr v), some (.inr z), some (.inr ((wcm (τ 5) z) - (wcm (τ 5) (f : Int))))], [.inr ((wcm (τ 5) z) - (wcm (τ 5) (f : Int)))], τ)) rfl trivial ?_
    refine ex_b (P := 0 < ((wcm (τ 5) z) - (wcm (τ 5) (f : Int)))) (ct := (cod m1_fartherThan 25, [some (.inl 8), some (.inr (f : Int)), some (.inr v), some (.inr z), some (.inr ((wcm (τ 5) z) - (wcm (τ 5) (f : Int))))], [], τ)) (cf := (cod m1_fartherThan 20, [some (.inl 8), some (.inr (f : Int)), some (.inr v), some (.inr z), some (.inr ((wcm (τ 5) z) - (wcm (τ 5) (f : Int))))], [], τ)) rfl ⟨by omega, by omega⟩ (fun h2 => ?_) (fun h2 => ?_)
    · first
      | (exfalso; omega)
      | (
          refine ex_k 3 (P := none) (g := (cod m1_fartherThan 4, [some (.inl 8), some (.inr (f : Int)), some (.inr (v + 1)), some (.inr (z + 1)), some (.inr ((wcm (τ 5) z) - (wcm (τ 5) (f : Int))))], [], τ)) rfl trivial ?_
          exact ih (k + 1) (by omega) _ _ _  (by omega) (by subst hz; first | exact cnt_t hv (by omega) | exact cnt_f hv (by omega)))
    · first
      | (exfalso; omega)
      | (
          refine ex_k 1 (P := none) (g := (cod m1_fartherThan 21, [some (.inl 8), some (.inr (f : Int)), some (.inr v), some (.inr z), some (.inr ((wcm (τ 5) z) - (wcm (τ 5) (f : Int))))], [.inr ((wcm (τ 5) z) - (wcm (τ 5) (f : Int)))], τ)) rfl trivial ?_
          refine ex_b (P := ¬ ((wcm (τ 5) z) - (wcm (τ 5) (f : Int))) = 0) (ct := (cod m1_fartherThan 26, [some (.inl 8), some (.inr (f : Int)), some (.inr v), some (.inr z), some (.inr ((wcm (τ 5) z) - (wcm (τ 5) (f : Int))))], [], τ)) (cf := (cod m1_fartherThan 22, [some (.inl 8), some (.inr (f : Int)), some (.inr v), some (.inr z), some (.inr ((wcm (τ 5) z) - (wcm (τ 5) (f : Int))))], [], τ)) rfl ⟨by omega, by omega⟩ (fun h3 => ?_) (fun h3 => ?_)
          · first
            | (exfalso; omega)
            | (
                refine ex_k 2 (P := none) (g := (cod m1_fartherThan 4, [some (.inl 8), some (.inr (f : Int)), some (.inr v), some (.inr (z + 1)), some (.inr ((wcm (τ 5) z) - (wcm (τ 5) (f : Int))))], [], τ)) rfl trivial ?_
                exact ih (k + 1) (by omega) _ _ _  (by omega) (by subst hz; first | exact cnt_t hv (by omega) | exact cnt_f hv (by omega)))
          · first
            | (exfalso; omega)
            | (
                refine ex_k 2 (P := none) (g := (cod m1_fartherThan 24, [some (.inl 8), some (.inr (f : Int)), some (.inr v), some (.inr z), some (.inr ((wcm (τ 5) z) - (wcm (τ 5) (f : Int))))], [.inr (f : Int), .inr z], τ)) rfl trivial ?_
                refine ex_b (P := (f : Int) ≤ z) (ct := (cod m1_fartherThan 26, [some (.inl 8), some (.inr (f : Int)), some (.inr v), some (.inr z), some (.inr ((wcm (τ 5) z) - (wcm (τ 5) (f : Int))))], [], τ)) (cf := (cod m1_fartherThan 25, [some (.inl 8), some (.inr (f : Int)), some (.inr v), some (.inr z), some (.inr ((wcm (τ 5) z) - (wcm (τ 5) (f : Int))))], [], τ)) rfl ⟨⟨by omega, by omega⟩, ⟨by omega, by omega⟩⟩ (fun h4 => ?_) (fun h4 => ?_)
                · first
                  | (exfalso; omega)
                  | (
                      refine ex_k 2 (P := none) (g := (cod m1_fartherThan 4, [some (.inl 8), some (.inr (f : Int)), some (.inr v), some (.inr (z + 1)), some (.inr ((wcm (τ 5) z) - (wcm (τ 5) (f : Int))))], [], τ)) rfl trivial ?_
                      exact ih (k + 1) (by omega) _ _ _  (by omega) (by subst hz; first | exact cnt_t hv (by omega) | exact cnt_f hv (by omega)))
                · first
                  | (exfalso; omega)
                  | (
                      refine ex_k 3 (P := none) (g := (cod m1_fartherThan 4, [some (.inl 8), some (.inr (f : Int)), some (.inr (v + 1)), some (.inr (z + 1)), some (.inr ((wcm (τ 5) z) - (wcm (τ 5) (f : Int))))], [], τ)) rfl trivial ?_
                      exact ih (k + 1) (by omega) _ _ _  (by omega) (by subst hz; first | exact cnt_t hv (by omega) | exact cnt_f hv (by omega)))))
theorem s_fartherThan {γ ρ a : Nat} {N : Nat} {f : Nat} {B : Int} {τ : SZ} (hγ : GA γ ρ a) (hf : f < 8) (hS : Sh B (τ a)) (hn : cel (τ a) 107 = (N : Int)) : RZ 5 m1_fartherThan [.inl γ, .inr (f : Int)] τ (.inl (some (.inr (ahd (fun k => wcm (τ a) (k : Int)) f N)), τ)) := by
  rcases hγ with ⟨rfl, rfl, rfl⟩ | ⟨rfl, rfl, rfl⟩
  · refine Ex.call ?_ rfl rfl
    show Ex _ _ (cod m1_fartherThan 0, [some (.inl 7), some (.inr (f : Int)), none, none, none], [], τ) _ _
    refine ex_k 4 (P := none) (g := (cod m1_fartherThan 4, [some (.inl 7), some (.inr (f : Int)), some (.inr 0), some (.inr 0), none], [], τ)) rfl trivial ?_
    exact lp_fartherThan_4 hf hS hn N 0 (by omega) 0 0 _ rfl rfl
  · refine Ex.call ?_ rfl rfl
    show Ex _ _ (cod m1_fartherThan 0, [some (.inl 8), some (.inr (f : Int)), none, none, none], [], τ) _ _
    refine ex_k 4 (P := none) (g := (cod m1_fartherThan 4, [some (.inl 8), some (.inr (f : Int)), some (.inr 0), some (.inr 0), none], [], τ)) rfl trivial ?_
    exact lp_fartherThan_5 hf hS hn N 0 (by omega) 0 0 _ rfl rfl
end GAM3
