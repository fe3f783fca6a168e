/-! contracts of the game: printed by wip/whole/db4.py -/
section GAM
/-- a game, its rivers, their row of numbers -/
def GA (γ ρ a : Nat) : Prop := (γ = 7 ∧ ρ = 1 ∧ a = 4) ∨ (γ = 8 ∧ ρ = 2 ∧ a = 5)
/-- a row of numbers as games keep it -/
def Cw (c : Nat → Int) : Prop := Bd c ∧ Fb c ∧ (∀ z, 48 ≤ z → z < 72 → -1 ≤ cel c z ∧ cel c z ≤ 8) ∧ (∀ f r, 0 ≤ f → f < 8 → 0 ≤ r → r < 2 → 0 ≤ cel c (0 + f * 6 + (1 + r)) ∧ cel c (0 + f * 6 + (1 + r)) < 12)
theorem Cw.who {c : Nat → Int} (h : Cw c) {r p : Int} (hr : 0 ≤ r ∧ r < 2) : -1 ≤ whz c r p ∧ whz c r p ≤ 8 := by
  unfold whz
  split
  · exact h.2.2.1 _ (by omega) (by omega)
  · omega

abbrev gby (c : Nat → Int) (f s : Int) : Prop := (cel c (0 + f * 6 + 0) = 0 ∧ s = 1) ∨ (¬ cel c (0 + f * 6 + 0) = 0 ∧ s = -1) ∨ cel c (0 + f * 6 + 3) = 1
theorem s_goesBy {γ ρ a : Nat} {f s : Int} {τ : SZ} (hγ : GA γ ρ a) (hf : 0 ≤ f ∧ f < 9) (hs : s = 1 ∨ s = -1) (hB : Bd (τ a)) : RZ 2 m1_goesBy [.inl γ, .inr f, .inr s] τ (.inl (some (.inr (b2 (gby (τ a) f s))), τ)) := by
  have hb1 := cel_bd hB (0 + f * 6 + 0)
  have hb2 := cel_bd hB (0 + f * 6 + 3)
  rcases hγ with ⟨rfl, rfl, rfl⟩ | ⟨rfl, rfl, rfl⟩
  · refine Ex.call ?_ rfl rfl
    show Ex _ _ (cod m1_goesBy 0, [some (.inl 7), some (.inr f), some (.inr s), none], [], τ) _ _
    refine ex_k 4 (P := none) (g := (cod m1_goesBy 4, [some (.inl 7), some (.inr f), some (.inr s), none], [.inr 0, .inr f, .inl 1], τ)) rfl trivial ?_
    refine ex_c (s_number (τ := τ) (f := f) (w := 0) (Or.inl ⟨rfl, rfl⟩) (by omega) (by omega)) (is := cod m1_goesBy 5) (L := [some (.inl 7), some (.inr f), some (.inr s), none]) (st := []) rfl rfl rfl ?_
    show Ex _ _ (cod m1_goesBy 5, [some (.inl 7), some (.inr f), some (.inr s), none], [.inr (cel (τ 4) (0 + f * 6 + 0))], τ) _ _
    refine ex_b (P := ¬ (cel (τ 4) (0 + f * 6 + 0)) = 0) (ct := (cod m1_goesBy 8, [some (.inl 7), some (.inr f), some (.inr s), none], [], τ)) (cf := (cod m1_goesBy 6, [some (.inl 7), some (.inr f), some (.inr s), none], [], τ)) rfl ⟨by omega, by omega⟩ (fun h1 => ?_) (fun h1 => ?_)
    · first
      | (exfalso; omega)
      | (
          refine ex_k 4 (P := none) (g := (cod m1_goesBy 12, [some (.inl 7), some (.inr f), some (.inr s), some (.inr (-1))], [.inr (-1), .inr s], τ)) rfl trivial ?_
          refine ex_b (P := s = (-1)) (ct := (cod m1_goesBy 20, [some (.inl 7), some (.inr f), some (.inr s), some (.inr (-1))], [], τ)) (cf := (cod m1_goesBy 13, [some (.inl 7), some (.inr f), some (.inr s), some (.inr (-1))], [], τ)) rfl ⟨⟨by omega, by omega⟩, ⟨by decide, by decide⟩⟩ (fun h2 => ?_) (fun h2 => ?_)
          · first
            | (exfalso; omega)
            | (
                refine ex_k 2 (P := none) (g := (cod m1_goesBy 23, [some (.inl 7), some (.inr f), some (.inr s), some (.inr (-1))], [.inr 1], τ)) rfl trivial ?_
                exact ex_r rfl (by first | exact Or.inl rfl | exact Or.inr rfl | omega) rfl (rI (by first | rw [b2_t (by omega)] | rw [b2_f (by omega)])))
          · first
            | (exfalso; omega)
            | (
                refine ex_k 4 (P := none) (g := (cod m1_goesBy 17, [some (.inl 7), some (.inr f), some (.inr s), some (.inr (-1))], [.inr 3, .inr f, .inl 1], τ)) rfl trivial ?_
                refine ex_c (s_number (τ := τ) (f := f) (w := 3) (Or.inl ⟨rfl, rfl⟩) (by omega) (by omega)) (is := cod m1_goesBy 18) (L := [some (.inl 7), some (.inr f), some (.inr s), some (.inr (-1))]) (st := []) rfl rfl rfl ?_
                show Ex _ _ (cod m1_goesBy 18, [some (.inl 7), some (.inr f), some (.inr s), some (.inr (-1))], [.inr (cel (τ 4) (0 + f * 6 + 3))], τ) _ _
                refine ex_k 1 (P := none) (g := (cod m1_goesBy 19, [some (.inl 7), some (.inr f), some (.inr s), some (.inr (-1))], [.inr 1, .inr (cel (τ 4) (0 + f * 6 + 3))], τ)) rfl trivial ?_
                refine ex_b (P := ¬ (cel (τ 4) (0 + f * 6 + 3)) = 1) (ct := (cod m1_goesBy 22, [some (.inl 7), some (.inr f), some (.inr s), some (.inr (-1))], [], τ)) (cf := (cod m1_goesBy 20, [some (.inl 7), some (.inr f), some (.inr s), some (.inr (-1))], [], τ)) rfl ⟨⟨by omega, by omega⟩, ⟨by decide, by decide⟩⟩ (fun h3 => ?_) (fun h3 => ?_)
                · first
                  | (exfalso; omega)
                  | (
                      refine ex_k 1 (P := none) (g := (cod m1_goesBy 23, [some (.inl 7), some (.inr f), some (.inr s), some (.inr (-1))], [.inr 0], τ)) rfl trivial ?_
                      exact ex_r rfl (by first | exact Or.inl rfl | exact Or.inr rfl | omega) rfl (rI (by first | rw [b2_t (by omega)] | rw [b2_f (by omega)])))
                · first
                  | (exfalso; omega)
                  | (
                      refine ex_k 2 (P := none) (g := (cod m1_goesBy 23, [some (.inl 7), some (.inr f), some (.inr s), some (.inr (-1))], [.inr 1], τ)) rfl trivial ?_
                      exact ex_r rfl (by first | exact Or.inl rfl | exact Or.inr rfl | omega) rfl (rI (by first | rw [b2_t (by omega)] | rw [b2_f (by omega)])))))
    · first
      | (exfalso; omega)
      | (
          refine ex_k 5 (P := none) (g := (cod m1_goesBy 12, [some (.inl 7), some (.inr f), some (.inr s), some (.inr 1)], [.inr 1, .inr s], τ)) rfl trivial ?_
          refine ex_b (P := s = 1) (ct := (cod m1_goesBy 20, [some (.inl 7), some (.inr f), some (.inr s), some (.inr 1)], [], τ)) (cf := (cod m1_goesBy 13, [some (.inl 7), some (.inr f), some (.inr s), some (.inr 1)], [], τ)) rfl ⟨⟨by omega, by omega⟩, ⟨by decide, by decide⟩⟩ (fun h4 => ?_) (fun h4 => ?_)
          · first
            | (exfalso; omega)
            | (
                refine ex_k 2 (P := none) (g := (cod m1_goesBy 23, [some (.inl 7), some (.inr f), some (.inr s), some (.inr 1)], [.inr 1], τ)) rfl trivial ?_
                exact ex_r rfl (by first | exact Or.inl rfl | exact Or.inr rfl | omega) rfl (rI (by first | rw [b2_t (by omega)] | rw [b2_f (by omega)])))
          · first
            | (exfalso; omega)
            | (
                refine ex_k 4 (P := none) (g := (cod m1_goesBy 17, [some (.inl 7), some (.inr f), some (.inr s), some (.inr 1)], [.inr 3, .inr f, .inl 1], τ)) rfl trivial ?_
                refine ex_c (s_number (τ := τ) (f := f) (w := 3) (Or.inl ⟨rfl, rfl⟩) (by omega) (by omega)) (is := cod m1_goesBy 18) (L := [some (.inl 7), some (.inr f), some (.inr s), some (.inr 1)]) (st := []) rfl rfl rfl ?_
                show Ex _ _ (cod m1_goesBy 18, [some (.inl 7), some (.inr f), some (.inr s), some (.inr 1)], [.inr (cel (τ 4) (0 + f * 6 + 3))], τ) _ _
                refine ex_k 1 (P := none) (g := (cod m1_goesBy 19, [some (.inl 7), some (.inr f), some (.inr s), some (.inr 1)], [.inr 1, .inr (cel (τ 4) (0 + f * 6 + 3))], τ)) rfl trivial ?_
                refine ex_b (P := ¬ (cel (τ 4) (0 + f * 6 + 3)) = 1) (ct := (cod m1_goesBy 22, [some (.inl 7), some (.inr f), some (.inr s), some (.inr 1)], [], τ)) (cf := (cod m1_goesBy 20, [some (.inl 7), some (.inr f), some (.inr s), some (.inr 1)], [], τ)) rfl ⟨⟨by omega, by omega⟩, ⟨by decide, by decide⟩⟩ (fun h5 => ?_) (fun h5 => ?_)
                · first
                  | (exfalso; omega)
                  | (
                      refine ex_k 1 (P := none) (g := (cod m1_goesBy 23, [some (.inl 7), some (.inr f), some (.inr s), some (.inr 1)], [.inr 0], τ)) rfl trivial ?_
                      exact ex_r rfl (by first | exact Or.inl rfl | exact Or.inr rfl | omega) rfl (rI (by first | rw [b2_t (by omega)] | rw [b2_f (by omega)])))
                · first
                  | (exfalso; omega)
                  | (
                      refine ex_k 2 (P := none) (g := (cod m1_goesBy 23, [some (.inl 7), some (.inr f), some (.inr s), some (.inr 1)], [.inr 1], τ)) rfl trivial ?_
                      exact ex_r rfl (by first | exact Or.inl rfl | exact Or.inr rfl | omega) rfl (rI (by first | rw [b2_t (by omega)] | rw [b2_f (by omega)])))))
  · refine Ex.call ?_ rfl rfl
    show Ex _ _ (cod m1_goesBy 0, [some (.inl 8), some (.inr f), some (.inr s), none], [], τ) _ _
    refine ex_k 4 (P := none) (g := (cod m1_goesBy 4, [some (.inl 8), some (.inr f), some (.inr s), none], [.inr 0, .inr f, .inl 2], τ)) rfl trivial ?_
    refine ex_c (s_number (τ := τ) (f := f) (w := 0) (Or.inr (Or.inl ⟨rfl, rfl⟩)) (by omega) (by omega)) (is := cod m1_goesBy 5) (L := [some (.inl 8), some (.inr f), some (.inr s), none]) (st := []) rfl rfl rfl ?_
    show Ex _ _ (cod m1_goesBy 5, [some (.inl 8), some (.inr f), some (.inr s), none], [.inr (cel (τ 5) (0 + f * 6 + 0))], τ) _ _
    refine ex_b (P := ¬ (cel (τ 5) (0 + f * 6 + 0)) = 0) (ct := (cod m1_goesBy 8, [some (.inl 8), some (.inr f), some (.inr s), none], [], τ)) (cf := (cod m1_goesBy 6, [some (.inl 8), some (.inr f), some (.inr s), none], [], τ)) rfl ⟨by omega, by omega⟩ (fun h1 => ?_) (fun h1 => ?_)
    · first
      | (exfalso; omega)
      | (
          refine ex_k 4 (P := none) (g := (cod m1_goesBy 12, [some (.inl 8), some (.inr f), some (.inr s), some (.inr (-1))], [.inr (-1), .inr s], τ)) rfl trivial ?_
          refine ex_b (P := s = (-1)) (ct := (cod m1_goesBy 20, [some (.inl 8), some (.inr f), some (.inr s), some (.inr (-1))], [], τ)) (cf := (cod m1_goesBy 13, [some (.inl 8), some (.inr f), some (.inr s), some (.inr (-1))], [], τ)) rfl ⟨⟨by omega, by omega⟩, ⟨by decide, by decide⟩⟩ (fun h2 => ?_) (fun h2 => ?_)
          · first
            | (exfalso; omega)
            | (
                refine ex_k 2 (P := none) (g := (cod m1_goesBy 23, [some (.inl 8), some (.inr f), some (.inr s), some (.inr (-1))], [.inr 1], τ)) rfl trivial ?_
                exact ex_r rfl (by first | exact Or.inl rfl | exact Or.inr rfl | omega) rfl (rI (by first | rw [b2_t (by omega)] | rw [b2_f (by omega)])))
          · first
            | (exfalso; omega)
            | (
                refine ex_k 4 (P := none) (g := (cod m1_goesBy 17, [some (.inl 8), some (.inr f), some (.inr s), some (.inr (-1))], [.inr 3, .inr f, .inl 2], τ)) rfl trivial ?_
                refine ex_c (s_number (τ := τ) (f := f) (w := 3) (Or.inr (Or.inl ⟨rfl, rfl⟩)) (by omega) (by omega)) (is := cod m1_goesBy 18) (L := [some (.inl 8), some (.inr f), some (.inr s), some (.inr (-1))]) (st := []) rfl rfl rfl ?_
                show Ex _ _ (cod m1_goesBy 18, [some (.inl 8), some (.inr f), some (.inr s), some (.inr (-1))], [.inr (cel (τ 5) (0 + f * 6 + 3))], τ) _ _
                refine ex_k 1 (P := none) (g := (cod m1_goesBy 19, [some (.inl 8), some (.inr f), some (.inr s), some (.inr (-1))], [.inr 1, .inr (cel (τ 5) (0 + f * 6 + 3))], τ)) rfl trivial ?_
                refine ex_b (P := ¬ (cel (τ 5) (0 + f * 6 + 3)) = 1) (ct := (cod m1_goesBy 22, [some (.inl 8), some (.inr f), some (.inr s), some (.inr (-1))], [], τ)) (cf := (cod m1_goesBy 20, [some (.inl 8), some (.inr f), some (.inr s), some (.inr (-1))], [], τ)) rfl ⟨⟨by omega, by omega⟩, ⟨by decide, by decide⟩⟩ (fun h3 => ?_) (fun h3 => ?_)
                · first
                  | (exfalso; omega)
                  | (
                      refine ex_k 1 (P := none) (g := (cod m1_goesBy 23, [some (.inl 8), some (.inr f), some (.inr s), some (.inr (-1))], [.inr 0], τ)) rfl trivial ?_
                      exact ex_r rfl (by first | exact Or.inl rfl | exact Or.inr rfl | omega) rfl (rI (by first | rw [b2_t (by omega)] | rw [b2_f (by omega)])))
                · first
                  | (exfalso; omega)
                  | (
                      refine ex_k 2 (P := none) (g := (cod m1_goesBy 23, [some (.inl 8), some (.inr f), some (.inr s), some (.inr (-1))], [.inr 1], τ)) rfl trivial ?_
                      exact ex_r rfl (by first | exact Or.inl rfl | exact Or.inr rfl | omega) rfl (rI (by first | rw [b2_t (by omega)] | rw [b2_f (by omega)])))))
    · first
      | (exfalso; omega)
      | (
          refine ex_k 5 (P := none) (g := (cod m1_goesBy 12, [some (.inl 8), some (.inr f), some (.inr s), some (.inr 1)], [.inr 1, .inr s], τ)) rfl trivial ?_
          refine ex_b (P := s = 1) (ct := (cod m1_goesBy 20, [some (.inl 8), some (.inr f), some (.inr s), some (.inr 1)], [], τ)) (cf := (cod m1_goesBy 13, [some (.inl 8), some (.inr f), some (.inr s), some (.inr 1)], [], τ)) rfl ⟨⟨by omega, by omega⟩, ⟨by decide, by decide⟩⟩ (fun h4 => ?_) (fun h4 => ?_)
          · first
            | (exfalso; omega)
            | (
                refine ex_k 2 (P := none) (g := (cod m1_goesBy 23, [some (.inl 8), some (.inr f), some (.inr s), some (.inr 1)], [.inr 1], τ)) rfl trivial ?_
                exact ex_r rfl (by first | exact Or.inl rfl | exact Or.inr rfl | omega) rfl (rI (by first | rw [b2_t (by omega)] | rw [b2_f (by omega)])))
          · first
            | (exfalso; omega)
            | (
                refine ex_k 4 (P := none) (g := (cod m1_goesBy 17, [some (.inl 8), some (.inr f), some (.inr s), some (.inr 1)], [.inr 3, .inr f, .inl 2], τ)) rfl trivial ?_
                refine ex_c (s_number (τ := τ) (f := f) (w := 3) (Or.inr (Or.inl ⟨rfl, rfl⟩)) (by omega) (by omega)) (is := cod m1_goesBy 18) (L := [some (.inl 8), some (.inr f), some (.inr s), some (.inr 1)]) (st := []) rfl rfl rfl ?_
                show Ex _ _ (cod m1_goesBy 18, [some (.inl 8), some (.inr f), some (.inr s), some (.inr 1)], [.inr (cel (τ 5) (0 + f * 6 + 3))], τ) _ _
                refine ex_k 1 (P := none) (g := (cod m1_goesBy 19, [some (.inl 8), some (.inr f), some (.inr s), some (.inr 1)], [.inr 1, .inr (cel (τ 5) (0 + f * 6 + 3))], τ)) rfl trivial ?_
                refine ex_b (P := ¬ (cel (τ 5) (0 + f * 6 + 3)) = 1) (ct := (cod m1_goesBy 22, [some (.inl 8), some (.inr f), some (.inr s), some (.inr 1)], [], τ)) (cf := (cod m1_goesBy 20, [some (.inl 8), some (.inr f), some (.inr s), some (.inr 1)], [], τ)) rfl ⟨⟨by omega, by omega⟩, ⟨by decide, by decide⟩⟩ (fun h5 => ?_) (fun h5 => ?_)
                · first
                  | (exfalso; omega)
                  | (
                      refine ex_k 1 (P := none) (g := (cod m1_goesBy 23, [some (.inl 8), some (.inr f), some (.inr s), some (.inr 1)], [.inr 0], τ)) rfl trivial ?_
                      exact ex_r rfl (by first | exact Or.inl rfl | exact Or.inr rfl | omega) rfl (rI (by first | rw [b2_t (by omega)] | rw [b2_f (by omega)])))
                · first
                  | (exfalso; omega)
                  | (
                      refine ex_k 2 (P := none) (g := (cod m1_goesBy 23, [some (.inl 8), some (.inr f), some (.inr s), some (.inr 1)], [.inr 1], τ)) rfl trivial ?_
                      exact ex_r rfl (by first | exact Or.inl rfl | exact Or.inr rfl | omega) rfl (rI (by first | rw [b2_t (by omega)] | rw [b2_f (by omega)])))))
theorem s_worthOf {γ ρ a : Nat} {f : Int} {τ : SZ} (hγ : GA γ ρ a) (hf : 0 ≤ f ∧ f < 9) : RZ 2 m1_worthOf [.inl γ, .inr f] τ (.inl (some (.inr (1 + cel (τ a) (0 + f * 6 + 3))), τ)) := by
  rcases hγ with ⟨rfl, rfl, rfl⟩ | ⟨rfl, rfl, rfl⟩
  · refine Ex.call ?_ rfl rfl
    show Ex _ _ (cod m1_worthOf 0, [some (.inl 7), some (.inr f)], [], τ) _ _
    refine ex_k 5 (P := none) (g := (cod m1_worthOf 5, [some (.inl 7), some (.inr f)], [.inr 3, .inr f, .inl 1, .inr 1], τ)) rfl trivial ?_
    refine ex_c (s_number (τ := τ) (f := f) (w := 3) (Or.inl ⟨rfl, rfl⟩) (by omega) (by omega)) (is := cod m1_worthOf 6) (L := [some (.inl 7), some (.inr f)]) (st := [.inr 1]) rfl rfl rfl ?_
    show Ex _ _ (cod m1_worthOf 6, [some (.inl 7), some (.inr f)], [.inr (cel (τ 4) (0 + f * 6 + 3)), .inr 1], τ) _ _
    refine ex_k 1 (P := none) (g := (cod m1_worthOf 7, [some (.inl 7), some (.inr f)], [.inr (1 + (cel (τ 4) (0 + f * 6 + 3)))], τ)) rfl trivial ?_
    exact ex_r rfl trivial rfl (rfl)
  · refine Ex.call ?_ rfl rfl
    show Ex _ _ (cod m1_worthOf 0, [some (.inl 8), some (.inr f)], [], τ) _ _
    refine ex_k 5 (P := none) (g := (cod m1_worthOf 5, [some (.inl 8), some (.inr f)], [.inr 3, .inr f, .inl 2, .inr 1], τ)) rfl trivial ?_
    refine ex_c (s_number (τ := τ) (f := f) (w := 3) (Or.inr (Or.inl ⟨rfl, rfl⟩)) (by omega) (by omega)) (is := cod m1_worthOf 6) (L := [some (.inl 8), some (.inr f)]) (st := [.inr 1]) rfl rfl rfl ?_
    show Ex _ _ (cod m1_worthOf 6, [some (.inl 8), some (.inr f)], [.inr (cel (τ 5) (0 + f * 6 + 3)), .inr 1], τ) _ _
    refine ex_k 1 (P := none) (g := (cod m1_worthOf 7, [some (.inl 8), some (.inr f)], [.inr (1 + (cel (τ 5) (0 + f * 6 + 3)))], τ)) rfl trivial ?_
    exact ex_r rfl trivial rfl (rfl)
theorem s_boldness {γ ρ a : Nat} {f : Int} {τ : SZ} (hγ : GA γ ρ a) (hf : 0 ≤ f ∧ f < 9) : RZ 2 m1_boldness [.inl γ, .inr f] τ (.inl (some (.inr (2 * cel (τ a) (0 + f * 6 + 4) + cel (τ a) (0 + f * 6 + 3))), τ)) := by
  rcases hγ with ⟨rfl, rfl, rfl⟩ | ⟨rfl, rfl, rfl⟩
  · refine Ex.call ?_ rfl rfl
    show Ex _ _ (cod m1_boldness 0, [some (.inl 7), some (.inr f)], [], τ) _ _
    refine ex_k 5 (P := none) (g := (cod m1_boldness 5, [some (.inl 7), some (.inr f)], [.inr 4, .inr f, .inl 1, .inr 2], τ)) rfl trivial ?_
    refine ex_c (s_number (τ := τ) (f := f) (w := 4) (Or.inl ⟨rfl, rfl⟩) (by omega) (by omega)) (is := cod m1_boldness 6) (L := [some (.inl 7), some (.inr f)]) (st := [.inr 2]) rfl rfl rfl ?_
    show Ex _ _ (cod m1_boldness 6, [some (.inl 7), some (.inr f)], [.inr (cel (τ 4) (0 + f * 6 + 4)), .inr 2], τ) _ _
    refine ex_k 5 (P := none) (g := (cod m1_boldness 11, [some (.inl 7), some (.inr f)], [.inr 3, .inr f, .inl 1, .inr (2 * (cel (τ 4) (0 + f * 6 + 4)))], τ)) rfl trivial ?_
    refine ex_c (s_number (τ := τ) (f := f) (w := 3) (Or.inl ⟨rfl, rfl⟩) (by omega) (by omega)) (is := cod m1_boldness 12) (L := [some (.inl 7), some (.inr f)]) (st := [.inr (2 * (cel (τ 4) (0 + f * 6 + 4)))]) rfl rfl rfl ?_
    show Ex _ _ (cod m1_boldness 12, [some (.inl 7), some (.inr f)], [.inr (cel (τ 4) (0 + f * 6 + 3)), .inr (2 * (cel (τ 4) (0 + f * 6 + 4)))], τ) _ _
    refine ex_k 1 (P := none) (g := (cod m1_boldness 13, [some (.inl 7), some (.inr f)], [.inr ((2 * (cel (τ 4) (0 + f * 6 + 4))) + (cel (τ 4) (0 + f * 6 + 3)))], τ)) rfl trivial ?_
    exact ex_r rfl trivial rfl (rfl)
  · refine Ex.call ?_ rfl rfl
    show Ex _ _ (cod m1_boldness 0, [some (.inl 8), some (.inr f)], [], τ) _ _
    refine ex_k 5 (P := none) (g := (cod m1_boldness 5, [some (.inl 8), some (.inr f)], [.inr 4, .inr f, .inl 2, .inr 2], τ)) rfl trivial ?_
    refine ex_c (s_number (τ := τ) (f := f) (w := 4) (Or.inr (Or.inl ⟨rfl, rfl⟩)) (by omega) (by omega)) (is := cod m1_boldness 6) (L := [some (.inl 8), some (.inr f)]) (st := [.inr 2]) rfl rfl rfl ?_
    show Ex _ _ (cod m1_boldness 6, [some (.inl 8), some (.inr f)], [.inr (cel (τ 5) (0 + f * 6 + 4)), .inr 2], τ) _ _
    refine ex_k 5 (P := none) (g := (cod m1_boldness 11, [some (.inl 8), some (.inr f)], [.inr 3, .inr f, .inl 2, .inr (2 * (cel (τ 5) (0 + f * 6 + 4)))], τ)) rfl trivial ?_
    refine ex_c (s_number (τ := τ) (f := f) (w := 3) (Or.inr (Or.inl ⟨rfl, rfl⟩)) (by omega) (by omega)) (is := cod m1_boldness 12) (L := [some (.inl 8), some (.inr f)]) (st := [.inr (2 * (cel (τ 5) (0 + f * 6 + 4)))]) rfl rfl rfl ?_
    show Ex _ _ (cod m1_boldness 12, [some (.inl 8), some (.inr f)], [.inr (cel (τ 5) (0 + f * 6 + 3)), .inr (2 * (cel (τ 5) (0 + f * 6 + 4)))], τ) _ _
    refine ex_k 1 (P := none) (g := (cod m1_boldness 13, [some (.inl 8), some (.inr f)], [.inr ((2 * (cel (τ 5) (0 + f * 6 + 4))) + (cel (τ 5) (0 + f * 6 + 3)))], τ)) rfl trivial ?_
    exact ex_r rfl trivial rfl (rfl)
def wcm (c : Nat → Int) (f : Int) : Int := if cel c (0 + f * 6 + 0) = 0 then cel c (0 + f * 6 + 1) + cel c (0 + f * 6 + 2) else 22 - (cel c (0 + f * 6 + 1) + cel c (0 + f * 6 + 2))
theorem s_wayCome {γ ρ a : Nat} {f : Int} {τ : SZ} (hγ : GA γ ρ a) (hf : 0 ≤ f ∧ f < 9) (hB : Bd (τ a)) : RZ 2 m1_wayCome [.inl γ, .inr f] τ (.inl (some (.inr (wcm (τ a) f)), τ)) := by
  have hb1 := cel_bd hB (0 + f * 6 + 0)
  rcases hγ with ⟨rfl, rfl, rfl⟩ | ⟨rfl, rfl, rfl⟩
  · refine Ex.call ?_ rfl rfl
    show Ex _ _ (cod m1_wayCome 0, [some (.inl 7), some (.inr f), none], [], τ) _ _
    refine ex_k 4 (P := none) (g := (cod m1_wayCome 4, [some (.inl 7), some (.inr f), none], [.inr 1, .inr f, .inl 1], τ)) rfl trivial ?_
    refine ex_c (s_number (τ := τ) (f := f) (w := 1) (Or.inl ⟨rfl, rfl⟩) (by omega) (by omega)) (is := cod m1_wayCome 5) (L := [some (.inl 7), some (.inr f), none]) (st := []) rfl rfl rfl ?_
    show Ex _ _ (cod m1_wayCome 5, [some (.inl 7), some (.inr f), none], [.inr (cel (τ 4) (0 + f * 6 + 1))], τ) _ _
    refine ex_k 4 (P := none) (g := (cod m1_wayCome 9, [some (.inl 7), some (.inr f), none], [.inr 2, .inr f, .inl 1, .inr (cel (τ 4) (0 + f * 6 + 1))], τ)) rfl trivial ?_
    refine ex_c (s_number (τ := τ) (f := f) (w := 2) (Or.inl ⟨rfl, rfl⟩) (by omega) (by omega)) (is := cod m1_wayCome 10) (L := [some (.inl 7), some (.inr f), none]) (st := [.inr (cel (τ 4) (0 + f * 6 + 1))]) rfl rfl rfl ?_
    show Ex _ _ (cod m1_wayCome 10, [some (.inl 7), some (.inr f), none], [.inr (cel (τ 4) (0 + f * 6 + 2)), .inr (cel (τ 4) (0 + f * 6 + 1))], τ) _ _
    refine ex_k 6 (P := none) (g := (cod m1_wayCome 16, [some (.inl 7), some (.inr f), some (.inr ((cel (τ 4) (0 + f * 6 + 1)) + (cel (τ 4) (0 + f * 6 + 2))))], [.inr 0, .inr f, .inl 1], τ)) rfl trivial ?_
    refine ex_c (s_number (τ := τ) (f := f) (w := 0) (Or.inl ⟨rfl, rfl⟩) (by omega) (by omega)) (is := cod m1_wayCome 17) (L := [some (.inl 7), some (.inr f), some (.inr ((cel (τ 4) (0 + f * 6 + 1)) + (cel (τ 4) (0 + f * 6 + 2))))]) (st := []) rfl rfl rfl ?_
    show Ex _ _ (cod m1_wayCome 17, [some (.inl 7), some (.inr f), some (.inr ((cel (τ 4) (0 + f * 6 + 1)) + (cel (τ 4) (0 + f * 6 + 2))))], [.inr (cel (τ 4) (0 + f * 6 + 0))], τ) _ _
    refine ex_b (P := ¬ (cel (τ 4) (0 + f * 6 + 0)) = 0) (ct := (cod m1_wayCome 20, [some (.inl 7), some (.inr f), some (.inr ((cel (τ 4) (0 + f * 6 + 1)) + (cel (τ 4) (0 + f * 6 + 2))))], [], τ)) (cf := (cod m1_wayCome 18, [some (.inl 7), some (.inr f), some (.inr ((cel (τ 4) (0 + f * 6 + 1)) + (cel (τ 4) (0 + f * 6 + 2))))], [], τ)) rfl ⟨by omega, by omega⟩ (fun h1 => ?_) (fun h1 => ?_)
    · first
      | (exfalso; omega)
      | (
          refine ex_k 3 (P := none) (g := (cod m1_wayCome 23, [some (.inl 7), some (.inr f), some (.inr ((cel (τ 4) (0 + f * 6 + 1)) + (cel (τ 4) (0 + f * 6 + 2))))], [.inr (22 - ((cel (τ 4) (0 + f * 6 + 1)) + (cel (τ 4) (0 + f * 6 + 2))))], τ)) rfl trivial ?_
          exact ex_r rfl trivial rfl (rI (by unfold wcm; first | rw [if_pos (by omega)] | rw [if_neg (by omega)])))
    · first
      | (exfalso; omega)
      | (
          refine ex_k 2 (P := none) (g := (cod m1_wayCome 23, [some (.inl 7), some (.inr f), some (.inr ((cel (τ 4) (0 + f * 6 + 1)) + (cel (τ 4) (0 + f * 6 + 2))))], [.inr ((cel (τ 4) (0 + f * 6 + 1)) + (cel (τ 4) (0 + f * 6 + 2)))], τ)) rfl trivial ?_
          exact ex_r rfl trivial rfl (rI (by unfold wcm; first | rw [if_pos (by omega)] | rw [if_neg (by omega)])))
  · refine Ex.call ?_ rfl rfl
    show Ex _ _ (cod m1_wayCome 0, [some (.inl 8), some (.inr f), none], [], τ) _ _
    refine ex_k 4 (P := none) (g := (cod m1_wayCome 4, [some (.inl 8), some (.inr f), none], [.inr 1, .inr f, .inl 2], τ)) rfl trivial ?_
    refine ex_c (s_number (τ := τ) (f := f) (w := 1) (Or.inr (Or.inl ⟨rfl, rfl⟩)) (by omega) (by omega)) (is := cod m1_wayCome 5) (L := [some (.inl 8), some (.inr f), none]) (st := []) rfl rfl rfl ?_
    show Ex _ _ (cod m1_wayCome 5, [some (.inl 8), some (.inr f), none], [.inr (cel (τ 5) (0 + f * 6 + 1))], τ) _ _
    refine ex_k 4 (P := none) (g := (cod m1_wayCome 9, [some (.inl 8), some (.inr f), none], [.inr 2, .inr f, .inl 2, .inr (cel (τ 5) (0 + f * 6 + 1))], τ)) rfl trivial ?_
    refine ex_c (s_number (τ := τ) (f := f) (w := 2) (Or.inr (Or.inl ⟨rfl, rfl⟩)) (by omega) (by omega)) (is := cod m1_wayCome 10) (L := [some (.inl 8), some (.inr f), none]) (st := [.inr (cel (τ 5) (0 + f * 6 + 1))]) rfl rfl rfl ?_
    show Ex _ _ (cod m1_wayCome 10, [some (.inl 8), some (.inr f), none], [.inr (cel (τ 5) (0 + f * 6 + 2)), .inr (cel (τ 5) (0 + f * 6 + 1))], τ) _ _
    refine ex_k 6 (P := none) (g := (cod m1_wayCome 16, [some (.inl 8), some (.inr f), some (.inr ((cel (τ 5) (0 + f * 6 + 1)) + (cel (τ 5) (0 + f * 6 + 2))))], [.inr 0, .inr f, .inl 2], τ)) rfl trivial ?_
    refine ex_c (s_number (τ := τ) (f := f) (w := 0) (Or.inr (Or.inl ⟨rfl, rfl⟩)) (by omega) (by omega)) (is := cod m1_wayCome 17) (L := [some (.inl 8), some (.inr f), some (.inr ((cel (τ 5) (0 + f * 6 + 1)) + (cel (τ 5) (0 + f * 6 + 2))))]) (st := []) rfl rfl rfl ?_
    show Ex _ _ (cod m1_wayCome 17, [some (.inl 8), some (.inr f), some (.inr ((cel (τ 5) (0 + f * 6 + 1)) + (cel (τ 5) (0 + f * 6 + 2))))], [.inr (cel (τ 5) (0 + f * 6 + 0))], τ) _ _
    refine ex_b (P := ¬ (cel (τ 5) (0 + f * 6 + 0)) = 0) (ct := (cod m1_wayCome 20, [some (.inl 8), some (.inr f), some (.inr ((cel (τ 5) (0 + f * 6 + 1)) + (cel (τ 5) (0 + f * 6 + 2))))], [], τ)) (cf := (cod m1_wayCome 18, [some (.inl 8), some (.inr f), some (.inr ((cel (τ 5) (0 + f * 6 + 1)) + (cel (τ 5) (0 + f * 6 + 2))))], [], τ)) rfl ⟨by omega, by omega⟩ (fun h1 => ?_) (fun h1 => ?_)
    · first
      | (exfalso; omega)
      | (
          refine ex_k 3 (P := none) (g := (cod m1_wayCome 23, [some (.inl 8), some (.inr f), some (.inr ((cel (τ 5) (0 + f * 6 + 1)) + (cel (τ 5) (0 + f * 6 + 2))))], [.inr (22 - ((cel (τ 5) (0 + f * 6 + 1)) + (cel (τ 5) (0 + f * 6 + 2))))], τ)) rfl trivial ?_
          exact ex_r rfl trivial rfl (rI (by unfold wcm; first | rw [if_pos (by omega)] | rw [if_neg (by omega)])))
    · first
      | (exfalso; omega)
      | (
          refine ex_k 2 (P := none) (g := (cod m1_wayCome 23, [some (.inl 8), some (.inr f), some (.inr ((cel (τ 5) (0 + f * 6 + 1)) + (cel (τ 5) (0 + f * 6 + 2))))], [.inr ((cel (τ 5) (0 + f * 6 + 1)) + (cel (τ 5) (0 + f * 6 + 2)))], τ)) rfl trivial ?_
          exact ex_r rfl trivial rfl (rI (by unfold wcm; first | rw [if_pos (by omega)] | rw [if_neg (by omega)])))
def oco (c : Nat → Int) (f r s : Int) : Int :=
  if ((cel c (0 + f * 6 + (1 + r))) - cel c (96 + r) + 12) % 12 < cel c (98 + r) then 12 else if ¬ ((cel c (0 + f * 6 + 0) = 0 ∧ s = 1) ∨ (¬ cel c (0 + f * 6 + 0) = 0 ∧ s = -1) ∨ cel c (0 + f * 6 + 3) = 1) then 13 else if ¬ (0 ≤ (cel c (0 + f * 6 + (1 + r)) + s) ∧ (cel c (0 + f * 6 + (1 + r)) + s) < 12) then 14 else if whz c r (cel c (0 + f * 6 + (1 + r)) + s) = -1 then 1
  else if ¬ whz c r (cel c (0 + f * 6 + (1 + r)) + s) = 8 ∧ cel c (0 + (whz c r (cel c (0 + f * 6 + (1 + r)) + s)) * 6 + 0) = cel c (0 + f * 6 + 0) then 15 else if ¬ ((0 ≤ (cel c (0 + f * 6 + (1 + r)) + s + s) ∧ (cel c (0 + f * 6 + (1 + r)) + s + s) < 12) ∧ cel c (48 + r * 12 + (cel c (0 + f * 6 + (1 + r)) + s + s)) = -1) then 16 else if whz c r (cel c (0 + f * 6 + (1 + r)) + s) = 8 then 2 else 3
theorem oco_in {c : Nat → Int} {f r s : Int} : (1 ≤ oco c f r s ∧ oco c f r s ≤ 3) ∨ (12 ≤ oco c f r s ∧ oco c f r s ≤ 16) := by
  unfold oco
  repeat (first | omega | split)
theorem s_outcomeOf {γ ρ a : Nat} {f r s : Int} {τ : SZ} (hγ : GA γ ρ a) (hf : 0 ≤ f ∧ f < 8) (hr : 0 ≤ r ∧ r < 2) (hs : s = 1 ∨ s = -1) (hC : Cw (τ a)) : RZ 3 m1_outcomeOf [.inl γ, .inr f, .inr r, .inr s] τ (.inl (some (.inr (oco (τ a) f r s)), τ)) := by
  have hB := hC.1
  have hF := hC.2.1
  have hp := hC.2.2.2 f r hf.1 hf.2 hr.1 hr.2
  have hw := hC.who (p := cel (τ a) (0 + f * 6 + (1 + r)) + s) hr
  have hb1 := cel_bd hB (0 + f * 6 + 0)
  have hb2 := cel_bd hB (0 + whz (τ a) r (cel (τ a) (0 + f * 6 + (1 + r)) + s) * 6 + 0)
  rcases hγ with ⟨rfl, rfl, rfl⟩ | ⟨rfl, rfl, rfl⟩
  · refine Ex.call ?_ rfl rfl
    show Ex _ _ (cod m1_outcomeOf 0, [some (.inl 7), some (.inr f), some (.inr r), some (.inr s), none, none, none], [], τ) _ _
    refine ex_k 6 (P := none) (g := (cod m1_outcomeOf 6, [some (.inl 7), some (.inr f), some (.inr r), some (.inr s), none, none, none], [.inr (1 + r), .inr f, .inl 1], τ)) rfl trivial ?_
    refine ex_c (s_number (τ := τ) (f := f) (w := 1 + r) (Or.inl ⟨rfl, rfl⟩) (by omega) (by omega)) (is := cod m1_outcomeOf 7) (L := [some (.inl 7), some (.inr f), some (.inr r), some (.inr s), none, none, none]) (st := []) rfl rfl rfl ?_
    show Ex _ _ (cod m1_outcomeOf 7, [some (.inl 7), some (.inr f), some (.inr r), some (.inr s), none, none, none], [.inr (cel (τ 4) (0 + f * 6 + (1 + r)))], τ) _ _
    refine ex_k 5 (P := none) (g := (cod m1_outcomeOf 12, [some (.inl 7), some (.inr f), some (.inr r), some (.inr s), some (.inr (cel (τ 4) (0 + f * 6 + (1 + r)))), none, none], [.inr (cel (τ 4) (0 + f * 6 + (1 + r))), .inr r, .inl 1], τ)) rfl trivial ?_
    refine ex_c (s_liesInFog (τ := τ) (r := r) (p := cel (τ 4) (0 + f * 6 + (1 + r))) (Or.inl ⟨rfl, rfl⟩) (by omega) (by omega) hF hB) (is := cod m1_outcomeOf 13) (L := [some (.inl 7), some (.inr f), some (.inr r), some (.inr s), some (.inr (cel (τ 4) (0 + f * 6 + (1 + r)))), none, none]) (st := []) rfl rfl rfl ?_
    show Ex _ _ (cod m1_outcomeOf 13, [some (.inl 7), some (.inr f), some (.inr r), some (.inr s), some (.inr (cel (τ 4) (0 + f * 6 + (1 + r)))), none, none], [.inr (b2 (((cel (τ 4) (0 + f * 6 + (1 + r))) - cel (τ 4) (96 + r) + 12) % 12 < cel (τ 4) (98 + r)))], τ) _ _
    refine ex_b (P := (b2 (((cel (τ 4) (0 + f * 6 + (1 + r))) - cel (τ 4) (96 + r) + 12) % 12 < cel (τ 4) (98 + r))) = 0) (ct := (cod m1_outcomeOf 16, [some (.inl 7), some (.inr f), some (.inr r), some (.inr s), some (.inr (cel (τ 4) (0 + f * 6 + (1 + r)))), none, none], [], τ)) (cf := (cod m1_outcomeOf 14, [some (.inl 7), some (.inr f), some (.inr r), some (.inr s), some (.inr (cel (τ 4) (0 + f * 6 + (1 + r)))), none, none], [], τ)) rfl b2_rng (fun h1 => ?_) (fun h1 => ?_)
    · first
      | (exfalso; have h1 := b2_e0 h1; omega)
      | (
          have h1 := b2_e0 h1
          refine ex_k 3 (P := none) (g := (cod m1_outcomeOf 19, [some (.inl 7), some (.inr f), some (.inr r), some (.inr s), some (.inr (cel (τ 4) (0 + f * 6 + (1 + r)))), none, none], [.inr s, .inr f, .inl 7], τ)) rfl trivial ?_
          refine ex_c (s_goesBy (τ := τ) (f := f) (s := s) (Or.inl ⟨rfl, rfl, rfl⟩) (by omega) (by omega) hB) (is := cod m1_outcomeOf 20) (L := [some (.inl 7), some (.inr f), some (.inr r), some (.inr s), some (.inr (cel (τ 4) (0 + f * 6 + (1 + r)))), none, none]) (st := []) rfl rfl rfl ?_
          show Ex _ _ (cod m1_outcomeOf 20, [some (.inl 7), some (.inr f), some (.inr r), some (.inr s), some (.inr (cel (τ 4) (0 + f * 6 + (1 + r)))), none, none], [.inr (b2 ((cel (τ 4) (0 + f * 6 + 0) = 0 ∧ s = 1) ∨ (¬ cel (τ 4) (0 + f * 6 + 0) = 0 ∧ s = -1) ∨ cel (τ 4) (0 + f * 6 + 3) = 1))], τ) _ _
          refine ex_b (P := ¬ (b2 ((cel (τ 4) (0 + f * 6 + 0) = 0 ∧ s = 1) ∨ (¬ cel (τ 4) (0 + f * 6 + 0) = 0 ∧ s = -1) ∨ cel (τ 4) (0 + f * 6 + 3) = 1)) = 0) (ct := (cod m1_outcomeOf 23, [some (.inl 7), some (.inr f), some (.inr r), some (.inr s), some (.inr (cel (τ 4) (0 + f * 6 + (1 + r)))), none, none], [], τ)) (cf := (cod m1_outcomeOf 21, [some (.inl 7), some (.inr f), some (.inr r), some (.inr s), some (.inr (cel (τ 4) (0 + f * 6 + (1 + r)))), none, none], [], τ)) rfl b2_rng (fun h2 => ?_) (fun h2 => ?_)
          · first
            | (exfalso; have h2 := b2_n0 h2; omega)
            | (
                have h2 := b2_n0 h2
                refine ex_k 5 (P := none) (g := (cod m1_outcomeOf 28, [some (.inl 7), some (.inr f), some (.inr r), some (.inr s), some (.inr (cel (τ 4) (0 + f * 6 + (1 + r)))), some (.inr ((cel (τ 4) (0 + f * 6 + (1 + r))) + s)), none], [.inr ((cel (τ 4) (0 + f * 6 + (1 + r))) + s)], τ)) rfl trivial ?_
                refine ex_c (s_isPlace (τ := τ) (z := (cel (τ 4) (0 + f * 6 + (1 + r))) + s) ⟨by omega, by omega⟩) (is := cod m1_outcomeOf 29) (L := [some (.inl 7), some (.inr f), some (.inr r), some (.inr s), some (.inr (cel (τ 4) (0 + f * 6 + (1 + r)))), some (.inr ((cel (τ 4) (0 + f * 6 + (1 + r))) + s)), none]) (st := []) rfl rfl rfl ?_
                show Ex _ _ (cod m1_outcomeOf 29, [some (.inl 7), some (.inr f), some (.inr r), some (.inr s), some (.inr (cel (τ 4) (0 + f * 6 + (1 + r)))), some (.inr ((cel (τ 4) (0 + f * 6 + (1 + r))) + s)), none], [.inr (b2 (0 ≤ ((cel (τ 4) (0 + f * 6 + (1 + r))) + s) ∧ ((cel (τ 4) (0 + f * 6 + (1 + r))) + s) < 12))], τ) _ _
                refine ex_b (P := ¬ (b2 (0 ≤ ((cel (τ 4) (0 + f * 6 + (1 + r))) + s) ∧ ((cel (τ 4) (0 + f * 6 + (1 + r))) + s) < 12)) = 0) (ct := (cod m1_outcomeOf 32, [some (.inl 7), some (.inr f), some (.inr r), some (.inr s), some (.inr (cel (τ 4) (0 + f * 6 + (1 + r)))), some (.inr ((cel (τ 4) (0 + f * 6 + (1 + r))) + s)), none], [], τ)) (cf := (cod m1_outcomeOf 30, [some (.inl 7), some (.inr f), some (.inr r), some (.inr s), some (.inr (cel (τ 4) (0 + f * 6 + (1 + r)))), some (.inr ((cel (τ 4) (0 + f * 6 + (1 + r))) + s)), none], [], τ)) rfl b2_rng (fun h3 => ?_) (fun h3 => ?_)
                · first
                  | (exfalso; have h3 := b2_n0 h3; omega)
                  | (
                      have h3 := b2_n0 h3
                      refine ex_k 4 (P := none) (g := (cod m1_outcomeOf 36, [some (.inl 7), some (.inr f), some (.inr r), some (.inr s), some (.inr (cel (τ 4) (0 + f * 6 + (1 + r)))), some (.inr ((cel (τ 4) (0 + f * 6 + (1 + r))) + s)), none], [.inr ((cel (τ 4) (0 + f * 6 + (1 + r))) + s), .inr r, .inl 1], τ)) rfl trivial ?_
                      refine ex_c (s_whoIsAt (τ := τ) (r := r) (p := (cel (τ 4) (0 + f * 6 + (1 + r))) + s) (Or.inl ⟨rfl, rfl⟩) (by omega) ⟨by omega, by omega⟩) (is := cod m1_outcomeOf 37) (L := [some (.inl 7), some (.inr f), some (.inr r), some (.inr s), some (.inr (cel (τ 4) (0 + f * 6 + (1 + r)))), some (.inr ((cel (τ 4) (0 + f * 6 + (1 + r))) + s)), none]) (st := []) rfl rfl rfl ?_
                      show Ex _ _ (cod m1_outcomeOf 37, [some (.inl 7), some (.inr f), some (.inr r), some (.inr s), some (.inr (cel (τ 4) (0 + f * 6 + (1 + r)))), some (.inr ((cel (τ 4) (0 + f * 6 + (1 + r))) + s)), none], [.inr (whz (τ 4) r ((cel (τ 4) (0 + f * 6 + (1 + r))) + s))], τ) _ _
                      refine ex_k 3 (P := none) (g := (cod m1_outcomeOf 40, [some (.inl 7), some (.inr f), some (.inr r), some (.inr s), some (.inr (cel (τ 4) (0 + f * 6 + (1 + r)))), some (.inr ((cel (τ 4) (0 + f * 6 + (1 + r))) + s)), some (.inr (whz (τ 4) r ((cel (τ 4) (0 + f * 6 + (1 + r))) + s)))], [.inr (-1), .inr (whz (τ 4) r ((cel (τ 4) (0 + f * 6 + (1 + r))) + s))], τ)) rfl trivial ?_
                      refine ex_b (P := ¬ (whz (τ 4) r ((cel (τ 4) (0 + f * 6 + (1 + r))) + s)) = (-1)) (ct := (cod m1_outcomeOf 43, [some (.inl 7), some (.inr f), some (.inr r), some (.inr s), some (.inr (cel (τ 4) (0 + f * 6 + (1 + r)))), some (.inr ((cel (τ 4) (0 + f * 6 + (1 + r))) + s)), some (.inr (whz (τ 4) r ((cel (τ 4) (0 + f * 6 + (1 + r))) + s)))], [], τ)) (cf := (cod m1_outcomeOf 41, [some (.inl 7), some (.inr f), some (.inr r), some (.inr s), some (.inr (cel (τ 4) (0 + f * 6 + (1 + r)))), some (.inr ((cel (τ 4) (0 + f * 6 + (1 + r))) + s)), some (.inr (whz (τ 4) r ((cel (τ 4) (0 + f * 6 + (1 + r))) + s)))], [], τ)) rfl ⟨⟨by omega, by omega⟩, ⟨by decide, by decide⟩⟩ (fun h4 => ?_) (fun h4 => ?_)
                      · first
                        | (exfalso; omega)
                        | (
                            refine ex_k 2 (P := none) (g := (cod m1_outcomeOf 45, [some (.inl 7), some (.inr f), some (.inr r), some (.inr s), some (.inr (cel (τ 4) (0 + f * 6 + (1 + r)))), some (.inr ((cel (τ 4) (0 + f * 6 + (1 + r))) + s)), some (.inr (whz (τ 4) r ((cel (τ 4) (0 + f * 6 + (1 + r))) + s)))], [.inr 8, .inr (whz (τ 4) r ((cel (τ 4) (0 + f * 6 + (1 + r))) + s))], τ)) rfl trivial ?_
                            refine ex_b (P := (whz (τ 4) r ((cel (τ 4) (0 + f * 6 + (1 + r))) + s)) = 8) (ct := (cod m1_outcomeOf 59, [some (.inl 7), some (.inr f), some (.inr r), some (.inr s), some (.inr (cel (τ 4) (0 + f * 6 + (1 + r)))), some (.inr ((cel (τ 4) (0 + f * 6 + (1 + r))) + s)), some (.inr (whz (τ 4) r ((cel (τ 4) (0 + f * 6 + (1 + r))) + s)))], [], τ)) (cf := (cod m1_outcomeOf 46, [some (.inl 7), some (.inr f), some (.inr r), some (.inr s), some (.inr (cel (τ 4) (0 + f * 6 + (1 + r)))), some (.inr ((cel (τ 4) (0 + f * 6 + (1 + r))) + s)), some (.inr (whz (τ 4) r ((cel (τ 4) (0 + f * 6 + (1 + r))) + s)))], [], τ)) rfl ⟨⟨by omega, by omega⟩, ⟨by decide, by decide⟩⟩ (fun h5 => ?_) (fun h5 => ?_)
                            · first
                              | (exfalso; omega)
                              | (
                                  refine ex_k 6 (P := none) (g := (cod m1_outcomeOf 65, [some (.inl 7), some (.inr f), some (.inr r), some (.inr s), some (.inr (cel (τ 4) (0 + f * 6 + (1 + r)))), some (.inr ((cel (τ 4) (0 + f * 6 + (1 + r))) + s)), some (.inr (whz (τ 4) r ((cel (τ 4) (0 + f * 6 + (1 + r))) + s)))], [.inr (((cel (τ 4) (0 + f * 6 + (1 + r))) + s) + s), .inr r, .inl 1], τ)) rfl trivial ?_
                                  refine ex_c (s_isFree (τ := τ) (r := r) (p := ((cel (τ 4) (0 + f * 6 + (1 + r))) + s) + s) (Or.inl ⟨rfl, rfl⟩) (by omega) ⟨by omega, by omega⟩ hB) (is := cod m1_outcomeOf 66) (L := [some (.inl 7), some (.inr f), some (.inr r), some (.inr s), some (.inr (cel (τ 4) (0 + f * 6 + (1 + r)))), some (.inr ((cel (τ 4) (0 + f * 6 + (1 + r))) + s)), some (.inr (whz (τ 4) r ((cel (τ 4) (0 + f * 6 + (1 + r))) + s)))]) (st := []) rfl rfl rfl ?_
                                  show Ex _ _ (cod m1_outcomeOf 66, [some (.inl 7), some (.inr f), some (.inr r), some (.inr s), some (.inr (cel (τ 4) (0 + f * 6 + (1 + r)))), some (.inr ((cel (τ 4) (0 + f * 6 + (1 + r))) + s)), some (.inr (whz (τ 4) r ((cel (τ 4) (0 + f * 6 + (1 + r))) + s)))], [.inr (b2 ((0 ≤ (((cel (τ 4) (0 + f * 6 + (1 + r))) + s) + s) ∧ (((cel (τ 4) (0 + f * 6 + (1 + r))) + s) + s) < 12) ∧ cel (τ 4) (48 + r * 12 + (((cel (τ 4) (0 + f * 6 + (1 + r))) + s) + s)) = -1))], τ) _ _
                                  refine ex_b (P := ¬ (b2 ((0 ≤ (((cel (τ 4) (0 + f * 6 + (1 + r))) + s) + s) ∧ (((cel (τ 4) (0 + f * 6 + (1 + r))) + s) + s) < 12) ∧ cel (τ 4) (48 + r * 12 + (((cel (τ 4) (0 + f * 6 + (1 + r))) + s) + s)) = -1)) = 0) (ct := (cod m1_outcomeOf 69, [some (.inl 7), some (.inr f), some (.inr r), some (.inr s), some (.inr (cel (τ 4) (0 + f * 6 + (1 + r)))), some (.inr ((cel (τ 4) (0 + f * 6 + (1 + r))) + s)), some (.inr (whz (τ 4) r ((cel (τ 4) (0 + f * 6 + (1 + r))) + s)))], [], τ)) (cf := (cod m1_outcomeOf 67, [some (.inl 7), some (.inr f), some (.inr r), some (.inr s), some (.inr (cel (τ 4) (0 + f * 6 + (1 + r)))), some (.inr ((cel (τ 4) (0 + f * 6 + (1 + r))) + s)), some (.inr (whz (τ 4) r ((cel (τ 4) (0 + f * 6 + (1 + r))) + s)))], [], τ)) rfl b2_rng (fun h6 => ?_) (fun h6 => ?_)
                                  · first
                                    | (exfalso; have h6 := b2_n0 h6; omega)
                                    | (
                                        have h6 := b2_n0 h6
                                        refine ex_k 2 (P := none) (g := (cod m1_outcomeOf 71, [some (.inl 7), some (.inr f), some (.inr r), some (.inr s), some (.inr (cel (τ 4) (0 + f * 6 + (1 + r)))), some (.inr ((cel (τ 4) (0 + f * 6 + (1 + r))) + s)), some (.inr (whz (τ 4) r ((cel (τ 4) (0 + f * 6 + (1 + r))) + s)))], [.inr 8, .inr (whz (τ 4) r ((cel (τ 4) (0 + f * 6 + (1 + r))) + s))], τ)) rfl trivial ?_
                                        refine ex_b (P := ¬ (whz (τ 4) r ((cel (τ 4) (0 + f * 6 + (1 + r))) + s)) = 8) (ct := (cod m1_outcomeOf 74, [some (.inl 7), some (.inr f), some (.inr r), some (.inr s), some (.inr (cel (τ 4) (0 + f * 6 + (1 + r)))), some (.inr ((cel (τ 4) (0 + f * 6 + (1 + r))) + s)), some (.inr (whz (τ 4) r ((cel (τ 4) (0 + f * 6 + (1 + r))) + s)))], [], τ)) (cf := (cod m1_outcomeOf 72, [some (.inl 7), some (.inr f), some (.inr r), some (.inr s), some (.inr (cel (τ 4) (0 + f * 6 + (1 + r)))), some (.inr ((cel (τ 4) (0 + f * 6 + (1 + r))) + s)), some (.inr (whz (τ 4) r ((cel (τ 4) (0 + f * 6 + (1 + r))) + s)))], [], τ)) rfl ⟨⟨by omega, by omega⟩, ⟨by decide, by decide⟩⟩ (fun h7 => ?_) (fun h7 => ?_)
                                        · first
                                          | (exfalso; omega)
                                          | (
                                              refine ex_k 1 (P := none) (g := (cod m1_outcomeOf 75, [some (.inl 7), some (.inr f), some (.inr r), some (.inr s), some (.inr (cel (τ 4) (0 + f * 6 + (1 + r)))), some (.inr ((cel (τ 4) (0 + f * 6 + (1 + r))) + s)), some (.inr (whz (τ 4) r ((cel (τ 4) (0 + f * 6 + (1 + r))) + s)))], [.inr 3], τ)) rfl trivial ?_
                                              exact ex_r rfl trivial rfl (rI (by unfold oco; (repeat (first | rw [if_pos (by omega)] | rw [if_neg (by omega)])); first | done | rfl)))
                                        · first
                                          | (exfalso; omega)
                                          | (
                                              refine ex_k 2 (P := none) (g := (cod m1_outcomeOf 75, [some (.inl 7), some (.inr f), some (.inr r), some (.inr s), some (.inr (cel (τ 4) (0 + f * 6 + (1 + r)))), some (.inr ((cel (τ 4) (0 + f * 6 + (1 + r))) + s)), some (.inr (whz (τ 4) r ((cel (τ 4) (0 + f * 6 + (1 + r))) + s)))], [.inr 2], τ)) rfl trivial ?_
                                              exact ex_r rfl trivial rfl (rI (by unfold oco; (repeat (first | rw [if_pos (by omega)] | rw [if_neg (by omega)])); first | done | rfl))))
                                  · first
                                    | (exfalso; have h6 := b2_nn0 h6; omega)
                                    | (
                                        have h6 := b2_nn0 h6
                                        refine ex_k 1 (P := none) (g := (cod m1_outcomeOf 68, [some (.inl 7), some (.inr f), some (.inr r), some (.inr s), some (.inr (cel (τ 4) (0 + f * 6 + (1 + r)))), some (.inr ((cel (τ 4) (0 + f * 6 + (1 + r))) + s)), some (.inr (whz (τ 4) r ((cel (τ 4) (0 + f * 6 + (1 + r))) + s)))], [.inr 16], τ)) rfl trivial ?_
                                        exact ex_r rfl trivial rfl (rI (by unfold oco; (repeat (first | rw [if_pos (by omega)] | rw [if_neg (by omega)])); first | done | rfl))))
                            · first
                              | (exfalso; omega)
                              | (
                                  refine ex_k 4 (P := none) (g := (cod m1_outcomeOf 50, [some (.inl 7), some (.inr f), some (.inr r), some (.inr s), some (.inr (cel (τ 4) (0 + f * 6 + (1 + r)))), some (.inr ((cel (τ 4) (0 + f * 6 + (1 + r))) + s)), some (.inr (whz (τ 4) r ((cel (τ 4) (0 + f * 6 + (1 + r))) + s)))], [.inr 0, .inr (whz (τ 4) r ((cel (τ 4) (0 + f * 6 + (1 + r))) + s)), .inl 1], τ)) rfl trivial ?_
                                  refine ex_c (s_number (τ := τ) (f := whz (τ 4) r ((cel (τ 4) (0 + f * 6 + (1 + r))) + s)) (w := 0) (Or.inl ⟨rfl, rfl⟩) (by omega) (by omega)) (is := cod m1_outcomeOf 51) (L := [some (.inl 7), some (.inr f), some (.inr r), some (.inr s), some (.inr (cel (τ 4) (0 + f * 6 + (1 + r)))), some (.inr ((cel (τ 4) (0 + f * 6 + (1 + r))) + s)), some (.inr (whz (τ 4) r ((cel (τ 4) (0 + f * 6 + (1 + r))) + s)))]) (st := []) rfl rfl rfl ?_
                                  show Ex _ _ (cod m1_outcomeOf 51, [some (.inl 7), some (.inr f), some (.inr r), some (.inr s), some (.inr (cel (τ 4) (0 + f * 6 + (1 + r)))), some (.inr ((cel (τ 4) (0 + f * 6 + (1 + r))) + s)), some (.inr (whz (τ 4) r ((cel (τ 4) (0 + f * 6 + (1 + r))) + s)))], [.inr (cel (τ 4) (0 + (whz (τ 4) r ((cel (τ 4) (0 + f * 6 + (1 + r))) + s)) * 6 + 0))], τ) _ _
                                  refine ex_k 4 (P := none) (g := (cod m1_outcomeOf 55, [some (.inl 7), some (.inr f), some (.inr r), some (.inr s), some (.inr (cel (τ 4) (0 + f * 6 + (1 + r)))), some (.inr ((cel (τ 4) (0 + f * 6 + (1 + r))) + s)), some (.inr (whz (τ 4) r ((cel (τ 4) (0 + f * 6 + (1 + r))) + s)))], [.inr 0, .inr f, .inl 1, .inr (cel (τ 4) (0 + (whz (τ 4) r ((cel (τ 4) (0 + f * 6 + (1 + r))) + s)) * 6 + 0))], τ)) rfl trivial ?_
                                  refine ex_c (s_number (τ := τ) (f := f) (w := 0) (Or.inl ⟨rfl, rfl⟩) (by omega) (by omega)) (is := cod m1_outcomeOf 56) (L := [some (.inl 7), some (.inr f), some (.inr r), some (.inr s), some (.inr (cel (τ 4) (0 + f * 6 + (1 + r)))), some (.inr ((cel (τ 4) (0 + f * 6 + (1 + r))) + s)), some (.inr (whz (τ 4) r ((cel (τ 4) (0 + f * 6 + (1 + r))) + s)))]) (st := [.inr (cel (τ 4) (0 + (whz (τ 4) r ((cel (τ 4) (0 + f * 6 + (1 + r))) + s)) * 6 + 0))]) rfl rfl rfl ?_
                                  show Ex _ _ (cod m1_outcomeOf 56, [some (.inl 7), some (.inr f), some (.inr r), some (.inr s), some (.inr (cel (τ 4) (0 + f * 6 + (1 + r)))), some (.inr ((cel (τ 4) (0 + f * 6 + (1 + r))) + s)), some (.inr (whz (τ 4) r ((cel (τ 4) (0 + f * 6 + (1 + r))) + s)))], [.inr (cel (τ 4) (0 + f * 6 + 0)), .inr (cel (τ 4) (0 + (whz (τ 4) r ((cel (τ 4) (0 + f * 6 + (1 + r))) + s)) * 6 + 0))], τ) _ _
                                  refine ex_b (P := ¬ (cel (τ 4) (0 + (whz (τ 4) r ((cel (τ 4) (0 + f * 6 + (1 + r))) + s)) * 6 + 0)) = (cel (τ 4) (0 + f * 6 + 0))) (ct := (cod m1_outcomeOf 59, [some (.inl 7), some (.inr f), some (.inr r), some (.inr s), some (.inr (cel (τ 4) (0 + f * 6 + (1 + r)))), some (.inr ((cel (τ 4) (0 + f * 6 + (1 + r))) + s)), some (.inr (whz (τ 4) r ((cel (τ 4) (0 + f * 6 + (1 + r))) + s)))], [], τ)) (cf := (cod m1_outcomeOf 57, [some (.inl 7), some (.inr f), some (.inr r), some (.inr s), some (.inr (cel (τ 4) (0 + f * 6 + (1 + r)))), some (.inr ((cel (τ 4) (0 + f * 6 + (1 + r))) + s)), some (.inr (whz (τ 4) r ((cel (τ 4) (0 + f * 6 + (1 + r))) + s)))], [], τ)) rfl ⟨⟨by omega, by omega⟩, ⟨by omega, by omega⟩⟩ (fun h8 => ?_) (fun h8 => ?_)
                                  · first
                                    | (exfalso; omega)
                                    | (
                                        refine ex_k 6 (P := none) (g := (cod m1_outcomeOf 65, [some (.inl 7), some (.inr f), some (.inr r), some (.inr s), some (.inr (cel (τ 4) (0 + f * 6 + (1 + r)))), some (.inr ((cel (τ 4) (0 + f * 6 + (1 + r))) + s)), some (.inr (whz (τ 4) r ((cel (τ 4) (0 + f * 6 + (1 + r))) + s)))], [.inr (((cel (τ 4) (0 + f * 6 + (1 + r))) + s) + s), .inr r, .inl 1], τ)) rfl trivial ?_
                                        refine ex_c (s_isFree (τ := τ) (r := r) (p := ((cel (τ 4) (0 + f * 6 + (1 + r))) + s) + s) (Or.inl ⟨rfl, rfl⟩) (by omega) ⟨by omega, by omega⟩ hB) (is := cod m1_outcomeOf 66) (L := [some (.inl 7), some (.inr f), some (.inr r), some (.inr s), some (.inr (cel (τ 4) (0 + f * 6 + (1 + r)))), some (.inr ((cel (τ 4) (0 + f * 6 + (1 + r))) + s)), some (.inr (whz (τ 4) r ((cel (τ 4) (0 + f * 6 + (1 + r))) + s)))]) (st := []) rfl rfl rfl ?_
                                        show Ex _ _ (cod m1_outcomeOf 66, [some (.inl 7), some (.inr f), some (.inr r), some (.inr s), some (.inr (cel (τ 4) (0 + f * 6 + (1 + r)))), some (.inr ((cel (τ 4) (0 + f * 6 + (1 + r))) + s)), some (.inr (whz (τ 4) r ((cel (τ 4) (0 + f * 6 + (1 + r))) + s)))], [.inr (b2 ((0 ≤ (((cel (τ 4) (0 + f * 6 + (1 + r))) + s) + s) ∧ (((cel (τ 4) (0 + f * 6 + (1 + r))) + s) + s) < 12) ∧ cel (τ 4) (48 + r * 12 + (((cel (τ 4) (0 + f * 6 + (1 + r))) + s) + s)) = -1))], τ) _ _
                                        refine ex_b (P := ¬ (b2 ((0 ≤ (((cel (τ 4) (0 + f * 6 + (1 + r))) + s) + s) ∧ (((cel (τ 4) (0 + f * 6 + (1 + r))) + s) + s) < 12) ∧ cel (τ 4) (48 + r * 12 + (((cel (τ 4) (0 + f * 6 + (1 + r))) + s) + s)) = -1)) = 0) (ct := (cod m1_outcomeOf 69, [some (.inl 7), some (.inr f), some (.inr r), some (.inr s), some (.inr (cel (τ 4) (0 + f * 6 + (1 + r)))), some (.inr ((cel (τ 4) (0 + f * 6 + (1 + r))) + s)), some (.inr (whz (τ 4) r ((cel (τ 4) (0 + f * 6 + (1 + r))) + s)))], [], τ)) (cf := (cod m1_outcomeOf 67, [some (.inl 7), some (.inr f), some (.inr r), some (.inr s), some (.inr (cel (τ 4) (0 + f * 6 + (1 + r)))), some (.inr ((cel (τ 4) (0 + f * 6 + (1 + r))) + s)), some (.inr (whz (τ 4) r ((cel (τ 4) (0 + f * 6 + (1 + r))) + s)))], [], τ)) rfl b2_rng (fun h9 => ?_) (fun h9 => ?_)
                                        · first
                                          | (exfalso; have h9 := b2_n0 h9; omega)
                                          | (
                                              have h9 := b2_n0 h9
                                              refine ex_k 2 (P := none) (g := (cod m1_outcomeOf 71, [some (.inl 7), some (.inr f), some (.inr r), some (.inr s), some (.inr (cel (τ 4) (0 + f * 6 + (1 + r)))), some (.inr ((cel (τ 4) (0 + f * 6 + (1 + r))) + s)), some (.inr (whz (τ 4) r ((cel (τ 4) (0 + f * 6 + (1 + r))) + s)))], [.inr 8, .inr (whz (τ 4) r ((cel (τ 4) (0 + f * 6 + (1 + r))) + s))], τ)) rfl trivial ?_
                                              refine ex_b (P := ¬ (whz (τ 4) r ((cel (τ 4) (0 + f * 6 + (1 + r))) + s)) = 8) (ct := (cod m1_outcomeOf 74, [some (.inl 7), some (.inr f), some (.inr r), some (.inr s), some (.inr (cel (τ 4) (0 + f * 6 + (1 + r)))), some (.inr ((cel (τ 4) (0 + f * 6 + (1 + r))) + s)), some (.inr (whz (τ 4) r ((cel (τ 4) (0 + f * 6 + (1 + r))) + s)))], [], τ)) (cf := (cod m1_outcomeOf 72, [some (.inl 7), some (.inr f), some (.inr r), some (.inr s), some (.inr (cel (τ 4) (0 + f * 6 + (1 + r)))), some (.inr ((cel (τ 4) (0 + f * 6 + (1 + r))) + s)), some (.inr (whz (τ 4) r ((cel (τ 4) (0 + f * 6 + (1 + r))) + s)))], [], τ)) rfl ⟨⟨by omega, by omega⟩, ⟨by decide, by decide⟩⟩ (fun h10 => ?_) (fun h10 => ?_)
                                              · first
                                                | (exfalso; omega)
                                                | (
                                                    refine ex_k 1 (P := none) (g := (cod m1_outcomeOf 75, [some (.inl 7), some (.inr f), some (.inr r), some (.inr s), some (.inr (cel (τ 4) (0 + f * 6 + (1 + r)))), some (.inr ((cel (τ 4) (0 + f * 6 + (1 + r))) + s)), some (.inr (whz (τ 4) r ((cel (τ 4) (0 + f * 6 + (1 + r))) + s)))], [.inr 3], τ)) rfl trivial ?_
                                                    exact ex_r rfl trivial rfl (rI (by unfold oco; (repeat (first | rw [if_pos (by omega)] | rw [if_neg (by omega)])); first | done | rfl)))
                                              · first
                                                | (exfalso; omega)
                                                | (
                                                    refine ex_k 2 (P := none) (g := (cod m1_outcomeOf 75, [some (.inl 7), some (.inr f), some (.inr r), some (.inr s), some (.inr (cel (τ 4) (0 + f * 6 + (1 + r)))), some (.inr ((cel (τ 4) (0 + f * 6 + (1 + r))) + s)), some (.inr (whz (τ 4) r ((cel (τ 4) (0 + f * 6 + (1 + r))) + s)))], [.inr 2], τ)) rfl trivial ?_
                                                    exact ex_r rfl trivial rfl (rI (by unfold oco; (repeat (first | rw [if_pos (by omega)] | rw [if_neg (by omega)])); first | done | rfl))))
                                        · first
                                          | (exfalso; have h9 := b2_nn0 h9; omega)
                                          | (
                                              have h9 := b2_nn0 h9
                                              refine ex_k 1 (P := none) (g := (cod m1_outcomeOf 68, [some (.inl 7), some (.inr f), some (.inr r), some (.inr s), some (.inr (cel (τ 4) (0 + f * 6 + (1 + r)))), some (.inr ((cel (τ 4) (0 + f * 6 + (1 + r))) + s)), some (.inr (whz (τ 4) r ((cel (τ 4) (0 + f * 6 + (1 + r))) + s)))], [.inr 16], τ)) rfl trivial ?_
                                              exact ex_r rfl trivial rfl (rI (by unfold oco; (repeat (first | rw [if_pos (by omega)] | rw [if_neg (by omega)])); first | done | rfl))))
                                  · first
                                    | (exfalso; omega)
                                    | (
                                        refine ex_k 1 (P := none) (g := (cod m1_outcomeOf 58, [some (.inl 7), some (.inr f), some (.inr r), some (.inr s), some (.inr (cel (τ 4) (0 + f * 6 + (1 + r)))), some (.inr ((cel (τ 4) (0 + f * 6 + (1 + r))) + s)), some (.inr (whz (τ 4) r ((cel (τ 4) (0 + f * 6 + (1 + r))) + s)))], [.inr 15], τ)) rfl trivial ?_
                                        exact ex_r rfl trivial rfl (rI (by unfold oco; (repeat (first | rw [if_pos (by omega)] | rw [if_neg (by omega)])); first | done | rfl)))))
                      · first
                        | (exfalso; omega)
                        | (
                            refine ex_k 1 (P := none) (g := (cod m1_outcomeOf 42, [some (.inl 7), some (.inr f), some (.inr r), some (.inr s), some (.inr (cel (τ 4) (0 + f * 6 + (1 + r)))), some (.inr ((cel (τ 4) (0 + f * 6 + (1 + r))) + s)), some (.inr (whz (τ 4) r ((cel (τ 4) (0 + f * 6 + (1 + r))) + s)))], [.inr 1], τ)) rfl trivial ?_
                            exact ex_r rfl trivial rfl (rI (by unfold oco; (repeat (first | rw [if_pos (by omega)] | rw [if_neg (by omega)])); first | done | rfl))))
                · first
                  | (exfalso; have h3 := b2_nn0 h3; omega)
                  | (
                      have h3 := b2_nn0 h3
                      refine ex_k 1 (P := none) (g := (cod m1_outcomeOf 31, [some (.inl 7), some (.inr f), some (.inr r), some (.inr s), some (.inr (cel (τ 4) (0 + f * 6 + (1 + r)))), some (.inr ((cel (τ 4) (0 + f * 6 + (1 + r))) + s)), none], [.inr 14], τ)) rfl trivial ?_
                      exact ex_r rfl trivial rfl (rI (by unfold oco; (repeat (first | rw [if_pos (by omega)] | rw [if_neg (by omega)])); first | done | rfl))))
          · first
            | (exfalso; have h2 := b2_nn0 h2; omega)
            | (
                have h2 := b2_nn0 h2
                refine ex_k 1 (P := none) (g := (cod m1_outcomeOf 22, [some (.inl 7), some (.inr f), some (.inr r), some (.inr s), some (.inr (cel (τ 4) (0 + f * 6 + (1 + r)))), none, none], [.inr 13], τ)) rfl trivial ?_
                exact ex_r rfl trivial rfl (rI (by unfold oco; (repeat (first | rw [if_pos (by omega)] | rw [if_neg (by omega)])); first | done | rfl))))
    · first
      | (exfalso; have h1 := b2_n0 h1; omega)
      | (
          have h1 := b2_n0 h1
          refine ex_k 1 (P := none) (g := (cod m1_outcomeOf 15, [some (.inl 7), some (.inr f), some (.inr r), some (.inr s), some (.inr (cel (τ 4) (0 + f * 6 + (1 + r)))), none, none], [.inr 12], τ)) rfl trivial ?_
          exact ex_r rfl trivial rfl (rI (by unfold oco; (repeat (first | rw [if_pos (by omega)] | rw [if_neg (by omega)])); first | done | rfl)))
  · refine Ex.call ?_ rfl rfl
    show Ex _ _ (cod m1_outcomeOf 0, [some (.inl 8), some (.inr f), some (.inr r), some (.inr s), none, none, none], [], τ) _ _
    refine ex_k 6 (P := none) (g := (cod m1_outcomeOf 6, [some (.inl 8), some (.inr f), some (.inr r), some (.inr s), none, none, none], [.inr (1 + r), .inr f, .inl 2], τ)) rfl trivial ?_
    refine ex_c (s_number (τ := τ) (f := f) (w := 1 + r) (Or.inr (Or.inl ⟨rfl, rfl⟩)) (by omega) (by omega)) (is := cod m1_outcomeOf 7) (L := [some (.inl 8), some (.inr f), some (.inr r), some (.inr s), none, none, none]) (st := []) rfl rfl rfl ?_
    show Ex _ _ (cod m1_outcomeOf 7, [some (.inl 8), some (.inr f), some (.inr r), some (.inr s), none, none, none], [.inr (cel (τ 5) (0 + f * 6 + (1 + r)))], τ) _ _
    refine ex_k 5 (P := none) (g := (cod m1_outcomeOf 12, [some (.inl 8), some (.inr f), some (.inr r), some (.inr s), some (.inr (cel (τ 5) (0 + f * 6 + (1 + r)))), none, none], [.inr (cel (τ 5) (0 + f * 6 + (1 + r))), .inr r, .inl 2], τ)) rfl trivial ?_
    refine ex_c (s_liesInFog (τ := τ) (r := r) (p := cel (τ 5) (0 + f * 6 + (1 + r))) (Or.inr (Or.inl ⟨rfl, rfl⟩)) (by omega) (by omega) hF hB) (is := cod m1_outcomeOf 13) (L := [some (.inl 8), some (.inr f), some (.inr r), some (.inr s), some (.inr (cel (τ 5) (0 + f * 6 + (1 + r)))), none, none]) (st := []) rfl rfl rfl ?_
    show Ex _ _ (cod m1_outcomeOf 13, [some (.inl 8), some (.inr f), some (.inr r), some (.inr s), some (.inr (cel (τ 5) (0 + f * 6 + (1 + r)))), none, none], [.inr (b2 (((cel (τ 5) (0 + f * 6 + (1 + r))) - cel (τ 5) (96 + r) + 12) % 12 < cel (τ 5) (98 + r)))], τ) _ _
    refine ex_b (P := (b2 (((cel (τ 5) (0 + f * 6 + (1 + r))) - cel (τ 5) (96 + r) + 12) % 12 < cel (τ 5) (98 + r))) = 0) (ct := (cod m1_outcomeOf 16, [some (.inl 8), some (.inr f), some (.inr r), some (.inr s), some (.inr (cel (τ 5) (0 + f * 6 + (1 + r)))), none, none], [], τ)) (cf := (cod m1_outcomeOf 14, [some (.inl 8), some (.inr f), some (.inr r), some (.inr s), some (.inr (cel (τ 5) (0 + f * 6 + (1 + r)))), none, none], [], τ)) rfl b2_rng (fun h1 => ?_) (fun h1 => ?_)
    · first
      | (exfalso; have h1 := b2_e0 h1; omega)
      | (
          have h1 := b2_e0 h1
          refine ex_k 3 (P := none) (g := (cod m1_outcomeOf 19, [some (.inl 8), some (.inr f), some (.inr r), some (.inr s), some (.inr (cel (τ 5) (0 + f * 6 + (1 + r)))), none, none], [.inr s, .inr f, .inl 8], τ)) rfl trivial ?_
          refine ex_c (s_goesBy (τ := τ) (f := f) (s := s) (Or.inr ⟨rfl, rfl, rfl⟩) (by omega) (by omega) hB) (is := cod m1_outcomeOf 20) (L := [some (.inl 8), some (.inr f), some (.inr r), some (.inr s), some (.inr (cel (τ 5) (0 + f * 6 + (1 + r)))), none, none]) (st := []) rfl rfl rfl ?_
          show Ex _ _ (cod m1_outcomeOf 20, [some (.inl 8), some (.inr f), some (.inr r), some (.inr s), some (.inr (cel (τ 5) (0 + f * 6 + (1 + r)))), none, none], [.inr (b2 ((cel (τ 5) (0 + f * 6 + 0) = 0 ∧ s = 1) ∨ (¬ cel (τ 5) (0 + f * 6 + 0) = 0 ∧ s = -1) ∨ cel (τ 5) (0 + f * 6 + 3) = 1))], τ) _ _
          refine ex_b (P := ¬ (b2 ((cel (τ 5) (0 + f * 6 + 0) = 0 ∧ s = 1) ∨ (¬ cel (τ 5) (0 + f * 6 + 0) = 0 ∧ s = -1) ∨ cel (τ 5) (0 + f * 6 + 3) = 1)) = 0) (ct := (cod m1_outcomeOf 23, [some (.inl 8), some (.inr f), some (.inr r), some (.inr s), some (.inr (cel (τ 5) (0 + f * 6 + (1 + r)))), none, none], [], τ)) (cf := (cod m1_outcomeOf 21, [some (.inl 8), some (.inr f), some (.inr r), some (.inr s), some (.inr (cel (τ 5) (0 + f * 6 + (1 + r)))), none, none], [], τ)) rfl b2_rng (fun h2 => ?_) (fun h2 => ?_)
          · first
            | (exfalso; have h2 := b2_n0 h2; omega)
            | (
                have h2 := b2_n0 h2
                refine ex_k 5 (P := none) (g := (cod m1_outcomeOf 28, [some (.inl 8), some (.inr f), some (.inr r), some (.inr s), some (.inr (cel (τ 5) (0 + f * 6 + (1 + r)))), some (.inr ((cel (τ 5) (0 + f * 6 + (1 + r))) + s)), none], [.inr ((cel (τ 5) (0 + f * 6 + (1 + r))) + s)], τ)) rfl trivial ?_
                refine ex_c (s_isPlace (τ := τ) (z := (cel (τ 5) (0 + f * 6 + (1 + r))) + s) ⟨by omega, by omega⟩) (is := cod m1_outcomeOf 29) (L := [some (.inl 8), some (.inr f), some (.inr r), some (.inr s), some (.inr (cel (τ 5) (0 + f * 6 + (1 + r)))), some (.inr ((cel (τ 5) (0 + f * 6 + (1 + r))) + s)), none]) (st := []) rfl rfl rfl ?_
                show Ex _ _ (cod m1_outcomeOf 29, [some (.inl 8), some (.inr f), some (.inr r), some (.inr s), some (.inr (cel (τ 5) (0 + f * 6 + (1 + r)))), some (.inr ((cel (τ 5) (0 + f * 6 + (1 + r))) + s)), none], [.inr (b2 (0 ≤ ((cel (τ 5) (0 + f * 6 + (1 + r))) + s) ∧ ((cel (τ 5) (0 + f * 6 + (1 + r))) + s) < 12))], τ) _ _
                refine ex_b (P := ¬ (b2 (0 ≤ ((cel (τ 5) (0 + f * 6 + (1 + r))) + s) ∧ ((cel (τ 5) (0 + f * 6 + (1 + r))) + s) < 12)) = 0) (ct := (cod m1_outcomeOf 32, [some (.inl 8), some (.inr f), some (.inr r), some (.inr s), some (.inr (cel (τ 5) (0 + f * 6 + (1 + r)))), some (.inr ((cel (τ 5) (0 + f * 6 + (1 + r))) + s)), none], [], τ)) (cf := (cod m1_outcomeOf 30, [some (.inl 8), some (.inr f), some (.inr r), some (.inr s), some (.inr (cel (τ 5) (0 + f * 6 + (1 + r)))), some (.inr ((cel (τ 5) (0 + f * 6 + (1 + r))) + s)), none], [], τ)) rfl b2_rng (fun h3 => ?_) (fun h3 => ?_)
                · first
                  | (exfalso; have h3 := b2_n0 h3; omega)
                  | (
                      have h3 := b2_n0 h3
                      refine ex_k 4 (P := none) (g := (cod m1_outcomeOf 36, [some (.inl 8), some (.inr f), some (.inr r), some (.inr s), some (.inr (cel (τ 5) (0 + f * 6 + (1 + r)))), some (.inr ((cel (τ 5) (0 + f * 6 + (1 + r))) + s)), none], [.inr ((cel (τ 5) (0 + f * 6 + (1 + r))) + s), .inr r, .inl 2], τ)) rfl trivial ?_
                      refine ex_c (s_whoIsAt (τ := τ) (r := r) (p := (cel (τ 5) (0 + f * 6 + (1 + r))) + s) (Or.inr (Or.inl ⟨rfl, rfl⟩)) (by omega) ⟨by omega, by omega⟩) (is := cod m1_outcomeOf 37) (L := [some (.inl 8), some (.inr f), some (.inr r), some (.inr s), some (.inr (cel (τ 5) (0 + f * 6 + (1 + r)))), some (.inr ((cel (τ 5) (0 + f * 6 + (1 + r))) + s)), none]) (st := []) rfl rfl rfl ?_
                      show Ex _ _ (cod m1_outcomeOf 37, [some (.inl 8), some (.inr f), some (.inr r), some (.inr s), some (.inr (cel (τ 5) (0 + f * 6 + (1 + r)))), some (.inr ((cel (τ 5) (0 + f * 6 + (1 + r))) + s)), none], [.inr (whz (τ 5) r ((cel (τ 5) (0 + f * 6 + (1 + r))) + s))], τ) _ _
                      refine ex_k 3 (P := none) (g := (cod m1_outcomeOf 40, [some (.inl 8), some (.inr f), some (.inr r), some (.inr s), some (.inr (cel (τ 5) (0 + f * 6 + (1 + r)))), some (.inr ((cel (τ 5) (0 + f * 6 + (1 + r))) + s)), some (.inr (whz (τ 5) r ((cel (τ 5) (0 + f * 6 + (1 + r))) + s)))], [.inr (-1), .inr (whz (τ 5) r ((cel (τ 5) (0 + f * 6 + (1 + r))) + s))], τ)) rfl trivial ?_
                      refine ex_b (P := ¬ (whz (τ 5) r ((cel (τ 5) (0 + f * 6 + (1 + r))) + s)) = (-1)) (ct := (cod m1_outcomeOf 43, [some (.inl 8), some (.inr f), some (.inr r), some (.inr s), some (.inr (cel (τ 5) (0 + f * 6 + (1 + r)))), some (.inr ((cel (τ 5) (0 + f * 6 + (1 + r))) + s)), some (.inr (whz (τ 5) r ((cel (τ 5) (0 + f * 6 + (1 + r))) + s)))], [], τ)) (cf := (cod m1_outcomeOf 41, [some (.inl 8), some (.inr f), some (.inr r), some (.inr s), some (.inr (cel (τ 5) (0 + f * 6 + (1 + r)))), some (.inr ((cel (τ 5) (0 + f * 6 + (1 + r))) + s)), some (.inr (whz (τ 5) r ((cel (τ 5) (0 + f * 6 + (1 + r))) + s)))], [], τ)) rfl ⟨⟨by omega, by omega⟩, ⟨by decide, by decide⟩⟩ (fun h4 => ?_) (fun h4 => ?_)
                      · first
                        | (exfalso; omega)
                        | (
                            refine ex_k 2 (P := none) (g := (cod m1_outcomeOf 45, [some (.inl 8), some (.inr f), some (.inr r), some (.inr s), some (.inr (cel (τ 5) (0 + f * 6 + (1 + r)))), some (.inr ((cel (τ 5) (0 + f * 6 + (1 + r))) + s)), some (.inr (whz (τ 5) r ((cel (τ 5) (0 + f * 6 + (1 + r))) + s)))], [.inr 8, .inr (whz (τ 5) r ((cel (τ 5) (0 + f * 6 + (1 + r))) + s))], τ)) rfl trivial ?_
                            refine ex_b (P := (whz (τ 5) r ((cel (τ 5) (0 + f * 6 + (1 + r))) + s)) = 8) (ct := (cod m1_outcomeOf 59, [some (.inl 8), some (.inr f), some (.inr r), some (.inr s), some (.inr (cel (τ 5) (0 + f * 6 + (1 + r)))), some (.inr ((cel (τ 5) (0 + f * 6 + (1 + r))) + s)), some (.inr (whz (τ 5) r ((cel (τ 5) (0 + f * 6 + (1 + r))) + s)))], [], τ)) (cf := (cod m1_outcomeOf 46, [some (.inl 8), some (.inr f), some (.inr r), some (.inr s), some (.inr (cel (τ 5) (0 + f * 6 + (1 + r)))), some (.inr ((cel (τ 5) (0 + f * 6 + (1 + r))) + s)), some (.inr (whz (τ 5) r ((cel (τ 5) (0 + f * 6 + (1 + r))) + s)))], [], τ)) rfl ⟨⟨by omega, by omega⟩, ⟨by decide, by decide⟩⟩ (fun h5 => ?_) (fun h5 => ?_)
                            · first
                              | (exfalso; omega)
                              | (
                                  refine ex_k 6 (P := none) (g := (cod m1_outcomeOf 65, [some (.inl 8), some (.inr f), some (.inr r), some (.inr s), some (.inr (cel (τ 5) (0 + f * 6 + (1 + r)))), some (.inr ((cel (τ 5) (0 + f * 6 + (1 + r))) + s)), some (.inr (whz (τ 5) r ((cel (τ 5) (0 + f * 6 + (1 + r))) + s)))], [.inr (((cel (τ 5) (0 + f * 6 + (1 + r))) + s) + s), .inr r, .inl 2], τ)) rfl trivial ?_
                                  refine ex_c (s_isFree (τ := τ) (r := r) (p := ((cel (τ 5) (0 + f * 6 + (1 + r))) + s) + s) (Or.inr (Or.inl ⟨rfl, rfl⟩)) (by omega) ⟨by omega, by omega⟩ hB) (is := cod m1_outcomeOf 66) (L := [some (.inl 8), some (.inr f), some (.inr r), some (.inr s), some (.inr (cel (τ 5) (0 + f * 6 + (1 + r)))), some (.inr ((cel (τ 5) (0 + f * 6 + (1 + r))) + s)), some (.inr (whz (τ 5) r ((cel (τ 5) (0 + f * 6 + (1 + r))) + s)))]) (st := []) rfl rfl rfl ?_
                                  show Ex _ _ (cod m1_outcomeOf 66, [some (.inl 8), some (.inr f), some (.inr r), some (.inr s), some (.inr (cel (τ 5) (0 + f * 6 + (1 + r)))), some (.inr ((cel (τ 5) (0 + f * 6 + (1 + r))) + s)), some (.inr (whz (τ 5) r ((cel (τ 5) (0 + f * 6 + (1 + r))) + s)))], [.inr (b2 ((0 ≤ (((cel (τ 5) (0 + f * 6 + (1 + r))) + s) + s) ∧ (((cel (τ 5) (0 + f * 6 + (1 + r))) + s) + s) < 12) ∧ cel (τ 5) (48 + r * 12 + (((cel (τ 5) (0 + f * 6 + (1 + r))) + s) + s)) = -1))], τ) _ _
                                  refine ex_b (P := ¬ (b2 ((0 ≤ (((cel (τ 5) (0 + f * 6 + (1 + r))) + s) + s) ∧ (((cel (τ 5) (0 + f * 6 + (1 + r))) + s) + s) < 12) ∧ cel (τ 5) (48 + r * 12 + (((cel (τ 5) (0 + f * 6 + (1 + r))) + s) + s)) = -1)) = 0) (ct := (cod m1_outcomeOf 69, [some (.inl 8), some (.inr f), some (.inr r), some (.inr s), some (.inr (cel (τ 5) (0 + f * 6 + (1 + r)))), some (.inr ((cel (τ 5) (0 + f * 6 + (1 + r))) + s)), some (.inr (whz (τ 5) r ((cel (τ 5) (0 + f * 6 + (1 + r))) + s)))], [], τ)) (cf := (cod m1_outcomeOf 67, [some (.inl 8), some (.inr f), some (.inr r), some (.inr s), some (.inr (cel (τ 5) (0 + f * 6 + (1 + r)))), some (.inr ((cel (τ 5) (0 + f * 6 + (1 + r))) + s)), some (.inr (whz (τ 5) r ((cel (τ 5) (0 + f * 6 + (1 + r))) + s)))], [], τ)) rfl b2_rng (fun h6 => ?_) (fun h6 => ?_)
                                  · first
                                    | (exfalso; have h6 := b2_n0 h6; omega)
                                    | (
                                        have h6 := b2_n0 h6
                                        refine ex_k 2 (P := none) (g := (cod m1_outcomeOf 71, [some (.inl 8), some (.inr f), some (.inr r), some (.inr s), some (.inr (cel (τ 5) (0 + f * 6 + (1 + r)))), some (.inr ((cel (τ 5) (0 + f * 6 + (1 + r))) + s)), some (.inr (whz (τ 5) r ((cel (τ 5) (0 + f * 6 + (1 + r))) + s)))], [.inr 8, .inr (whz (τ 5) r ((cel (τ 5) (0 + f * 6 + (1 + r))) + s))], τ)) rfl trivial ?_
                                        refine ex_b (P := ¬ (whz (τ 5) r ((cel (τ 5) (0 + f * 6 + (1 + r))) + s)) = 8) (ct := (cod m1_outcomeOf 74, [some (.inl 8), some (.inr f), some (.inr r), some (.inr s), some (.inr (cel (τ 5) (0 + f * 6 + (1 + r)))), some (.inr ((cel (τ 5) (0 + f * 6 + (1 + r))) + s)), some (.inr (whz (τ 5) r ((cel (τ 5) (0 + f * 6 + (1 + r))) + s)))], [], τ)) (cf := (cod m1_outcomeOf 72, [some (.inl 8), some (.inr f), some (.inr r), some (.inr s), some (.inr (cel (τ 5) (0 + f * 6 + (1 + r)))), some (.inr ((cel (τ 5) (0 + f * 6 + (1 + r))) + s)), some (.inr (whz (τ 5) r ((cel (τ 5) (0 + f * 6 + (1 + r))) + s)))], [], τ)) rfl ⟨⟨by omega, by omega⟩, ⟨by decide, by decide⟩⟩ (fun h7 => ?_) (fun h7 => ?_)
                                        · first
                                          | (exfalso; omega)
                                          | (
                                              refine ex_k 1 (P := none) (g := (cod m1_outcomeOf 75, [some (.inl 8), some (.inr f), some (.inr r), some (.inr s), some (.inr (cel (τ 5) (0 + f * 6 + (1 + r)))), some (.inr ((cel (τ 5) (0 + f * 6 + (1 + r))) + s)), some (.inr (whz (τ 5) r ((cel (τ 5) (0 + f * 6 + (1 + r))) + s)))], [.inr 3], τ)) rfl trivial ?_
                                              exact ex_r rfl trivial rfl (rI (by unfold oco; (repeat (first | rw [if_pos (by omega)] | rw [if_neg (by omega)])); first | done | rfl)))
                                        · first
                                          | (exfalso; omega)
                                          | (
                                              refine ex_k 2 (P := none) (g := (cod m1_outcomeOf 75, [some (.inl 8), some (.inr f), some (.inr r), some (.inr s), some (.inr (cel (τ 5) (0 + f * 6 + (1 + r)))), some (.inr ((cel (τ 5) (0 + f * 6 + (1 + r))) + s)), some (.inr (whz (τ 5) r ((cel (τ 5) (0 + f * 6 + (1 + r))) + s)))], [.inr 2], τ)) rfl trivial ?_
                                              exact ex_r rfl trivial rfl (rI (by unfold oco; (repeat (first | rw [if_pos (by omega)] | rw [if_neg (by omega)])); first | done | rfl))))
                                  · first
                                    | (exfalso; have h6 := b2_nn0 h6; omega)
                                    | (
                                        have h6 := b2_nn0 h6
                                        refine ex_k 1 (P := none) (g := (cod m1_outcomeOf 68, [some (.inl 8), some (.inr f), some (.inr r), some (.inr s), some (.inr (cel (τ 5) (0 + f * 6 + (1 + r)))), some (.inr ((cel (τ 5) (0 + f * 6 + (1 + r))) + s)), some (.inr (whz (τ 5) r ((cel (τ 5) (0 + f * 6 + (1 + r))) + s)))], [.inr 16], τ)) rfl trivial ?_
                                        exact ex_r rfl trivial rfl (rI (by unfold oco; (repeat (first | rw [if_pos (by omega)] | rw [if_neg (by omega)])); first | done | rfl))))
                            · first
                              | (exfalso; omega)
                              | (
                                  refine ex_k 4 (P := none) (g := (cod m1_outcomeOf 50, [some (.inl 8), some (.inr f), some (.inr r), some (.inr s), some (.inr (cel (τ 5) (0 + f * 6 + (1 + r)))), some (.inr ((cel (τ 5) (0 + f * 6 + (1 + r))) + s)), some (.inr (whz (τ 5) r ((cel (τ 5) (0 + f * 6 + (1 + r))) + s)))], [.inr 0, .inr (whz (τ 5) r ((cel (τ 5) (0 + f * 6 + (1 + r))) + s)), .inl 2], τ)) rfl trivial ?_
                                  refine ex_c (s_number (τ := τ) (f := whz (τ 5) r ((cel (τ 5) (0 + f * 6 + (1 + r))) + s)) (w := 0) (Or.inr (Or.inl ⟨rfl, rfl⟩)) (by omega) (by omega)) (is := cod m1_outcomeOf 51) (L := [some (.inl 8), some (.inr f), some (.inr r), some (.inr s), some (.inr (cel (τ 5) (0 + f * 6 + (1 + r)))), some (.inr ((cel (τ 5) (0 + f * 6 + (1 + r))) + s)), some (.inr (whz (τ 5) r ((cel (τ 5) (0 + f * 6 + (1 + r))) + s)))]) (st := []) rfl rfl rfl ?_
                                  show Ex _ _ (cod m1_outcomeOf 51, [some (.inl 8), some (.inr f), some (.inr r), some (.inr s), some (.inr (cel (τ 5) (0 + f * 6 + (1 + r)))), some (.inr ((cel (τ 5) (0 + f * 6 + (1 + r))) + s)), some (.inr (whz (τ 5) r ((cel (τ 5) (0 + f * 6 + (1 + r))) + s)))], [.inr (cel (τ 5) (0 + (whz (τ 5) r ((cel (τ 5) (0 + f * 6 + (1 + r))) + s)) * 6 + 0))], τ) _ _
                                  refine ex_k 4 (P := none) (g := (cod m1_outcomeOf 55, [some (.inl 8), some (.inr f), some (.inr r), some (.inr s), some (.inr (cel (τ 5) (0 + f * 6 + (1 + r)))), some (.inr ((cel (τ 5) (0 + f * 6 + (1 + r))) + s)), some (.inr (whz (τ 5) r ((cel (τ 5) (0 + f * 6 + (1 + r))) + s)))], [.inr 0, .inr f, .inl 2, .inr (cel (τ 5) (0 + (whz (τ 5) r ((cel (τ 5) (0 + f * 6 + (1 + r))) + s)) * 6 + 0))], τ)) rfl trivial ?_
                                  refine ex_c (s_number (τ := τ) (f := f) (w := 0) (Or.inr (Or.inl ⟨rfl, rfl⟩)) (by omega) (by omega)) (is := cod m1_outcomeOf 56) (L := [some (.inl 8), some (.inr f), some (.inr r), some (.inr s), some (.inr (cel (τ 5) (0 + f * 6 + (1 + r)))), some (.inr ((cel (τ 5) (0 + f * 6 + (1 + r))) + s)), some (.inr (whz (τ 5) r ((cel (τ 5) (0 + f * 6 + (1 + r))) + s)))]) (st := [.inr (cel (τ 5) (0 + (whz (τ 5) r ((cel (τ 5) (0 + f * 6 + (1 + r))) + s)) * 6 + 0))]) rfl rfl rfl ?_
                                  show Ex _ _ (cod m1_outcomeOf 56, [some (.inl 8), some (.inr f), some (.inr r), some (.inr s), some (.inr (cel (τ 5) (0 + f * 6 + (1 + r)))), some (.inr ((cel (τ 5) (0 + f * 6 + (1 + r))) + s)), some (.inr (whz (τ 5) r ((cel (τ 5) (0 + f * 6 + (1 + r))) + s)))], [.inr (cel (τ 5) (0 + f * 6 + 0)), .inr (cel (τ 5) (0 + (whz (τ 5) r ((cel (τ 5) (0 + f * 6 + (1 + r))) + s)) * 6 + 0))], τ) _ _
                                  refine ex_b (P := ¬ (cel (τ 5) (0 + (whz (τ 5) r ((cel (τ 5) (0 + f * 6 + (1 + r))) + s)) * 6 + 0)) = (cel (τ 5) (0 + f * 6 + 0))) (ct := (cod m1_outcomeOf 59, [some (.inl 8), some (.inr f), some (.inr r), some (.inr s), some (.inr (cel (τ 5) (0 + f * 6 + (1 + r)))), some (.inr ((cel (τ 5) (0 + f * 6 + (1 + r))) + s)), some (.inr (whz (τ 5) r ((cel (τ 5) (0 + f * 6 + (1 + r))) + s)))], [], τ)) (cf := (cod m1_outcomeOf 57, [some (.inl 8), some (.inr f), some (.inr r), some (.inr s), some (.inr (cel (τ 5) (0 + f * 6 + (1 + r)))), some (.inr ((cel (τ 5) (0 + f * 6 + (1 + r))) + s)), some (.inr (whz (τ 5) r ((cel (τ 5) (0 + f * 6 + (1 + r))) + s)))], [], τ)) rfl ⟨⟨by omega, by omega⟩, ⟨by omega, by omega⟩⟩ (fun h8 => ?_) (fun h8 => ?_)
                                  · first
                                    | (exfalso; omega)
                                    | (
                                        refine ex_k 6 (P := none) (g := (cod m1_outcomeOf 65, [some (.inl 8), some (.inr f), some (.inr r), some (.inr s), some (.inr (cel (τ 5) (0 + f * 6 + (1 + r)))), some (.inr ((cel (τ 5) (0 + f * 6 + (1 + r))) + s)), some (.inr (whz (τ 5) r ((cel (τ 5) (0 + f * 6 + (1 + r))) + s)))], [.inr (((cel (τ 5) (0 + f * 6 + (1 + r))) + s) + s), .inr r, .inl 2], τ)) rfl trivial ?_
                                        refine ex_c (s_isFree (τ := τ) (r := r) (p := ((cel (τ 5) (0 + f * 6 + (1 + r))) + s) + s) (Or.inr (Or.inl ⟨rfl, rfl⟩)) (by omega) ⟨by omega, by omega⟩ hB) (is := cod m1_outcomeOf 66) (L := [some (.inl 8), some (.inr f), some (.inr r), some (.inr s), some (.inr (cel (τ 5) (0 + f * 6 + (1 + r)))), some (.inr ((cel (τ 5) (0 + f * 6 + (1 + r))) + s)), some (.inr (whz (τ 5) r ((cel (τ 5) (0 + f * 6 + (1 + r))) + s)))]) (st := []) rfl rfl rfl ?_
                                        show Ex _ _ (cod m1_outcomeOf 66, [some (.inl 8), some (.inr f), some (.inr r), some (.inr s), some (.inr (cel (τ 5) (0 + f * 6 + (1 + r)))), some (.inr ((cel (τ 5) (0 + f * 6 + (1 + r))) + s)), some (.inr (whz (τ 5) r ((cel (τ 5) (0 + f * 6 + (1 + r))) + s)))], [.inr (b2 ((0 ≤ (((cel (τ 5) (0 + f * 6 + (1 + r))) + s) + s) ∧ (((cel (τ 5) (0 + f * 6 + (1 + r))) + s) + s) < 12) ∧ cel (τ 5) (48 + r * 12 + (((cel (τ 5) (0 + f * 6 + (1 + r))) + s) + s)) = -1))], τ) _ _
                                        refine ex_b (P := ¬ (b2 ((0 ≤ (((cel (τ 5) (0 + f * 6 + (1 + r))) + s) + s) ∧ (((cel (τ 5) (0 + f * 6 + (1 + r))) + s) + s) < 12) ∧ cel (τ 5) (48 + r * 12 + (((cel (τ 5) (0 + f * 6 + (1 + r))) + s) + s)) = -1)) = 0) (ct := (cod m1_outcomeOf 69, [some (.inl 8), some (.inr f), some (.inr r), some (.inr s), some (.inr (cel (τ 5) (0 + f * 6 + (1 + r)))), some (.inr ((cel (τ 5) (0 + f * 6 + (1 + r))) + s)), some (.inr (whz (τ 5) r ((cel (τ 5) (0 + f * 6 + (1 + r))) + s)))], [], τ)) (cf := (cod m1_outcomeOf 67, [some (.inl 8), some (.inr f), some (.inr r), some (.inr s), some (.inr (cel (τ 5) (0 + f * 6 + (1 + r)))), some (.inr ((cel (τ 5) (0 + f * 6 + (1 + r))) + s)), some (.inr (whz (τ 5) r ((cel (τ 5) (0 + f * 6 + (1 + r))) + s)))], [], τ)) rfl b2_rng (fun h9 => ?_) (fun h9 => ?_)
                                        · first
                                          | (exfalso; have h9 := b2_n0 h9; omega)
                                          | (
                                              have h9 := b2_n0 h9
                                              refine ex_k 2 (P := none) (g := (cod m1_outcomeOf 71, [some (.inl 8), some (.inr f), some (.inr r), some (.inr s), some (.inr (cel (τ 5) (0 + f * 6 + (1 + r)))), some (.inr ((cel (τ 5) (0 + f * 6 + (1 + r))) + s)), some (.inr (whz (τ 5) r ((cel (τ 5) (0 + f * 6 + (1 + r))) + s)))], [.inr 8, .inr (whz (τ 5) r ((cel (τ 5) (0 + f * 6 + (1 + r))) + s))], τ)) rfl trivial ?_
                                              refine ex_b (P := ¬ (whz (τ 5) r ((cel (τ 5) (0 + f * 6 + (1 + r))) + s)) = 8) (ct := (cod m1_outcomeOf 74, [some (.inl 8), some (.inr f), some (.inr r), some (.inr s), some (.inr (cel (τ 5) (0 + f * 6 + (1 + r)))), some (.inr ((cel (τ 5) (0 + f * 6 + (1 + r))) + s)), some (.inr (whz (τ 5) r ((cel (τ 5) (0 + f * 6 + (1 + r))) + s)))], [], τ)) (cf := (cod m1_outcomeOf 72, [some (.inl 8), some (.inr f), some (.inr r), some (.inr s), some (.inr (cel (τ 5) (0 + f * 6 + (1 + r)))), some (.inr ((cel (τ 5) (0 + f * 6 + (1 + r))) + s)), some (.inr (whz (τ 5) r ((cel (τ 5) (0 + f * 6 + (1 + r))) + s)))], [], τ)) rfl ⟨⟨by omega, by omega⟩, ⟨by decide, by decide⟩⟩ (fun h10 => ?_) (fun h10 => ?_)
                                              · first
                                                | (exfalso; omega)
                                                | (
                                                    refine ex_k 1 (P := none) (g := (cod m1_outcomeOf 75, [some (.inl 8), some (.inr f), some (.inr r), some (.inr s), some (.inr (cel (τ 5) (0 + f * 6 + (1 + r)))), some (.inr ((cel (τ 5) (0 + f * 6 + (1 + r))) + s)), some (.inr (whz (τ 5) r ((cel (τ 5) (0 + f * 6 + (1 + r))) + s)))], [.inr 3], τ)) rfl trivial ?_
                                                    exact ex_r rfl trivial rfl (rI (by unfold oco; (repeat (first | rw [if_pos (by omega)] | rw [if_neg (by omega)])); first | done | rfl)))
                                              · first
                                                | (exfalso; omega)
                                                | (
                                                    refine ex_k 2 (P := none) (g := (cod m1_outcomeOf 75, [some (.inl 8), some (.inr f), some (.inr r), some (.inr s), some (.inr (cel (τ 5) (0 + f * 6 + (1 + r)))), some (.inr ((cel (τ 5) (0 + f * 6 + (1 + r))) + s)), some (.inr (whz (τ 5) r ((cel (τ 5) (0 + f * 6 + (1 + r))) + s)))], [.inr 2], τ)) rfl trivial ?_
                                                    exact ex_r rfl trivial rfl (rI (by unfold oco; (repeat (first | rw [if_pos (by omega)] | rw [if_neg (by omega)])); first | done | rfl))))
                                        · first
                                          | (exfalso; have h9 := b2_nn0 h9; omega)
                                          | (
                                              have h9 := b2_nn0 h9
                                              refine ex_k 1 (P := none) (g := (cod m1_outcomeOf 68, [some (.inl 8), some (.inr f), some (.inr r), some (.inr s), some (.inr (cel (τ 5) (0 + f * 6 + (1 + r)))), some (.inr ((cel (τ 5) (0 + f * 6 + (1 + r))) + s)), some (.inr (whz (τ 5) r ((cel (τ 5) (0 + f * 6 + (1 + r))) + s)))], [.inr 16], τ)) rfl trivial ?_
                                              exact ex_r rfl trivial rfl (rI (by unfold oco; (repeat (first | rw [if_pos (by omega)] | rw [if_neg (by omega)])); first | done | rfl))))
                                  · first
                                    | (exfalso; omega)
                                    | (
                                        refine ex_k 1 (P := none) (g := (cod m1_outcomeOf 58, [some (.inl 8), some (.inr f), some (.inr r), some (.inr s), some (.inr (cel (τ 5) (0 + f * 6 + (1 + r)))), some (.inr ((cel (τ 5) (0 + f * 6 + (1 + r))) + s)), some (.inr (whz (τ 5) r ((cel (τ 5) (0 + f * 6 + (1 + r))) + s)))], [.inr 15], τ)) rfl trivial ?_
                                        exact ex_r rfl trivial rfl (rI (by unfold oco; (repeat (first | rw [if_pos (by omega)] | rw [if_neg (by omega)])); first | done | rfl)))))
                      · first
                        | (exfalso; omega)
                        | (
                            refine ex_k 1 (P := none) (g := (cod m1_outcomeOf 42, [some (.inl 8), some (.inr f), some (.inr r), some (.inr s), some (.inr (cel (τ 5) (0 + f * 6 + (1 + r)))), some (.inr ((cel (τ 5) (0 + f * 6 + (1 + r))) + s)), some (.inr (whz (τ 5) r ((cel (τ 5) (0 + f * 6 + (1 + r))) + s)))], [.inr 1], τ)) rfl trivial ?_
                            exact ex_r rfl trivial rfl (rI (by unfold oco; (repeat (first | rw [if_pos (by omega)] | rw [if_neg (by omega)])); first | done | rfl))))
                · first
                  | (exfalso; have h3 := b2_nn0 h3; omega)
                  | (
                      have h3 := b2_nn0 h3
                      refine ex_k 1 (P := none) (g := (cod m1_outcomeOf 31, [some (.inl 8), some (.inr f), some (.inr r), some (.inr s), some (.inr (cel (τ 5) (0 + f * 6 + (1 + r)))), some (.inr ((cel (τ 5) (0 + f * 6 + (1 + r))) + s)), none], [.inr 14], τ)) rfl trivial ?_
                      exact ex_r rfl trivial rfl (rI (by unfold oco; (repeat (first | rw [if_pos (by omega)] | rw [if_neg (by omega)])); first | done | rfl))))
          · first
            | (exfalso; have h2 := b2_nn0 h2; omega)
            | (
                have h2 := b2_nn0 h2
                refine ex_k 1 (P := none) (g := (cod m1_outcomeOf 22, [some (.inl 8), some (.inr f), some (.inr r), some (.inr s), some (.inr (cel (τ 5) (0 + f * 6 + (1 + r)))), none, none], [.inr 13], τ)) rfl trivial ?_
                exact ex_r rfl trivial rfl (rI (by unfold oco; (repeat (first | rw [if_pos (by omega)] | rw [if_neg (by omega)])); first | done | rfl))))
    · first
      | (exfalso; have h1 := b2_n0 h1; omega)
      | (
          have h1 := b2_n0 h1
          refine ex_k 1 (P := none) (g := (cod m1_outcomeOf 15, [some (.inl 8), some (.inr f), some (.inr r), some (.inr s), some (.inr (cel (τ 5) (0 + f * 6 + (1 + r)))), none, none], [.inr 12], τ)) rfl trivial ?_
          exact ex_r rfl trivial rfl (rI (by unfold oco; (repeat (first | rw [if_pos (by omega)] | rw [if_neg (by omega)])); first | done | rfl)))
def ocn (c : Nat → Int) (f r s : Int) : Int := if cel c (0 + f * 6 + 0) = cel c 108 then oco c f r s else 11
theorem s_outcomeNow {γ ρ a : Nat} {f r s : Int} {τ : SZ} (hγ : GA γ ρ a) (hf : 0 ≤ f ∧ f < 8) (hr : 0 ≤ r ∧ r < 2) (hs : s = 1 ∨ s = -1) (hC : Cw (τ a)) : RZ 4 m1_outcomeNow [.inl γ, .inr f, .inr r, .inr s] τ (.inl (some (.inr (ocn (τ a) f r s)), τ)) := by
  have hB := hC.1
  have hb1 := cel_bd hB (0 + f * 6 + 0)
  have hb2 := cel_bd hB 108
  rcases hγ with ⟨rfl, rfl, rfl⟩ | ⟨rfl, rfl, rfl⟩
  · refine Ex.call ?_ rfl rfl
    show Ex _ _ (cod m1_outcomeNow 0, [some (.inl 7), some (.inr f), some (.inr r), some (.inr s), none], [], τ) _ _
    refine ex_k 4 (P := none) (g := (cod m1_outcomeNow 4, [some (.inl 7), some (.inr f), some (.inr r), some (.inr s), none], [.inr 0, .inr f, .inl 1], τ)) rfl trivial ?_
    refine ex_c (s_number (τ := τ) (f := f) (w := 0) (Or.inl ⟨rfl, rfl⟩) (by omega) (by omega)) (is := cod m1_outcomeNow 5) (L := [some (.inl 7), some (.inr f), some (.inr r), some (.inr s), none]) (st := []) rfl rfl rfl ?_
    show Ex _ _ (cod m1_outcomeNow 5, [some (.inl 7), some (.inr f), some (.inr r), some (.inr s), none], [.inr (cel (τ 4) (0 + f * 6 + 0))], τ) _ _
    refine ex_k 3 (P := none) (g := (cod m1_outcomeNow 8, [some (.inl 7), some (.inr f), some (.inr r), some (.inr s), none], [.inr 8, .inl 1, .inr (cel (τ 4) (0 + f * 6 + 0))], τ)) rfl trivial ?_
    refine ex_c (s_total (τ := τ) (w := 8) (Or.inl ⟨rfl, rfl⟩) (by omega)) (is := cod m1_outcomeNow 9) (L := [some (.inl 7), some (.inr f), some (.inr r), some (.inr s), none]) (st := [.inr (cel (τ 4) (0 + f * 6 + 0))]) rfl rfl rfl ?_
    show Ex _ _ (cod m1_outcomeNow 9, [some (.inl 7), some (.inr f), some (.inr r), some (.inr s), none], [.inr (cel (τ 4) 108), .inr (cel (τ 4) (0 + f * 6 + 0))], τ) _ _
    refine ex_b (P := ¬ (cel (τ 4) (0 + f * 6 + 0)) = (cel (τ 4) 108)) (ct := (cod m1_outcomeNow 12, [some (.inl 7), some (.inr f), some (.inr r), some (.inr s), none], [], τ)) (cf := (cod m1_outcomeNow 10, [some (.inl 7), some (.inr f), some (.inr r), some (.inr s), none], [], τ)) rfl ⟨⟨by omega, by omega⟩, ⟨by omega, by omega⟩⟩ (fun h1 => ?_) (fun h1 => ?_)
    · first
      | (exfalso; omega)
      | (
          refine ex_k 3 (P := none) (g := (cod m1_outcomeNow 15, [some (.inl 7), some (.inr f), some (.inr r), some (.inr s), some (.inr 0)], [.inr 0], τ)) rfl trivial ?_
          refine ex_b (P := 0 = 0) (ct := (cod m1_outcomeNow 22, [some (.inl 7), some (.inr f), some (.inr r), some (.inr s), some (.inr 0)], [], τ)) (cf := (cod m1_outcomeNow 16, [some (.inl 7), some (.inr f), some (.inr r), some (.inr s), some (.inr 0)], [], τ)) rfl ⟨by decide, by decide⟩ (fun _ => ?_) (fun hh => absurd (by decide) hh)
          refine ex_k 1 (P := none) (g := (cod m1_outcomeNow 23, [some (.inl 7), some (.inr f), some (.inr r), some (.inr s), some (.inr 0)], [.inr 11], τ)) rfl trivial ?_
          exact ex_r rfl trivial rfl (rI (by unfold ocn; (repeat (first | rw [if_pos (by omega)] | rw [if_neg (by omega)])); first | done | rfl)))
    · first
      | (exfalso; omega)
      | (
          refine ex_k 4 (P := none) (g := (cod m1_outcomeNow 15, [some (.inl 7), some (.inr f), some (.inr r), some (.inr s), some (.inr 1)], [.inr 1], τ)) rfl trivial ?_
          refine ex_b (P := 1 = 0) (ct := (cod m1_outcomeNow 22, [some (.inl 7), some (.inr f), some (.inr r), some (.inr s), some (.inr 1)], [], τ)) (cf := (cod m1_outcomeNow 16, [some (.inl 7), some (.inr f), some (.inr r), some (.inr s), some (.inr 1)], [], τ)) rfl ⟨by decide, by decide⟩ (fun hh => absurd hh (by decide)) (fun _ => ?_)
          refine ex_k 4 (P := none) (g := (cod m1_outcomeNow 20, [some (.inl 7), some (.inr f), some (.inr r), some (.inr s), some (.inr 1)], [.inr s, .inr r, .inr f, .inl 7], τ)) rfl trivial ?_
          refine ex_c (s_outcomeOf (τ := τ) (f := f) (r := r) (s := s) (Or.inl ⟨rfl, rfl, rfl⟩) (by omega) (by omega) (by omega) hC) (is := cod m1_outcomeNow 21) (L := [some (.inl 7), some (.inr f), some (.inr r), some (.inr s), some (.inr 1)]) (st := []) rfl rfl rfl ?_
          show Ex _ _ (cod m1_outcomeNow 21, [some (.inl 7), some (.inr f), some (.inr r), some (.inr s), some (.inr 1)], [.inr (oco (τ 4) f r s)], τ) _ _
          refine ex_k 1 (P := none) (g := (cod m1_outcomeNow 23, [some (.inl 7), some (.inr f), some (.inr r), some (.inr s), some (.inr 1)], [.inr (oco (τ 4) f r s)], τ)) rfl trivial ?_
          exact ex_r rfl trivial rfl (rI (by unfold ocn; (repeat (first | rw [if_pos (by omega)] | rw [if_neg (by omega)])); first | done | rfl)))
  · refine Ex.call ?_ rfl rfl
    show Ex _ _ (cod m1_outcomeNow 0, [some (.inl 8), some (.inr f), some (.inr r), some (.inr s), none], [], τ) _ _
    refine ex_k 4 (P := none) (g := (cod m1_outcomeNow 4, [some (.inl 8), some (.inr f), some (.inr r), some (.inr s), none], [.inr 0, .inr f, .inl 2], τ)) rfl trivial ?_
    refine ex_c (s_number (τ := τ) (f := f) (w := 0) (Or.inr (Or.inl ⟨rfl, rfl⟩)) (by omega) (by omega)) (is := cod m1_outcomeNow 5) (L := [some (.inl 8), some (.inr f), some (.inr r), some (.inr s), none]) (st := []) rfl rfl rfl ?_
    show Ex _ _ (cod m1_outcomeNow 5, [some (.inl 8), some (.inr f), some (.inr r), some (.inr s), none], [.inr (cel (τ 5) (0 + f * 6 + 0))], τ) _ _
    refine ex_k 3 (P := none) (g := (cod m1_outcomeNow 8, [some (.inl 8), some (.inr f), some (.inr r), some (.inr s), none], [.inr 8, .inl 2, .inr (cel (τ 5) (0 + f * 6 + 0))], τ)) rfl trivial ?_
    refine ex_c (s_total (τ := τ) (w := 8) (Or.inr (Or.inl ⟨rfl, rfl⟩)) (by omega)) (is := cod m1_outcomeNow 9) (L := [some (.inl 8), some (.inr f), some (.inr r), some (.inr s), none]) (st := [.inr (cel (τ 5) (0 + f * 6 + 0))]) rfl rfl rfl ?_
    show Ex _ _ (cod m1_outcomeNow 9, [some (.inl 8), some (.inr f), some (.inr r), some (.inr s), none], [.inr (cel (τ 5) 108), .inr (cel (τ 5) (0 + f * 6 + 0))], τ) _ _
    refine ex_b (P := ¬ (cel (τ 5) (0 + f * 6 + 0)) = (cel (τ 5) 108)) (ct := (cod m1_outcomeNow 12, [some (.inl 8), some (.inr f), some (.inr r), some (.inr s), none], [], τ)) (cf := (cod m1_outcomeNow 10, [some (.inl 8), some (.inr f), some (.inr r), some (.inr s), none], [], τ)) rfl ⟨⟨by omega, by omega⟩, ⟨by omega, by omega⟩⟩ (fun h1 => ?_) (fun h1 => ?_)
    · first
      | (exfalso; omega)
      | (
          refine ex_k 3 (P := none) (g := (cod m1_outcomeNow 15, [some (.inl 8), some (.inr f), some (.inr r), some (.inr s), some (.inr 0)], [.inr 0], τ)) rfl trivial ?_
          refine ex_b (P := 0 = 0) (ct := (cod m1_outcomeNow 22, [some (.inl 8), some (.inr f), some (.inr r), some (.inr s), some (.inr 0)], [], τ)) (cf := (cod m1_outcomeNow 16, [some (.inl 8), some (.inr f), some (.inr r), some (.inr s), some (.inr 0)], [], τ)) rfl ⟨by decide, by decide⟩ (fun _ => ?_) (fun hh => absurd (by decide) hh)
          refine ex_k 1 (P := none) (g := (cod m1_outcomeNow 23, [some (.inl 8), some (.inr f), some (.inr r), some (.inr s), some (.inr 0)], [.inr 11], τ)) rfl trivial ?_
          exact ex_r rfl trivial rfl (rI (by unfold ocn; (repeat (first | rw [if_pos (by omega)] | rw [if_neg (by omega)])); first | done | rfl)))
    · first
      | (exfalso; omega)
      | (
          refine ex_k 4 (P := none) (g := (cod m1_outcomeNow 15, [some (.inl 8), some (.inr f), some (.inr r), some (.inr s), some (.inr 1)], [.inr 1], τ)) rfl trivial ?_
          refine ex_b (P := 1 = 0) (ct := (cod m1_outcomeNow 22, [some (.inl 8), some (.inr f), some (.inr r), some (.inr s), some (.inr 1)], [], τ)) (cf := (cod m1_outcomeNow 16, [some (.inl 8), some (.inr f), some (.inr r), some (.inr s), some (.inr 1)], [], τ)) rfl ⟨by decide, by decide⟩ (fun hh => absurd hh (by decide)) (fun _ => ?_)
          refine ex_k 4 (P := none) (g := (cod m1_outcomeNow 20, [some (.inl 8), some (.inr f), some (.inr r), some (.inr s), some (.inr 1)], [.inr s, .inr r, .inr f, .inl 8], τ)) rfl trivial ?_
          refine ex_c (s_outcomeOf (τ := τ) (f := f) (r := r) (s := s) (Or.inr ⟨rfl, rfl, rfl⟩) (by omega) (by omega) (by omega) hC) (is := cod m1_outcomeNow 21) (L := [some (.inl 8), some (.inr f), some (.inr r), some (.inr s), some (.inr 1)]) (st := []) rfl rfl rfl ?_
          show Ex _ _ (cod m1_outcomeNow 21, [some (.inl 8), some (.inr f), some (.inr r), some (.inr s), some (.inr 1)], [.inr (oco (τ 5) f r s)], τ) _ _
          refine ex_k 1 (P := none) (g := (cod m1_outcomeNow 23, [some (.inl 8), some (.inr f), some (.inr r), some (.inr s), some (.inr 1)], [.inr (oco (τ 5) f r s)], τ)) rfl trivial ?_
          exact ex_r rfl trivial rfl (rI (by unfold ocn; (repeat (first | rw [if_pos (by omega)] | rw [if_neg (by omega)])); first | done | rfl)))
def dtl (c : Nat → Int) (x f r s : Int) : Int := if x = 11 then cel c 108 else if x = 12 then cel c (98 + r) else if x = 15 then whz c r (cel c (0 + f * 6 + (1 + r)) + s) else if x = 16 then cel c (0 + f * 6 + (1 + r)) + s else cel c (0 + f * 6 + (1 + r))
theorem s_detailOf {γ ρ a : Nat} {x f r s : Int} {τ : SZ} (hγ : GA γ ρ a) (hx : x = 11 ∨ x = 12 ∨ x = 13 ∨ x = 14 ∨ x = 15 ∨ x = 16) (hf : 0 ≤ f ∧ f < 8) (hr : 0 ≤ r ∧ r < 2) (hs : s = 1 ∨ s = -1) (hC : Cw (τ a)) : RZ 3 m1_detailOf [.inl γ, .inr x, .inr f, .inr r, .inr s] τ (.inl (some (.inr (dtl (τ a) x f r s)), τ)) := by
  have hB := hC.1
  have hp := hC.2.2.2 f r hf.1 hf.2 hr.1 hr.2
  rcases hγ with ⟨rfl, rfl, rfl⟩ | ⟨rfl, rfl, rfl⟩
  · rcases hx with rfl | rfl | rfl | rfl | rfl | rfl
    · refine Ex.call ?_ rfl rfl
      show Ex _ _ (cod m1_detailOf 0, [some (.inl 7), some (.inr 11), some (.inr f), some (.inr r), some (.inr s), none], [], τ) _ _
      refine ex_k 6 (P := none) (g := (cod m1_detailOf 6, [some (.inl 7), some (.inr 11), some (.inr f), some (.inr r), some (.inr s), none], [.inr (1 + r), .inr f, .inl 1], τ)) rfl trivial ?_
      refine ex_c (s_number (τ := τ) (f := f) (w := 1 + r) (Or.inl ⟨rfl, rfl⟩) (by omega) (by omega)) (is := cod m1_detailOf 7) (L := [some (.inl 7), some (.inr 11), some (.inr f), some (.inr r), some (.inr s), none]) (st := []) rfl rfl rfl ?_
      show Ex _ _ (cod m1_detailOf 7, [some (.inl 7), some (.inr 11), some (.inr f), some (.inr r), some (.inr s), none], [.inr (cel (τ 4) (0 + f * 6 + (1 + r)))], τ) _ _
      refine ex_k 3 (P := some (Rng 11)) (g := (cod m1_detailOf 10, [some (.inl 7), some (.inr 11), some (.inr f), some (.inr r), some (.inr s), some (.inr (cel (τ 4) (0 + f * 6 + (1 + r))))], [], τ)) rfl ⟨by decide, by decide⟩ ?_
      refine ex_k 3 (P := none) (g := (cod m1_detailOf 13, [some (.inl 7), some (.inr 11), some (.inr f), some (.inr r), some (.inr s), some (.inr (cel (τ 4) (0 + f * 6 + (1 + r))))], [.inr 8, .inl 1], τ)) rfl trivial ?_
      refine ex_c (s_total (τ := τ) (w := 8) (Or.inl ⟨rfl, rfl⟩) (by omega)) (is := cod m1_detailOf 14) (L := [some (.inl 7), some (.inr 11), some (.inr f), some (.inr r), some (.inr s), some (.inr (cel (τ 4) (0 + f * 6 + (1 + r))))]) (st := []) rfl rfl rfl ?_
      show Ex _ _ (cod m1_detailOf 14, [some (.inl 7), some (.inr 11), some (.inr f), some (.inr r), some (.inr s), some (.inr (cel (τ 4) (0 + f * 6 + (1 + r))))], [.inr (cel (τ 4) 108)], τ) _ _
      exact ex_r rfl trivial rfl (rI (by unfold dtl; (repeat (first | rw [if_pos (by omega)] | rw [if_neg (by omega)])); first | done | rfl))
    · refine Ex.call ?_ rfl rfl
      show Ex _ _ (cod m1_detailOf 0, [some (.inl 7), some (.inr 12), some (.inr f), some (.inr r), some (.inr s), none], [], τ) _ _
      refine ex_k 6 (P := none) (g := (cod m1_detailOf 6, [some (.inl 7), some (.inr 12), some (.inr f), some (.inr r), some (.inr s), none], [.inr (1 + r), .inr f, .inl 1], τ)) rfl trivial ?_
      refine ex_c (s_number (τ := τ) (f := f) (w := 1 + r) (Or.inl ⟨rfl, rfl⟩) (by omega) (by omega)) (is := cod m1_detailOf 7) (L := [some (.inl 7), some (.inr 12), some (.inr f), some (.inr r), some (.inr s), none]) (st := []) rfl rfl rfl ?_
      show Ex _ _ (cod m1_detailOf 7, [some (.inl 7), some (.inr 12), some (.inr f), some (.inr r), some (.inr s), none], [.inr (cel (τ 4) (0 + f * 6 + (1 + r)))], τ) _ _
      refine ex_k 3 (P := some (Rng 12)) (g := (cod m1_detailOf 15, [some (.inl 7), some (.inr 12), some (.inr f), some (.inr r), some (.inr s), some (.inr (cel (τ 4) (0 + f * 6 + (1 + r))))], [], τ)) rfl ⟨by decide, by decide⟩ ?_
      refine ex_k 3 (P := none) (g := (cod m1_detailOf 18, [some (.inl 7), some (.inr 12), some (.inr f), some (.inr r), some (.inr s), some (.inr (cel (τ 4) (0 + f * 6 + (1 + r))))], [.inr r, .inl 1], τ)) rfl trivial ?_
      refine ex_c (s_fogWidth (τ := τ) (r := r) (Or.inl ⟨rfl, rfl⟩) (by omega)) (is := cod m1_detailOf 19) (L := [some (.inl 7), some (.inr 12), some (.inr f), some (.inr r), some (.inr s), some (.inr (cel (τ 4) (0 + f * 6 + (1 + r))))]) (st := []) rfl rfl rfl ?_
      show Ex _ _ (cod m1_detailOf 19, [some (.inl 7), some (.inr 12), some (.inr f), some (.inr r), some (.inr s), some (.inr (cel (τ 4) (0 + f * 6 + (1 + r))))], [.inr (cel (τ 4) (98 + r))], τ) _ _
      exact ex_r rfl trivial rfl (rI (by unfold dtl; (repeat (first | rw [if_pos (by omega)] | rw [if_neg (by omega)])); first | done | rfl))
    · refine Ex.call ?_ rfl rfl
      show Ex _ _ (cod m1_detailOf 0, [some (.inl 7), some (.inr 13), some (.inr f), some (.inr r), some (.inr s), none], [], τ) _ _
      refine ex_k 6 (P := none) (g := (cod m1_detailOf 6, [some (.inl 7), some (.inr 13), some (.inr f), some (.inr r), some (.inr s), none], [.inr (1 + r), .inr f, .inl 1], τ)) rfl trivial ?_
      refine ex_c (s_number (τ := τ) (f := f) (w := 1 + r) (Or.inl ⟨rfl, rfl⟩) (by omega) (by omega)) (is := cod m1_detailOf 7) (L := [some (.inl 7), some (.inr 13), some (.inr f), some (.inr r), some (.inr s), none]) (st := []) rfl rfl rfl ?_
      show Ex _ _ (cod m1_detailOf 7, [some (.inl 7), some (.inr 13), some (.inr f), some (.inr r), some (.inr s), none], [.inr (cel (τ 4) (0 + f * 6 + (1 + r)))], τ) _ _
      refine ex_k 3 (P := some (Rng 13)) (g := (cod m1_detailOf 32, [some (.inl 7), some (.inr 13), some (.inr f), some (.inr r), some (.inr s), some (.inr (cel (τ 4) (0 + f * 6 + (1 + r))))], [], τ)) rfl ⟨by decide, by decide⟩ ?_
      refine ex_k 1 (P := none) (g := (cod m1_detailOf 33, [some (.inl 7), some (.inr 13), some (.inr f), some (.inr r), some (.inr s), some (.inr (cel (τ 4) (0 + f * 6 + (1 + r))))], [.inr (cel (τ 4) (0 + f * 6 + (1 + r)))], τ)) rfl trivial ?_
      exact ex_r rfl trivial rfl (rI (by unfold dtl; (repeat (first | rw [if_pos (by omega)] | rw [if_neg (by omega)])); first | done | rfl))
    · refine Ex.call ?_ rfl rfl
      show Ex _ _ (cod m1_detailOf 0, [some (.inl 7), some (.inr 14), some (.inr f), some (.inr r), some (.inr s), none], [], τ) _ _
      refine ex_k 6 (P := none) (g := (cod m1_detailOf 6, [some (.inl 7), some (.inr 14), some (.inr f), some (.inr r), some (.inr s), none], [.inr (1 + r), .inr f, .inl 1], τ)) rfl trivial ?_
      refine ex_c (s_number (τ := τ) (f := f) (w := 1 + r) (Or.inl ⟨rfl, rfl⟩) (by omega) (by omega)) (is := cod m1_detailOf 7) (L := [some (.inl 7), some (.inr 14), some (.inr f), some (.inr r), some (.inr s), none]) (st := []) rfl rfl rfl ?_
      show Ex _ _ (cod m1_detailOf 7, [some (.inl 7), some (.inr 14), some (.inr f), some (.inr r), some (.inr s), none], [.inr (cel (τ 4) (0 + f * 6 + (1 + r)))], τ) _ _
      refine ex_k 3 (P := some (Rng 14)) (g := (cod m1_detailOf 32, [some (.inl 7), some (.inr 14), some (.inr f), some (.inr r), some (.inr s), some (.inr (cel (τ 4) (0 + f * 6 + (1 + r))))], [], τ)) rfl ⟨by decide, by decide⟩ ?_
      refine ex_k 1 (P := none) (g := (cod m1_detailOf 33, [some (.inl 7), some (.inr 14), some (.inr f), some (.inr r), some (.inr s), some (.inr (cel (τ 4) (0 + f * 6 + (1 + r))))], [.inr (cel (τ 4) (0 + f * 6 + (1 + r)))], τ)) rfl trivial ?_
      exact ex_r rfl trivial rfl (rI (by unfold dtl; (repeat (first | rw [if_pos (by omega)] | rw [if_neg (by omega)])); first | done | rfl))
    · refine Ex.call ?_ rfl rfl
      show Ex _ _ (cod m1_detailOf 0, [some (.inl 7), some (.inr 15), some (.inr f), some (.inr r), some (.inr s), none], [], τ) _ _
      refine ex_k 6 (P := none) (g := (cod m1_detailOf 6, [some (.inl 7), some (.inr 15), some (.inr f), some (.inr r), some (.inr s), none], [.inr (1 + r), .inr f, .inl 1], τ)) rfl trivial ?_
      refine ex_c (s_number (τ := τ) (f := f) (w := 1 + r) (Or.inl ⟨rfl, rfl⟩) (by omega) (by omega)) (is := cod m1_detailOf 7) (L := [some (.inl 7), some (.inr 15), some (.inr f), some (.inr r), some (.inr s), none]) (st := []) rfl rfl rfl ?_
      show Ex _ _ (cod m1_detailOf 7, [some (.inl 7), some (.inr 15), some (.inr f), some (.inr r), some (.inr s), none], [.inr (cel (τ 4) (0 + f * 6 + (1 + r)))], τ) _ _
      refine ex_k 3 (P := some (Rng 15)) (g := (cod m1_detailOf 20, [some (.inl 7), some (.inr 15), some (.inr f), some (.inr r), some (.inr s), some (.inr (cel (τ 4) (0 + f * 6 + (1 + r))))], [], τ)) rfl ⟨by decide, by decide⟩ ?_
      refine ex_k 6 (P := none) (g := (cod m1_detailOf 26, [some (.inl 7), some (.inr 15), some (.inr f), some (.inr r), some (.inr s), some (.inr (cel (τ 4) (0 + f * 6 + (1 + r))))], [.inr ((cel (τ 4) (0 + f * 6 + (1 + r))) + s), .inr r, .inl 1], τ)) rfl trivial ?_
      refine ex_c (s_whoIsAt (τ := τ) (r := r) (p := (cel (τ 4) (0 + f * 6 + (1 + r))) + s) (Or.inl ⟨rfl, rfl⟩) (by omega) ⟨by omega, by omega⟩) (is := cod m1_detailOf 27) (L := [some (.inl 7), some (.inr 15), some (.inr f), some (.inr r), some (.inr s), some (.inr (cel (τ 4) (0 + f * 6 + (1 + r))))]) (st := []) rfl rfl rfl ?_
      show Ex _ _ (cod m1_detailOf 27, [some (.inl 7), some (.inr 15), some (.inr f), some (.inr r), some (.inr s), some (.inr (cel (τ 4) (0 + f * 6 + (1 + r))))], [.inr (whz (τ 4) r ((cel (τ 4) (0 + f * 6 + (1 + r))) + s))], τ) _ _
      exact ex_r rfl trivial rfl (rI (by unfold dtl; (repeat (first | rw [if_pos (by omega)] | rw [if_neg (by omega)])); first | done | rfl))
    · refine Ex.call ?_ rfl rfl
      show Ex _ _ (cod m1_detailOf 0, [some (.inl 7), some (.inr 16), some (.inr f), some (.inr r), some (.inr s), none], [], τ) _ _
      refine ex_k 6 (P := none) (g := (cod m1_detailOf 6, [some (.inl 7), some (.inr 16), some (.inr f), some (.inr r), some (.inr s), none], [.inr (1 + r), .inr f, .inl 1], τ)) rfl trivial ?_
      refine ex_c (s_number (τ := τ) (f := f) (w := 1 + r) (Or.inl ⟨rfl, rfl⟩) (by omega) (by omega)) (is := cod m1_detailOf 7) (L := [some (.inl 7), some (.inr 16), some (.inr f), some (.inr r), some (.inr s), none]) (st := []) rfl rfl rfl ?_
      show Ex _ _ (cod m1_detailOf 7, [some (.inl 7), some (.inr 16), some (.inr f), some (.inr r), some (.inr s), none], [.inr (cel (τ 4) (0 + f * 6 + (1 + r)))], τ) _ _
      refine ex_k 3 (P := some (Rng 16)) (g := (cod m1_detailOf 28, [some (.inl 7), some (.inr 16), some (.inr f), some (.inr r), some (.inr s), some (.inr (cel (τ 4) (0 + f * 6 + (1 + r))))], [], τ)) rfl ⟨by decide, by decide⟩ ?_
      refine ex_k 3 (P := none) (g := (cod m1_detailOf 31, [some (.inl 7), some (.inr 16), some (.inr f), some (.inr r), some (.inr s), some (.inr (cel (τ 4) (0 + f * 6 + (1 + r))))], [.inr ((cel (τ 4) (0 + f * 6 + (1 + r))) + s)], τ)) rfl trivial ?_
      exact ex_r rfl trivial rfl (rI (by unfold dtl; (repeat (first | rw [if_pos (by omega)] | rw [if_neg (by omega)])); first | done | rfl))
  · rcases hx with rfl | rfl | rfl | rfl | rfl | rfl
    · refine Ex.call ?_ rfl rfl
      show Ex _ _ (cod m1_detailOf 0, [some (.inl 8), some (.inr 11), some (.inr f), some (.inr r), some (.inr s), none], [], τ) _ _
      refine ex_k 6 (P := none) (g := (cod m1_detailOf 6, [some (.inl 8), some (.inr 11), some (.inr f), some (.inr r), some (.inr s), none], [.inr (1 + r), .inr f, .inl 2], τ)) rfl trivial ?_
      refine ex_c (s_number (τ := τ) (f := f) (w := 1 + r) (Or.inr (Or.inl ⟨rfl, rfl⟩)) (by omega) (by omega)) (is := cod m1_detailOf 7) (L := [some (.inl 8), some (.inr 11), some (.inr f), some (.inr r), some (.inr s), none]) (st := []) rfl rfl rfl ?_
      show Ex _ _ (cod m1_detailOf 7, [some (.inl 8), some (.inr 11), some (.inr f), some (.inr r), some (.inr s), none], [.inr (cel (τ 5) (0 + f * 6 + (1 + r)))], τ) _ _
      refine ex_k 3 (P := some (Rng 11)) (g := (cod m1_detailOf 10, [some (.inl 8), some (.inr 11), some (.inr f), some (.inr r), some (.inr s), some (.inr (cel (τ 5) (0 + f * 6 + (1 + r))))], [], τ)) rfl ⟨by decide, by decide⟩ ?_
      refine ex_k 3 (P := none) (g := (cod m1_detailOf 13, [some (.inl 8), some (.inr 11), some (.inr f), some (.inr r), some (.inr s), some (.inr (cel (τ 5) (0 + f * 6 + (1 + r))))], [.inr 8, .inl 2], τ)) rfl trivial ?_
      refine ex_c (s_total (τ := τ) (w := 8) (Or.inr (Or.inl ⟨rfl, rfl⟩)) (by omega)) (is := cod m1_detailOf 14) (L := [some (.inl 8), some (.inr 11), some (.inr f), some (.inr r), some (.inr s), some (.inr (cel (τ 5) (0 + f * 6 + (1 + r))))]) (st := []) rfl rfl rfl ?_
      show Ex _ _ (cod m1_detailOf 14, [some (.inl 8), some (.inr 11), some (.inr f), some (.inr r), some (.inr s), some (.inr (cel (τ 5) (0 + f * 6 + (1 + r))))], [.inr (cel (τ 5) 108)], τ) _ _
      exact ex_r rfl trivial rfl (rI (by unfold dtl; (repeat (first | rw [if_pos (by omega)] | rw [if_neg (by omega)])); first | done | rfl))
    · refine Ex.call ?_ rfl rfl
      show Ex _ _ (cod m1_detailOf 0, [some (.inl 8), some (.inr 12), some (.inr f), some (.inr r), some (.inr s), none], [], τ) _ _
      refine ex_k 6 (P := none) (g := (cod m1_detailOf 6, [some (.inl 8), some (.inr 12), some (.inr f), some (.inr r), some (.inr s), none], [.inr (1 + r), .inr f, .inl 2], τ)) rfl trivial ?_
      refine ex_c (s_number (τ := τ) (f := f) (w := 1 + r) (Or.inr (Or.inl ⟨rfl, rfl⟩)) (by omega) (by omega)) (is := cod m1_detailOf 7) (L := [some (.inl 8), some (.inr 12), some (.inr f), some (.inr r), some (.inr s), none]) (st := []) rfl rfl rfl ?_
      show Ex _ _ (cod m1_detailOf 7, [some (.inl 8), some (.inr 12), some (.inr f), some (.inr r), some (.inr s), none], [.inr (cel (τ 5) (0 + f * 6 + (1 + r)))], τ) _ _
      refine ex_k 3 (P := some (Rng 12)) (g := (cod m1_detailOf 15, [some (.inl 8), some (.inr 12), some (.inr f), some (.inr r), some (.inr s), some (.inr (cel (τ 5) (0 + f * 6 + (1 + r))))], [], τ)) rfl ⟨by decide, by decide⟩ ?_
      refine ex_k 3 (P := none) (g := (cod m1_detailOf 18, [some (.inl 8), some (.inr 12), some (.inr f), some (.inr r), some (.inr s), some (.inr (cel (τ 5) (0 + f * 6 + (1 + r))))], [.inr r, .inl 2], τ)) rfl trivial ?_
      refine ex_c (s_fogWidth (τ := τ) (r := r) (Or.inr (Or.inl ⟨rfl, rfl⟩)) (by omega)) (is := cod m1_detailOf 19) (L := [some (.inl 8), some (.inr 12), some (.inr f), some (.inr r), some (.inr s), some (.inr (cel (τ 5) (0 + f * 6 + (1 + r))))]) (st := []) rfl rfl rfl ?_
      show Ex _ _ (cod m1_detailOf 19, [some (.inl 8), some (.inr 12), some (.inr f), some (.inr r), some (.inr s), some (.inr (cel (τ 5) (0 + f * 6 + (1 + r))))], [.inr (cel (τ 5) (98 + r))], τ) _ _
      exact ex_r rfl trivial rfl (rI (by unfold dtl; (repeat (first | rw [if_pos (by omega)] | rw [if_neg (by omega)])); first | done | rfl))
    · refine Ex.call ?_ rfl rfl
      show Ex _ _ (cod m1_detailOf 0, [some (.inl 8), some (.inr 13), some (.inr f), some (.inr r), some (.inr s), none], [], τ) _ _
      refine ex_k 6 (P := none) (g := (cod m1_detailOf 6, [some (.inl 8), some (.inr 13), some (.inr f), some (.inr r), some (.inr s), none], [.inr (1 + r), .inr f, .inl 2], τ)) rfl trivial ?_
      refine ex_c (s_number (τ := τ) (f := f) (w := 1 + r) (Or.inr (Or.inl ⟨rfl, rfl⟩)) (by omega) (by omega)) (is := cod m1_detailOf 7) (L := [some (.inl 8), some (.inr 13), some (.inr f), some (.inr r), some (.inr s), none]) (st := []) rfl rfl rfl ?_
      show Ex _ _ (cod m1_detailOf 7, [some (.inl 8), some (.inr 13), some (.inr f), some (.inr r), some (.inr s), none], [.inr (cel (τ 5) (0 + f * 6 + (1 + r)))], τ) _ _
      refine ex_k 3 (P := some (Rng 13)) (g := (cod m1_detailOf 32, [some (.inl 8), some (.inr 13), some (.inr f), some (.inr r), some (.inr s), some (.inr (cel (τ 5) (0 + f * 6 + (1 + r))))], [], τ)) rfl ⟨by decide, by decide⟩ ?_
      refine ex_k 1 (P := none) (g := (cod m1_detailOf 33, [some (.inl 8), some (.inr 13), some (.inr f), some (.inr r), some (.inr s), some (.inr (cel (τ 5) (0 + f * 6 + (1 + r))))], [.inr (cel (τ 5) (0 + f * 6 + (1 + r)))], τ)) rfl trivial ?_
      exact ex_r rfl trivial rfl (rI (by unfold dtl; (repeat (first | rw [if_pos (by omega)] | rw [if_neg (by omega)])); first | done | rfl))
    · refine Ex.call ?_ rfl rfl
      show Ex _ _ (cod m1_detailOf 0, [some (.inl 8), some (.inr 14), some (.inr f), some (.inr r), some (.inr s), none], [], τ) _ _
      refine ex_k 6 (P := none) (g := (cod m1_detailOf 6, [some (.inl 8), some (.inr 14), some (.inr f), some (.inr r), some (.inr s), none], [.inr (1 + r), .inr f, .inl 2], τ)) rfl trivial ?_
      refine ex_c (s_number (τ := τ) (f := f) (w := 1 + r) (Or.inr (Or.inl ⟨rfl, rfl⟩)) (by omega) (by omega)) (is := cod m1_detailOf 7) (L := [some (.inl 8), some (.inr 14), some (.inr f), some (.inr r), some (.inr s), none]) (st := []) rfl rfl rfl ?_
      show Ex _ _ (cod m1_detailOf 7, [some (.inl 8), some (.inr 14), some (.inr f), some (.inr r), some (.inr s), none], [.inr (cel (τ 5) (0 + f * 6 + (1 + r)))], τ) _ _
      refine ex_k 3 (P := some (Rng 14)) (g := (cod m1_detailOf 32, [some (.inl 8), some (.inr 14), some (.inr f), some (.inr r), some (.inr s), some (.inr (cel (τ 5) (0 + f * 6 + (1 + r))))], [], τ)) rfl ⟨by decide, by decide⟩ ?_
      refine ex_k 1 (P := none) (g := (cod m1_detailOf 33, [some (.inl 8), some (.inr 14), some (.inr f), some (.inr r), some (.inr s), some (.inr (cel (τ 5) (0 + f * 6 + (1 + r))))], [.inr (cel (τ 5) (0 + f * 6 + (1 + r)))], τ)) rfl trivial ?_
      exact ex_r rfl trivial rfl (rI (by unfold dtl; (repeat (first | rw [if_pos (by omega)] | rw [if_neg (by omega)])); first | done | rfl))
    · refine Ex.call ?_ rfl rfl
      show Ex _ _ (cod m1_detailOf 0, [some (.inl 8), some (.inr 15), some (.inr f), some (.inr r), some (.inr s), none], [], τ) _ _
      refine ex_k 6 (P := none) (g := (cod m1_detailOf 6, [some (.inl 8), some (.inr 15), some (.inr f), some (.inr r), some (.inr s), none], [.inr (1 + r), .inr f, .inl 2], τ)) rfl trivial ?_
      refine ex_c (s_number (τ := τ) (f := f) (w := 1 + r) (Or.inr (Or.inl ⟨rfl, rfl⟩)) (by omega) (by omega)) (is := cod m1_detailOf 7) (L := [some (.inl 8), some (.inr 15), some (.inr f), some (.inr r), some (.inr s), none]) (st := []) rfl rfl rfl ?_
      show Ex _ _ (cod m1_detailOf 7, [some (.inl 8), some (.inr 15), some (.inr f), some (.inr r), some (.inr s), none], [.inr (cel (τ 5) (0 + f * 6 + (1 + r)))], τ) _ _
      refine ex_k 3 (P := some (Rng 15)) (g := (cod m1_detailOf 20, [some (.inl 8), some (.inr 15), some (.inr f), some (.inr r), some (.inr s), some (.inr (cel (τ 5) (0 + f * 6 + (1 + r))))], [], τ)) rfl ⟨by decide, by decide⟩ ?_
      refine ex_k 6 (P := none) (g := (cod m1_detailOf 26, [some (.inl 8), some (.inr 15), some (.inr f), some (.inr r), some (.inr s), some (.inr (cel (τ 5) (0 + f * 6 + (1 + r))))], [.inr ((cel (τ 5) (0 + f * 6 + (1 + r))) + s), .inr r, .inl 2], τ)) rfl trivial ?_
      refine ex_c (s_whoIsAt (τ := τ) (r := r) (p := (cel (τ 5) (0 + f * 6 + (1 + r))) + s) (Or.inr (Or.inl ⟨rfl, rfl⟩)) (by omega) ⟨by omega, by omega⟩) (is := cod m1_detailOf 27) (L := [some (.inl 8), some (.inr 15), some (.inr f), some (.inr r), some (.inr s), some (.inr (cel (τ 5) (0 + f * 6 + (1 + r))))]) (st := []) rfl rfl rfl ?_
      show Ex _ _ (cod m1_detailOf 27, [some (.inl 8), some (.inr 15), some (.inr f), some (.inr r), some (.inr s), some (.inr (cel (τ 5) (0 + f * 6 + (1 + r))))], [.inr (whz (τ 5) r ((cel (τ 5) (0 + f * 6 + (1 + r))) + s))], τ) _ _
      exact ex_r rfl trivial rfl (rI (by unfold dtl; (repeat (first | rw [if_pos (by omega)] | rw [if_neg (by omega)])); first | done | rfl))
    · refine Ex.call ?_ rfl rfl
      show Ex _ _ (cod m1_detailOf 0, [some (.inl 8), some (.inr 16), some (.inr f), some (.inr r), some (.inr s), none], [], τ) _ _
      refine ex_k 6 (P := none) (g := (cod m1_detailOf 6, [some (.inl 8), some (.inr 16), some (.inr f), some (.inr r), some (.inr s), none], [.inr (1 + r), .inr f, .inl 2], τ)) rfl trivial ?_
      refine ex_c (s_number (τ := τ) (f := f) (w := 1 + r) (Or.inr (Or.inl ⟨rfl, rfl⟩)) (by omega) (by omega)) (is := cod m1_detailOf 7) (L := [some (.inl 8), some (.inr 16), some (.inr f), some (.inr r), some (.inr s), none]) (st := []) rfl rfl rfl ?_
      show Ex _ _ (cod m1_detailOf 7, [some (.inl 8), some (.inr 16), some (.inr f), some (.inr r), some (.inr s), none], [.inr (cel (τ 5) (0 + f * 6 + (1 + r)))], τ) _ _
      refine ex_k 3 (P := some (Rng 16)) (g := (cod m1_detailOf 28, [some (.inl 8), some (.inr 16), some (.inr f), some (.inr r), some (.inr s), some (.inr (cel (τ 5) (0 + f * 6 + (1 + r))))], [], τ)) rfl ⟨by decide, by decide⟩ ?_
      refine ex_k 3 (P := none) (g := (cod m1_detailOf 31, [some (.inl 8), some (.inr 16), some (.inr f), some (.inr r), some (.inr s), some (.inr (cel (τ 5) (0 + f * 6 + (1 + r))))], [.inr ((cel (τ 5) (0 + f * 6 + (1 + r))) + s)], τ)) rfl trivial ?_
      exact ex_r rfl trivial rfl (rI (by unfold dtl; (repeat (first | rw [if_pos (by omega)] | rw [if_neg (by omega)])); first | done | rfl))
def gol (c : Nat → Int) (f r s : Int) : Int := if (0 ≤ (cel c (0 + f * 6 + (1 + r)) + s) ∧ (cel c (0 + f * 6 + (1 + r)) + s) < 12) ∧ cel c (48 + r * 12 + (cel c (0 + f * 6 + (1 + r)) + s)) = -1 then cel c (0 + f * 6 + (1 + r)) + s else cel c (0 + f * 6 + (1 + r)) + s + s
theorem s_goalOf {γ ρ a : Nat} {f r s : Int} {τ : SZ} (hγ : GA γ ρ a) (hf : 0 ≤ f ∧ f < 8) (hr : 0 ≤ r ∧ r < 2) (hs : s = 1 ∨ s = -1) (hC : Cw (τ a)) : RZ 3 m1_goalOf [.inl γ, .inr f, .inr r, .inr s] τ (.inl (some (.inr (gol (τ a) f r s)), τ)) := by
  have hB := hC.1
  have hp := hC.2.2.2 f r hf.1 hf.2 hr.1 hr.2
  rcases hγ with ⟨rfl, rfl, rfl⟩ | ⟨rfl, rfl, rfl⟩
  · refine Ex.call ?_ rfl rfl
    show Ex _ _ (cod m1_goalOf 0, [some (.inl 7), some (.inr f), some (.inr r), some (.inr s), none], [], τ) _ _
    refine ex_k 6 (P := none) (g := (cod m1_goalOf 6, [some (.inl 7), some (.inr f), some (.inr r), some (.inr s), none], [.inr (1 + r), .inr f, .inl 1], τ)) rfl trivial ?_
    refine ex_c (s_number (τ := τ) (f := f) (w := 1 + r) (Or.inl ⟨rfl, rfl⟩) (by omega) (by omega)) (is := cod m1_goalOf 7) (L := [some (.inl 7), some (.inr f), some (.inr r), some (.inr s), none]) (st := []) rfl rfl rfl ?_
    show Ex _ _ (cod m1_goalOf 7, [some (.inl 7), some (.inr f), some (.inr r), some (.inr s), none], [.inr (cel (τ 4) (0 + f * 6 + (1 + r)))], τ) _ _
    refine ex_k 7 (P := none) (g := (cod m1_goalOf 14, [some (.inl 7), some (.inr f), some (.inr r), some (.inr s), some (.inr ((cel (τ 4) (0 + f * 6 + (1 + r))) + s))], [.inr ((cel (τ 4) (0 + f * 6 + (1 + r))) + s), .inr r, .inl 1], τ)) rfl trivial ?_
    refine ex_c (s_isFree (τ := τ) (r := r) (p := (cel (τ 4) (0 + f * 6 + (1 + r))) + s) (Or.inl ⟨rfl, rfl⟩) (by omega) ⟨by omega, by omega⟩ hB) (is := cod m1_goalOf 15) (L := [some (.inl 7), some (.inr f), some (.inr r), some (.inr s), some (.inr ((cel (τ 4) (0 + f * 6 + (1 + r))) + s))]) (st := []) rfl rfl rfl ?_
    show Ex _ _ (cod m1_goalOf 15, [some (.inl 7), some (.inr f), some (.inr r), some (.inr s), some (.inr ((cel (τ 4) (0 + f * 6 + (1 + r))) + s))], [.inr (b2 ((0 ≤ ((cel (τ 4) (0 + f * 6 + (1 + r))) + s) ∧ ((cel (τ 4) (0 + f * 6 + (1 + r))) + s) < 12) ∧ cel (τ 4) (48 + r * 12 + ((cel (τ 4) (0 + f * 6 + (1 + r))) + s)) = -1))], τ) _ _
    refine ex_b (P := (b2 ((0 ≤ ((cel (τ 4) (0 + f * 6 + (1 + r))) + s) ∧ ((cel (τ 4) (0 + f * 6 + (1 + r))) + s) < 12) ∧ cel (τ 4) (48 + r * 12 + ((cel (τ 4) (0 + f * 6 + (1 + r))) + s)) = -1)) = 0) (ct := (cod m1_goalOf 18, [some (.inl 7), some (.inr f), some (.inr r), some (.inr s), some (.inr ((cel (τ 4) (0 + f * 6 + (1 + r))) + s))], [], τ)) (cf := (cod m1_goalOf 16, [some (.inl 7), some (.inr f), some (.inr r), some (.inr s), some (.inr ((cel (τ 4) (0 + f * 6 + (1 + r))) + s))], [], τ)) rfl b2_rng (fun h1 => ?_) (fun h1 => ?_)
    · first
      | (exfalso; have h1 := b2_e0 h1; omega)
      | (
          have h1 := b2_e0 h1
          refine ex_k 3 (P := none) (g := (cod m1_goalOf 21, [some (.inl 7), some (.inr f), some (.inr r), some (.inr s), some (.inr ((cel (τ 4) (0 + f * 6 + (1 + r))) + s))], [.inr (((cel (τ 4) (0 + f * 6 + (1 + r))) + s) + s)], τ)) rfl trivial ?_
          exact ex_r rfl trivial rfl (rI (by unfold gol; (repeat (first | rw [if_pos (by omega)] | rw [if_neg (by omega)])); first | done | rfl)))
    · first
      | (exfalso; have h1 := b2_n0 h1; omega)
      | (
          have h1 := b2_n0 h1
          refine ex_k 2 (P := none) (g := (cod m1_goalOf 21, [some (.inl 7), some (.inr f), some (.inr r), some (.inr s), some (.inr ((cel (τ 4) (0 + f * 6 + (1 + r))) + s))], [.inr ((cel (τ 4) (0 + f * 6 + (1 + r))) + s)], τ)) rfl trivial ?_
          exact ex_r rfl trivial rfl (rI (by unfold gol; (repeat (first | rw [if_pos (by omega)] | rw [if_neg (by omega)])); first | done | rfl)))
  · refine Ex.call ?_ rfl rfl
    show Ex _ _ (cod m1_goalOf 0, [some (.inl 8), some (.inr f), some (.inr r), some (.inr s), none], [], τ) _ _
    refine ex_k 6 (P := none) (g := (cod m1_goalOf 6, [some (.inl 8), some (.inr f), some (.inr r), some (.inr s), none], [.inr (1 + r), .inr f, .inl 2], τ)) rfl trivial ?_
    refine ex_c (s_number (τ := τ) (f := f) (w := 1 + r) (Or.inr (Or.inl ⟨rfl, rfl⟩)) (by omega) (by omega)) (is := cod m1_goalOf 7) (L := [some (.inl 8), some (.inr f), some (.inr r), some (.inr s), none]) (st := []) rfl rfl rfl ?_
    show Ex _ _ (cod m1_goalOf 7, [some (.inl 8), some (.inr f), some (.inr r), some (.inr s), none], [.inr (cel (τ 5) (0 + f * 6 + (1 + r)))], τ) _ _
    refine ex_k 7 (P := none) (g := (cod m1_goalOf 14, [some (.inl 8), some (.inr f), some (.inr r), some (.inr s), some (.inr ((cel (τ 5) (0 + f * 6 + (1 + r))) + s))], [.inr ((cel (τ 5) (0 + f * 6 + (1 + r))) + s), .inr r, .inl 2], τ)) rfl trivial ?_
    refine ex_c (s_isFree (τ := τ) (r := r) (p := (cel (τ 5) (0 + f * 6 + (1 + r))) + s) (Or.inr (Or.inl ⟨rfl, rfl⟩)) (by omega) ⟨by omega, by omega⟩ hB) (is := cod m1_goalOf 15) (L := [some (.inl 8), some (.inr f), some (.inr r), some (.inr s), some (.inr ((cel (τ 5) (0 + f * 6 + (1 + r))) + s))]) (st := []) rfl rfl rfl ?_
    show Ex _ _ (cod m1_goalOf 15, [some (.inl 8), some (.inr f), some (.inr r), some (.inr s), some (.inr ((cel (τ 5) (0 + f * 6 + (1 + r))) + s))], [.inr (b2 ((0 ≤ ((cel (τ 5) (0 + f * 6 + (1 + r))) + s) ∧ ((cel (τ 5) (0 + f * 6 + (1 + r))) + s) < 12) ∧ cel (τ 5) (48 + r * 12 + ((cel (τ 5) (0 + f * 6 + (1 + r))) + s)) = -1))], τ) _ _
    refine ex_b (P := (b2 ((0 ≤ ((cel (τ 5) (0 + f * 6 + (1 + r))) + s) ∧ ((cel (τ 5) (0 + f * 6 + (1 + r))) + s) < 12) ∧ cel (τ 5) (48 + r * 12 + ((cel (τ 5) (0 + f * 6 + (1 + r))) + s)) = -1)) = 0) (ct := (cod m1_goalOf 18, [some (.inl 8), some (.inr f), some (.inr r), some (.inr s), some (.inr ((cel (τ 5) (0 + f * 6 + (1 + r))) + s))], [], τ)) (cf := (cod m1_goalOf 16, [some (.inl 8), some (.inr f), some (.inr r), some (.inr s), some (.inr ((cel (τ 5) (0 + f * 6 + (1 + r))) + s))], [], τ)) rfl b2_rng (fun h1 => ?_) (fun h1 => ?_)
    · first
      | (exfalso; have h1 := b2_e0 h1; omega)
      | (
          have h1 := b2_e0 h1
          refine ex_k 3 (P := none) (g := (cod m1_goalOf 21, [some (.inl 8), some (.inr f), some (.inr r), some (.inr s), some (.inr ((cel (τ 5) (0 + f * 6 + (1 + r))) + s))], [.inr (((cel (τ 5) (0 + f * 6 + (1 + r))) + s) + s)], τ)) rfl trivial ?_
          exact ex_r rfl trivial rfl (rI (by unfold gol; (repeat (first | rw [if_pos (by omega)] | rw [if_neg (by omega)])); first | done | rfl)))
    · first
      | (exfalso; have h1 := b2_n0 h1; omega)
      | (
          have h1 := b2_n0 h1
          refine ex_k 2 (P := none) (g := (cod m1_goalOf 21, [some (.inl 8), some (.inr f), some (.inr r), some (.inr s), some (.inr ((cel (τ 5) (0 + f * 6 + (1 + r))) + s))], [.inr ((cel (τ 5) (0 + f * 6 + (1 + r))) + s)], τ)) rfl trivial ?_
          exact ex_r rfl trivial rfl (rI (by unfold gol; (repeat (first | rw [if_pos (by omega)] | rw [if_neg (by omega)])); first | done | rfl)))
abbrev cle (c : Nat → Int) (x r p s : Int) : Prop := (¬ whz c r p = -1 ∧ ¬ whz c r p = 8 ∧ cel c (0 + (whz c r p) * 6 + 0) = x ∧ ((cel c (0 + (whz c r p) * 6 + 0) = 0 ∧ s = 1) ∨ (¬ cel c (0 + (whz c r p) * 6 + 0) = 0 ∧ s = -1) ∨ cel c (0 + (whz c r p) * 6 + 3) = 1)) ∧ ¬ (p - cel c (96 + r) + 12) % 12 < cel c (98 + r)
theorem s_canLeave {γ ρ a : Nat} {x r p s : Int} {τ : SZ} (hγ : GA γ ρ a) (hx : -1000 ≤ x ∧ x ≤ 1000) (hr : 0 ≤ r ∧ r < 2) (hp : Rng p) (hs : s = 1 ∨ s = -1) (hC : Cw (τ a)) : RZ 3 m1_canLeave [.inl γ, .inr x, .inr r, .inr p, .inr s] τ (.inl (some (.inr (b2 (cle (τ a) x r p s))), τ)) := by
  obtain ⟨hp1, hp2⟩ := hp
  have hB := hC.1
  have hF := hC.2.1
  have hw := hC.who (p := p) hr
  have hb1 := cel_bd hB (0 + whz (τ a) r p * 6 + 0)
  have hin : whz (τ a) r p = -1 ∨ (0 ≤ p ∧ p < 12) := by unfold whz; split <;> omega
  rcases hγ with ⟨rfl, rfl, rfl⟩ | ⟨rfl, rfl, rfl⟩
  · refine Ex.call ?_ rfl rfl
    show Ex _ _ (cod m1_canLeave 0, [some (.inl 7), some (.inr x), some (.inr r), some (.inr p), some (.inr s), none], [], τ) _ _
    refine ex_k 4 (P := none) (g := (cod m1_canLeave 4, [some (.inl 7), some (.inr x), some (.inr r), some (.inr p), some (.inr s), none], [.inr p, .inr r, .inl 1], τ)) rfl trivial ?_
    refine ex_c (s_whoIsAt (τ := τ) (r := r) (p := p) (Or.inl ⟨rfl, rfl⟩) (by omega) ⟨by omega, by omega⟩) (is := cod m1_canLeave 5) (L := [some (.inl 7), some (.inr x), some (.inr r), some (.inr p), some (.inr s), none]) (st := []) rfl rfl rfl ?_
    show Ex _ _ (cod m1_canLeave 5, [some (.inl 7), some (.inr x), some (.inr r), some (.inr p), some (.inr s), none], [.inr (whz (τ 4) r p)], τ) _ _
    refine ex_k 3 (P := none) (g := (cod m1_canLeave 8, [some (.inl 7), some (.inr x), some (.inr r), some (.inr p), some (.inr s), some (.inr (whz (τ 4) r p))], [.inr (-1), .inr (whz (τ 4) r p)], τ)) rfl trivial ?_
    refine ex_b (P := (whz (τ 4) r p) = (-1)) (ct := (cod m1_canLeave 32, [some (.inl 7), some (.inr x), some (.inr r), some (.inr p), some (.inr s), some (.inr (whz (τ 4) r p))], [], τ)) (cf := (cod m1_canLeave 9, [some (.inl 7), some (.inr x), some (.inr r), some (.inr p), some (.inr s), some (.inr (whz (τ 4) r p))], [], τ)) rfl ⟨⟨by omega, by omega⟩, ⟨by decide, by decide⟩⟩ (fun h1 => ?_) (fun h1 => ?_)
    · first
      | (exfalso; omega)
      | (
          refine ex_k 1 (P := none) (g := (cod m1_canLeave 33, [some (.inl 7), some (.inr x), some (.inr r), some (.inr p), some (.inr s), some (.inr (whz (τ 4) r p))], [.inr 0], τ)) rfl trivial ?_
          exact ex_r rfl (by first | exact Or.inl rfl | exact Or.inr rfl | omega) rfl (rI (by first | rw [b2_t (by omega)] | rw [b2_f (by omega)])))
    · first
      | (exfalso; omega)
      | (
          refine ex_k 2 (P := none) (g := (cod m1_canLeave 11, [some (.inl 7), some (.inr x), some (.inr r), some (.inr p), some (.inr s), some (.inr (whz (τ 4) r p))], [.inr 8, .inr (whz (τ 4) r p)], τ)) rfl trivial ?_
          refine ex_b (P := (whz (τ 4) r p) = 8) (ct := (cod m1_canLeave 32, [some (.inl 7), some (.inr x), some (.inr r), some (.inr p), some (.inr s), some (.inr (whz (τ 4) r p))], [], τ)) (cf := (cod m1_canLeave 12, [some (.inl 7), some (.inr x), some (.inr r), some (.inr p), some (.inr s), some (.inr (whz (τ 4) r p))], [], τ)) rfl ⟨⟨by omega, by omega⟩, ⟨by decide, by decide⟩⟩ (fun h2 => ?_) (fun h2 => ?_)
          · first
            | (exfalso; omega)
            | (
                refine ex_k 1 (P := none) (g := (cod m1_canLeave 33, [some (.inl 7), some (.inr x), some (.inr r), some (.inr p), some (.inr s), some (.inr (whz (τ 4) r p))], [.inr 0], τ)) rfl trivial ?_
                exact ex_r rfl (by first | exact Or.inl rfl | exact Or.inr rfl | omega) rfl (rI (by first | rw [b2_t (by omega)] | rw [b2_f (by omega)])))
          · first
            | (exfalso; omega)
            | (
                refine ex_k 4 (P := none) (g := (cod m1_canLeave 16, [some (.inl 7), some (.inr x), some (.inr r), some (.inr p), some (.inr s), some (.inr (whz (τ 4) r p))], [.inr 0, .inr (whz (τ 4) r p), .inl 1], τ)) rfl trivial ?_
                refine ex_c (s_number (τ := τ) (f := whz (τ 4) r p) (w := 0) (Or.inl ⟨rfl, rfl⟩) (by omega) (by omega)) (is := cod m1_canLeave 17) (L := [some (.inl 7), some (.inr x), some (.inr r), some (.inr p), some (.inr s), some (.inr (whz (τ 4) r p))]) (st := []) rfl rfl rfl ?_
                show Ex _ _ (cod m1_canLeave 17, [some (.inl 7), some (.inr x), some (.inr r), some (.inr p), some (.inr s), some (.inr (whz (τ 4) r p))], [.inr (cel (τ 4) (0 + (whz (τ 4) r p) * 6 + 0))], τ) _ _
                refine ex_k 1 (P := none) (g := (cod m1_canLeave 18, [some (.inl 7), some (.inr x), some (.inr r), some (.inr p), some (.inr s), some (.inr (whz (τ 4) r p))], [.inr x, .inr (cel (τ 4) (0 + (whz (τ 4) r p) * 6 + 0))], τ)) rfl trivial ?_
                refine ex_b (P := ¬ (cel (τ 4) (0 + (whz (τ 4) r p) * 6 + 0)) = x) (ct := (cod m1_canLeave 32, [some (.inl 7), some (.inr x), some (.inr r), some (.inr p), some (.inr s), some (.inr (whz (τ 4) r p))], [], τ)) (cf := (cod m1_canLeave 19, [some (.inl 7), some (.inr x), some (.inr r), some (.inr p), some (.inr s), some (.inr (whz (τ 4) r p))], [], τ)) rfl ⟨⟨by omega, by omega⟩, ⟨by omega, by omega⟩⟩ (fun h3 => ?_) (fun h3 => ?_)
                · first
                  | (exfalso; omega)
                  | (
                      refine ex_k 1 (P := none) (g := (cod m1_canLeave 33, [some (.inl 7), some (.inr x), some (.inr r), some (.inr p), some (.inr s), some (.inr (whz (τ 4) r p))], [.inr 0], τ)) rfl trivial ?_
                      exact ex_r rfl (by first | exact Or.inl rfl | exact Or.inr rfl | omega) rfl (rI (by first | rw [b2_t (by omega)] | rw [b2_f (by omega)])))
                · first
                  | (exfalso; omega)
                  | (
                      refine ex_k 3 (P := none) (g := (cod m1_canLeave 22, [some (.inl 7), some (.inr x), some (.inr r), some (.inr p), some (.inr s), some (.inr (whz (τ 4) r p))], [.inr s, .inr (whz (τ 4) r p), .inl 7], τ)) rfl trivial ?_
                      refine ex_c (s_goesBy (τ := τ) (f := whz (τ 4) r p) (s := s) (Or.inl ⟨rfl, rfl, rfl⟩) (by omega) (by omega) hB) (is := cod m1_canLeave 23) (L := [some (.inl 7), some (.inr x), some (.inr r), some (.inr p), some (.inr s), some (.inr (whz (τ 4) r p))]) (st := []) rfl rfl rfl ?_
                      show Ex _ _ (cod m1_canLeave 23, [some (.inl 7), some (.inr x), some (.inr r), some (.inr p), some (.inr s), some (.inr (whz (τ 4) r p))], [.inr (b2 ((cel (τ 4) (0 + (whz (τ 4) r p) * 6 + 0) = 0 ∧ s = 1) ∨ (¬ cel (τ 4) (0 + (whz (τ 4) r p) * 6 + 0) = 0 ∧ s = -1) ∨ cel (τ 4) (0 + (whz (τ 4) r p) * 6 + 3) = 1))], τ) _ _
                      refine ex_b (P := (b2 ((cel (τ 4) (0 + (whz (τ 4) r p) * 6 + 0) = 0 ∧ s = 1) ∨ (¬ cel (τ 4) (0 + (whz (τ 4) r p) * 6 + 0) = 0 ∧ s = -1) ∨ cel (τ 4) (0 + (whz (τ 4) r p) * 6 + 3) = 1)) = 0) (ct := (cod m1_canLeave 32, [some (.inl 7), some (.inr x), some (.inr r), some (.inr p), some (.inr s), some (.inr (whz (τ 4) r p))], [], τ)) (cf := (cod m1_canLeave 24, [some (.inl 7), some (.inr x), some (.inr r), some (.inr p), some (.inr s), some (.inr (whz (τ 4) r p))], [], τ)) rfl b2_rng (fun h4 => ?_) (fun h4 => ?_)
                      · first
                        | (exfalso; have h4 := b2_e0 h4; omega)
                        | (
                            have h4 := b2_e0 h4
                            refine ex_k 1 (P := none) (g := (cod m1_canLeave 33, [some (.inl 7), some (.inr x), some (.inr r), some (.inr p), some (.inr s), some (.inr (whz (τ 4) r p))], [.inr 0], τ)) rfl trivial ?_
                            exact ex_r rfl (by first | exact Or.inl rfl | exact Or.inr rfl | omega) rfl (rI (by first | rw [b2_t (by omega)] | rw [b2_f (by omega)])))
                      · first
                        | (exfalso; have h4 := b2_n0 h4; omega)
                        | (
                            have h4 := b2_n0 h4
                            refine ex_k 4 (P := none) (g := (cod m1_canLeave 28, [some (.inl 7), some (.inr x), some (.inr r), some (.inr p), some (.inr s), some (.inr (whz (τ 4) r p))], [.inr p, .inr r, .inl 1], τ)) rfl trivial ?_
                            refine ex_c (s_liesInFog (τ := τ) (r := r) (p := p) (Or.inl ⟨rfl, rfl⟩) (by omega) (by omega) hF hB) (is := cod m1_canLeave 29) (L := [some (.inl 7), some (.inr x), some (.inr r), some (.inr p), some (.inr s), some (.inr (whz (τ 4) r p))]) (st := []) rfl rfl rfl ?_
                            show Ex _ _ (cod m1_canLeave 29, [some (.inl 7), some (.inr x), some (.inr r), some (.inr p), some (.inr s), some (.inr (whz (τ 4) r p))], [.inr (b2 ((p - cel (τ 4) (96 + r) + 12) % 12 < cel (τ 4) (98 + r)))], τ) _ _
                            refine ex_b (P := ¬ (b2 ((p - cel (τ 4) (96 + r) + 12) % 12 < cel (τ 4) (98 + r))) = 0) (ct := (cod m1_canLeave 32, [some (.inl 7), some (.inr x), some (.inr r), some (.inr p), some (.inr s), some (.inr (whz (τ 4) r p))], [], τ)) (cf := (cod m1_canLeave 30, [some (.inl 7), some (.inr x), some (.inr r), some (.inr p), some (.inr s), some (.inr (whz (τ 4) r p))], [], τ)) rfl b2_rng (fun h5 => ?_) (fun h5 => ?_)
                            · first
                              | (exfalso; have h5 := b2_n0 h5; omega)
                              | (
                                  have h5 := b2_n0 h5
                                  refine ex_k 1 (P := none) (g := (cod m1_canLeave 33, [some (.inl 7), some (.inr x), some (.inr r), some (.inr p), some (.inr s), some (.inr (whz (τ 4) r p))], [.inr 0], τ)) rfl trivial ?_
                                  exact ex_r rfl (by first | exact Or.inl rfl | exact Or.inr rfl | omega) rfl (rI (by first | rw [b2_t (by omega)] | rw [b2_f (by omega)])))
                            · first
                              | (exfalso; have h5 := b2_nn0 h5; omega)
                              | (
                                  have h5 := b2_nn0 h5
                                  refine ex_k 2 (P := none) (g := (cod m1_canLeave 33, [some (.inl 7), some (.inr x), some (.inr r), some (.inr p), some (.inr s), some (.inr (whz (τ 4) r p))], [.inr 1], τ)) rfl trivial ?_
                                  exact ex_r rfl (by first | exact Or.inl rfl | exact Or.inr rfl | omega) rfl (rI (by first | rw [b2_t (by omega)] | rw [b2_f (by omega)])))))))
  · refine Ex.call ?_ rfl rfl
    show Ex _ _ (cod m1_canLeave 0, [some (.inl 8), some (.inr x), some (.inr r), some (.inr p), some (.inr s), none], [], τ) _ _
    refine ex_k 4 (P := none) (g := (cod m1_canLeave 4, [some (.inl 8), some (.inr x), some (.inr r), some (.inr p), some (.inr s), none], [.inr p, .inr r, .inl 2], τ)) rfl trivial ?_
    refine ex_c (s_whoIsAt (τ := τ) (r := r) (p := p) (Or.inr (Or.inl ⟨rfl, rfl⟩)) (by omega) ⟨by omega, by omega⟩) (is := cod m1_canLeave 5) (L := [some (.inl 8), some (.inr x), some (.inr r), some (.inr p), some (.inr s), none]) (st := []) rfl rfl rfl ?_
    show Ex _ _ (cod m1_canLeave 5, [some (.inl 8), some (.inr x), some (.inr r), some (.inr p), some (.inr s), none], [.inr (whz (τ 5) r p)], τ) _ _
    refine ex_k 3 (P := none) (g := (cod m1_canLeave 8, [some (.inl 8), some (.inr x), some (.inr r), some (.inr p), some (.inr s), some (.inr (whz (τ 5) r p))], [.inr (-1), .inr (whz (τ 5) r p)], τ)) rfl trivial ?_
    refine ex_b (P := (whz (τ 5) r p) = (-1)) (ct := (cod m1_canLeave 32, [some (.inl 8), some (.inr x), some (.inr r), some (.inr p), some (.inr s), some (.inr (whz (τ 5) r p))], [], τ)) (cf := (cod m1_canLeave 9, [some (.inl 8), some (.inr x), some (.inr r), some (.inr p), some (.inr s), some (.inr (whz (τ 5) r p))], [], τ)) rfl ⟨⟨by omega, by omega⟩, ⟨by decide, by decide⟩⟩ (fun h1 => ?_) (fun h1 => ?_)
    · first
      | (exfalso; omega)
      | (
          refine ex_k 1 (P := none) (g := (cod m1_canLeave 33, [some (.inl 8), some (.inr x), some (.inr r), some (.inr p), some (.inr s), some (.inr (whz (τ 5) r p))], [.inr 0], τ)) rfl trivial ?_
          exact ex_r rfl (by first | exact Or.inl rfl | exact Or.inr rfl | omega) rfl (rI (by first | rw [b2_t (by omega)] | rw [b2_f (by omega)])))
    · first
      | (exfalso; omega)
      | (
          refine ex_k 2 (P := none) (g := (cod m1_canLeave 11, [some (.inl 8), some (.inr x), some (.inr r), some (.inr p), some (.inr s), some (.inr (whz (τ 5) r p))], [.inr 8, .inr (whz (τ 5) r p)], τ)) rfl trivial ?_
          refine ex_b (P := (whz (τ 5) r p) = 8) (ct := (cod m1_canLeave 32, [some (.inl 8), some (.inr x), some (.inr r), some (.inr p), some (.inr s), some (.inr (whz (τ 5) r p))], [], τ)) (cf := (cod m1_canLeave 12, [some (.inl 8), some (.inr x), some (.inr r), some (.inr p), some (.inr s), some (.inr (whz (τ 5) r p))], [], τ)) rfl ⟨⟨by omega, by omega⟩, ⟨by decide, by decide⟩⟩ (fun h2 => ?_) (fun h2 => ?_)
          · first
            | (exfalso; omega)
            | (
                refine ex_k 1 (P := none) (g := (cod m1_canLeave 33, [some (.inl 8), some (.inr x), some (.inr r), some (.inr p), some (.inr s), some (.inr (whz (τ 5) r p))], [.inr 0], τ)) rfl trivial ?_
                exact ex_r rfl (by first | exact Or.inl rfl | exact Or.inr rfl | omega) rfl (rI (by first | rw [b2_t (by omega)] | rw [b2_f (by omega)])))
          · first
            | (exfalso; omega)
            | (
                refine ex_k 4 (P := none) (g := (cod m1_canLeave 16, [some (.inl 8), some (.inr x), some (.inr r), some (.inr p), some (.inr s), some (.inr (whz (τ 5) r p))], [.inr 0, .inr (whz (τ 5) r p), .inl 2], τ)) rfl trivial ?_
                refine ex_c (s_number (τ := τ) (f := whz (τ 5) r p) (w := 0) (Or.inr (Or.inl ⟨rfl, rfl⟩)) (by omega) (by omega)) (is := cod m1_canLeave 17) (L := [some (.inl 8), some (.inr x), some (.inr r), some (.inr p), some (.inr s), some (.inr (whz (τ 5) r p))]) (st := []) rfl rfl rfl ?_
                show Ex _ _ (cod m1_canLeave 17, [some (.inl 8), some (.inr x), some (.inr r), some (.inr p), some (.inr s), some (.inr (whz (τ 5) r p))], [.inr (cel (τ 5) (0 + (whz (τ 5) r p) * 6 + 0))], τ) _ _
                refine ex_k 1 (P := none) (g := (cod m1_canLeave 18, [some (.inl 8), some (.inr x), some (.inr r), some (.inr p), some (.inr s), some (.inr (whz (τ 5) r p))], [.inr x, .inr (cel (τ 5) (0 + (whz (τ 5) r p) * 6 + 0))], τ)) rfl trivial ?_
                refine ex_b (P := ¬ (cel (τ 5) (0 + (whz (τ 5) r p) * 6 + 0)) = x) (ct := (cod m1_canLeave 32, [some (.inl 8), some (.inr x), some (.inr r), some (.inr p), some (.inr s), some (.inr (whz (τ 5) r p))], [], τ)) (cf := (cod m1_canLeave 19, [some (.inl 8), some (.inr x), some (.inr r), some (.inr p), some (.inr s), some (.inr (whz (τ 5) r p))], [], τ)) rfl ⟨⟨by omega, by omega⟩, ⟨by omega, by omega⟩⟩ (fun h3 => ?_) (fun h3 => ?_)
                · first
                  | (exfalso; omega)
                  | (
                      refine ex_k 1 (P := none) (g := (cod m1_canLeave 33, [some (.inl 8), some (.inr x), some (.inr r), some (.inr p), some (.inr s), some (.inr (whz (τ 5) r p))], [.inr 0], τ)) rfl trivial ?_
                      exact ex_r rfl (by first | exact Or.inl rfl | exact Or.inr rfl | omega) rfl (rI (by first | rw [b2_t (by omega)] | rw [b2_f (by omega)])))
                · first
                  | (exfalso; omega)
                  | (
                      refine ex_k 3 (P := none) (g := (cod m1_canLeave 22, [some (.inl 8), some (.inr x), some (.inr r), some (.inr p), some (.inr s), some (.inr (whz (τ 5) r p))], [.inr s, .inr (whz (τ 5) r p), .inl 8], τ)) rfl trivial ?_
                      refine ex_c (s_goesBy (τ := τ) (f := whz (τ 5) r p) (s := s) (Or.inr ⟨rfl, rfl, rfl⟩) (by omega) (by omega) hB) (is := cod m1_canLeave 23) (L := [some (.inl 8), some (.inr x), some (.inr r), some (.inr p), some (.inr s), some (.inr (whz (τ 5) r p))]) (st := []) rfl rfl rfl ?_
                      show Ex _ _ (cod m1_canLeave 23, [some (.inl 8), some (.inr x), some (.inr r), some (.inr p), some (.inr s), some (.inr (whz (τ 5) r p))], [.inr (b2 ((cel (τ 5) (0 + (whz (τ 5) r p) * 6 + 0) = 0 ∧ s = 1) ∨ (¬ cel (τ 5) (0 + (whz (τ 5) r p) * 6 + 0) = 0 ∧ s = -1) ∨ cel (τ 5) (0 + (whz (τ 5) r p) * 6 + 3) = 1))], τ) _ _
                      refine ex_b (P := (b2 ((cel (τ 5) (0 + (whz (τ 5) r p) * 6 + 0) = 0 ∧ s = 1) ∨ (¬ cel (τ 5) (0 + (whz (τ 5) r p) * 6 + 0) = 0 ∧ s = -1) ∨ cel (τ 5) (0 + (whz (τ 5) r p) * 6 + 3) = 1)) = 0) (ct := (cod m1_canLeave 32, [some (.inl 8), some (.inr x), some (.inr r), some (.inr p), some (.inr s), some (.inr (whz (τ 5) r p))], [], τ)) (cf := (cod m1_canLeave 24, [some (.inl 8), some (.inr x), some (.inr r), some (.inr p), some (.inr s), some (.inr (whz (τ 5) r p))], [], τ)) rfl b2_rng (fun h4 => ?_) (fun h4 => ?_)
                      · first
                        | (exfalso; have h4 := b2_e0 h4; omega)
                        | (
                            have h4 := b2_e0 h4
                            refine ex_k 1 (P := none) (g := (cod m1_canLeave 33, [some (.inl 8), some (.inr x), some (.inr r), some (.inr p), some (.inr s), some (.inr (whz (τ 5) r p))], [.inr 0], τ)) rfl trivial ?_
                            exact ex_r rfl (by first | exact Or.inl rfl | exact Or.inr rfl | omega) rfl (rI (by first | rw [b2_t (by omega)] | rw [b2_f (by omega)])))
                      · first
                        | (exfalso; have h4 := b2_n0 h4; omega)
                        | (
                            have h4 := b2_n0 h4
                            refine ex_k 4 (P := none) (g := (cod m1_canLeave 28, [some (.inl 8), some (.inr x), some (.inr r), some (.inr p), some (.inr s), some (.inr (whz (τ 5) r p))], [.inr p, .inr r, .inl 2], τ)) rfl trivial ?_
                            refine ex_c (s_liesInFog (τ := τ) (r := r) (p := p) (Or.inr (Or.inl ⟨rfl, rfl⟩)) (by omega) (by omega) hF hB) (is := cod m1_canLeave 29) (L := [some (.inl 8), some (.inr x), some (.inr r), some (.inr p), some (.inr s), some (.inr (whz (τ 5) r p))]) (st := []) rfl rfl rfl ?_
                            show Ex _ _ (cod m1_canLeave 29, [some (.inl 8), some (.inr x), some (.inr r), some (.inr p), some (.inr s), some (.inr (whz (τ 5) r p))], [.inr (b2 ((p - cel (τ 5) (96 + r) + 12) % 12 < cel (τ 5) (98 + r)))], τ) _ _
                            refine ex_b (P := ¬ (b2 ((p - cel (τ 5) (96 + r) + 12) % 12 < cel (τ 5) (98 + r))) = 0) (ct := (cod m1_canLeave 32, [some (.inl 8), some (.inr x), some (.inr r), some (.inr p), some (.inr s), some (.inr (whz (τ 5) r p))], [], τ)) (cf := (cod m1_canLeave 30, [some (.inl 8), some (.inr x), some (.inr r), some (.inr p), some (.inr s), some (.inr (whz (τ 5) r p))], [], τ)) rfl b2_rng (fun h5 => ?_) (fun h5 => ?_)
                            · first
                              | (exfalso; have h5 := b2_n0 h5; omega)
                              | (
                                  have h5 := b2_n0 h5
                                  refine ex_k 1 (P := none) (g := (cod m1_canLeave 33, [some (.inl 8), some (.inr x), some (.inr r), some (.inr p), some (.inr s), some (.inr (whz (τ 5) r p))], [.inr 0], τ)) rfl trivial ?_
                                  exact ex_r rfl (by first | exact Or.inl rfl | exact Or.inr rfl | omega) rfl (rI (by first | rw [b2_t (by omega)] | rw [b2_f (by omega)])))
                            · first
                              | (exfalso; have h5 := b2_nn0 h5; omega)
                              | (
                                  have h5 := b2_nn0 h5
                                  refine ex_k 2 (P := none) (g := (cod m1_canLeave 33, [some (.inl 8), some (.inr x), some (.inr r), some (.inr p), some (.inr s), some (.inr (whz (τ 5) r p))], [.inr 1], τ)) rfl trivial ?_
                                  exact ex_r rfl (by first | exact Or.inl rfl | exact Or.inr rfl | omega) rfl (rI (by first | rw [b2_t (by omega)] | rw [b2_f (by omega)])))))))
end GAM
