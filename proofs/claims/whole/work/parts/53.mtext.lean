/-! contracts of the second implementation: what is read from a text: printed by wip/whole/db30.py -/
section MTX
def rsx (τ : SZ) (z w : Int) : SZ := zr τ 21 (zu (zu (τ 21) 15 z) 16 w)
theorem rsx_a {τ : SZ} {w : Int} : zr τ 21 (zu (τ 21) 16 w) = rsx τ (τ 21 15) w := by
  unfold rsx
  rw [zu_self]
theorem rsx_b {τ : SZ} {z w : Int} : zr τ 21 (zu (zu (τ 21) 16 w) 15 z) = rsx τ z w := by
  unfold rsx
  rw [zu_sw (i := 16) (j := 15) (by decide)]
abbrev hrb (n : Int) (f : Nat → Int) (lo hi z w : Int) : Prop := w = 0 ∧ lo ≤ sg n f z ∧ sg n f z ≤ hi
def rsg (n : Int) (f : Nat → Int) (lo hi z w : Int) : Int × Int × Int := if hrb n f lo hi z w then (sg n f z - lo, z + 1, 0) else (0, z, 1)
def rsk (n : Int) (f : Nat → Int) : List Int → Int → Int → Int × Int
  | [], z, w => (z, w)
  | p :: ps, z, w => if w = 0 then rsk n f ps (rsg n f p p z w).2.1 (rsg n f p p z w).2.2 else (z, w)
def rdd (n : Int) (f : Nat → Int) (z w : Int) : Int × Int × Int := rsg n f 48 57 (rsk n f [32] z w).1 (rsk n f [32] z w).2
def rdp (n : Int) (f : Nat → Int) (z w : Int) : Int × Int × Int := if hrb n f 48 57 (rdd n f z w).2.1 (rdd n f z w).2.2 then (10 * (rdd n f z w).1 + (rsg n f 48 57 (rdd n f z w).2.1 (rdd n f z w).2.2).1, (rsg n f 48 57 (rdd n f z w).2.1 (rdd n f z w).2.2).2) else rdd n f z w
def rdw (n : Int) (f : Nat → Int) (z w : Int) : Int × Int × Int := if hrb n f 45 45 z w then (0, (rsg n f 45 45 z w).2) else (1, (rsg n f 43 43 z w).2)
abbrev Zin (n z w : Int) : Prop := (0 ≤ z ∧ z ≤ n) ∧ (w = 0 ∨ w = 1)
theorem rsg_in {n : Int} {f : Nat → Int} {lo hi z w : Int} (hlo : 0 < lo) (hhi : hi < 65536) (hz : 0 ≤ z ∧ z ≤ n) : Zin n (rsg n f lo hi z w).2.1 (rsg n f lo hi z w).2.2 ∧ (0 ≤ (rsg n f lo hi z w).1 ∧ (rsg n f lo hi z w).1 ≤ 65535) ∧ (hi = 57 → lo = 48 → (rsg n f lo hi z w).1 ≤ 9) := by
  have h1 : sg n f z ≠ 0 → 0 ≤ z ∧ z < n := sg_at
  unfold rsg
  split
  next h => exact ⟨⟨⟨show 0 ≤ z + 1 by omega, show z + 1 ≤ n by omega⟩, Or.inl rfl⟩, ⟨show 0 ≤ sg n f z - lo by omega, show sg n f z - lo ≤ 65535 by omega⟩, fun a b => by show sg n f z - lo ≤ 9; omega⟩
  next h => exact ⟨⟨hz, Or.inr rfl⟩, ⟨Int.le_refl 0, show (0 : Int) ≤ 65535 by decide⟩, fun _ _ => show (0 : Int) ≤ 9 by decide⟩
theorem rsk_in {n : Int} {f : Nat → Int} : ∀ (l : List Int) (z w : Int), (∀ p, p ∈ l → 0 < p ∧ p < 1000) → Zin n z w → Zin n (rsk n f l z w).1 (rsk n f l z w).2
  | [], z, w, _, h => h
  | p :: ps, z, w, hl, h => by
    have hp := hl p List.mem_cons_self
    unfold rsk
    split
    · exact rsk_in ps _ _ (fun q hq => hl q (List.mem_cons_of_mem _ hq)) (rsg_in (by omega) (by omega) h.1).1
    · exact h
theorem rdd_in {n : Int} {f : Nat → Int} {z w : Int} (h : Zin n z w) : Zin n (rdd n f z w).2.1 (rdd n f z w).2.2 ∧ (0 ≤ (rdd n f z w).1 ∧ (rdd n f z w).1 ≤ 9) := by
  have q := rsg_in (f := f) (lo := 48) (hi := 57) (w := (rsk n f [32] z w).2) (by decide) (by decide) (rsk_in (f := f) [32] z w (by decide) h).1
  exact ⟨q.1, q.2.1.1, q.2.2 rfl rfl⟩
theorem rdp_in {n : Int} {f : Nat → Int} {z w : Int} (h : Zin n z w) : Zin n (rdp n f z w).2.1 (rdp n f z w).2.2 ∧ (0 ≤ (rdp n f z w).1 ∧ (rdp n f z w).1 ≤ 99) := by
  have q := rdd_in (f := f) h
  have q2 := rsg_in (f := f) (lo := 48) (hi := 57) (w := (rdd n f z w).2.2) (by decide) (by decide) q.1.1
  have q3 := q2.2.2 rfl rfl
  unfold rdp
  split
  · refine ⟨q2.1, ?_⟩
    show 0 ≤ 10 * (rdd n f z w).1 + (rsg n f 48 57 (rdd n f z w).2.1 (rdd n f z w).2.2).1 ∧ 10 * (rdd n f z w).1 + (rsg n f 48 57 (rdd n f z w).2.1 (rdd n f z w).2.2).1 ≤ 99
    omega
  · exact ⟨q.1, by omega⟩
theorem rdw_in {n : Int} {f : Nat → Int} {z w : Int} (h : Zin n z w) : Zin n (rdw n f z w).2.1 (rdw n f z w).2.2 ∧ (0 ≤ (rdw n f z w).1 ∧ (rdw n f z w).1 ≤ 1) := by
  have q1 := rsg_in (f := f) (lo := 45) (hi := 45) (w := w) (by decide) (by decide) h.1
  have q2 := rsg_in (f := f) (lo := 43) (hi := 43) (w := w) (by decide) (by decide) h.1
  unfold rdw
  split
  · exact ⟨q1.1, show (0 : Int) ≤ 0 ∧ (0 : Int) ≤ 1 by decide⟩
  · exact ⟨q2.1, show (0 : Int) ≤ 1 ∧ (1 : Int) ≤ 1 by decide⟩
def TM (τ : SZ) : Prop := (0 ≤ τ 21 14 ∧ τ 21 14 ≤ 60) ∧ (∀ i, 0 ≤ τ 29 i ∧ τ 29 i < 65536) ∧ Zin (τ 21 14) (τ 21 15) (τ 21 16)
theorem m_isHere {lo hi : Int} {τ : SZ} (hT : TM τ) (hlo : 0 < lo ∧ lo < 65536) (hhi : 0 < hi ∧ hi < 65536) : RZ 2 m8_isHere [.inl 21, .inr lo, .inr hi] τ (.inl (some (.inr (b2 (τ 21 16 = 0 ∧ lo ≤ sg (τ 21 14) (τ 29) (τ 21 15) ∧ sg (τ 21 14) (τ 29) (τ 21 15) ≤ hi))), τ)) := by
  obtain ⟨hT1, hT2, ⟨hT3, hT4⟩, hT5⟩ := hT
  have hsg := sg_in (n := τ 21 14) hT2 (τ 21 15)
  have hs0 : sg (τ 21 14) (τ 29) (τ 21 15) ≠ 0 → 0 ≤ τ 21 15 ∧ τ 21 15 < τ 21 14 := sg_at
  have hse : τ 21 15 < τ 21 14 → sg (τ 21 14) (τ 29) (τ 21 15) = τ 29 (τ 21 15).toNat := fun q => by unfold sg; rw [if_pos ⟨hT3, q⟩]
  have hch := hT2 (τ 21 15).toNat
  refine Ex.call ?_ rfl rfl
  show Ex _ _ (cod m8_isHere 0, [some (.inl 21), some (.inr lo), some (.inr hi)], [], τ) _ _
  refine ex_k 2 (P := none) (g := (cod m8_isHere 2, [some (.inl 21), some (.inr lo), some (.inr hi)], [.inr ((τ 21) 16)], τ)) rfl trivial ?_
  refine ex_b (P := ¬ ((τ 21) 16) = 0) (ct := (cod m8_isHere 19, [some (.inl 21), some (.inr lo), some (.inr hi)], [], τ)) (cf := (cod m8_isHere 3, [some (.inl 21), some (.inr lo), some (.inr hi)], [], τ)) rfl ⟨by omega, by omega⟩ (fun h1 => ?_) (fun h1 => ?_)
  · first
    | (exfalso; omega)
    | (
        refine ex_k 1 (P := none) (g := (cod m8_isHere 20, [some (.inl 21), some (.inr lo), some (.inr hi)], [.inr 0], τ)) rfl trivial ?_
        exact ex_r rfl (by first | exact Or.inl rfl | exact Or.inr rfl | (show 0 = 0 ∨ 0 = 1; omega)) rfl (rI (by first | rw [b2_t (by omega)] | rw [b2_f (by omega)])))
  · first
    | (exfalso; omega)
    | (
        refine ex_k 4 (P := none) (g := (cod m8_isHere 7, [some (.inl 21), some (.inr lo), some (.inr hi)], [.inr ((τ 21) 14), .inr ((τ 21) 15)], τ)) rfl trivial ?_
        refine ex_b (P := ((τ 21) 14) ≤ ((τ 21) 15)) (ct := (cod m8_isHere 19, [some (.inl 21), some (.inr lo), some (.inr hi)], [], τ)) (cf := (cod m8_isHere 8, [some (.inl 21), some (.inr lo), some (.inr hi)], [], τ)) rfl ⟨⟨by omega, by omega⟩, ⟨by omega, by omega⟩⟩ (fun h2 => ?_) (fun h2 => ?_)
        · first
          | (exfalso; omega)
          | (
              refine ex_k 1 (P := none) (g := (cod m8_isHere 20, [some (.inl 21), some (.inr lo), some (.inr hi)], [.inr 0], τ)) rfl trivial ?_
              exact ex_r rfl (by first | exact Or.inl rfl | exact Or.inr rfl | (show 0 = 0 ∨ 0 = 1; omega)) rfl (rI (by first | rw [b2_t (by omega)] | rw [b2_f (by omega)])))
        · first
          | (exfalso; omega)
          | (
              refine ex_k 5 (P := some (0 ≤ ((τ 21) 15) ∧ ((τ 21) 15) < ((60 : Nat) : Int))) (g := (cod m8_isHere 13, [some (.inl 21), some (.inr lo), some (.inr hi)], [.inr ((τ 29) ((τ 21) 15).toNat)], τ)) rfl (by show 0 ≤ ((τ 21) 15) ∧ ((τ 21) 15) < ((60 : Nat) : Int); omega) ?_
              refine ex_k 2 (P := none) (g := (cod m8_isHere 15, [some (.inl 21), some (.inr lo), some (.inr hi)], [.inr hi, .inr lo, .inr ((τ 29) ((τ 21) 15).toNat)], τ)) rfl trivial ?_
              refine ex_c (m_in (τ := τ) (v := (τ 29) ((τ 21) 15).toNat) (a := lo) (b := hi) ⟨by omega, by omega⟩ ⟨by omega, by omega⟩ ⟨by omega, by omega⟩) (is := cod m8_isHere 16) (L := [some (.inl 21), some (.inr lo), some (.inr hi)]) (st := []) rfl rfl rfl ?_
              show Ex _ _ (cod m8_isHere 16, [some (.inl 21), some (.inr lo), some (.inr hi)], [.inr (b2 (lo ≤ ((τ 29) ((τ 21) 15).toNat) ∧ ((τ 29) ((τ 21) 15).toNat) ≤ hi))], τ) _ _
              refine ex_b (P := (b2 (lo ≤ ((τ 29) ((τ 21) 15).toNat) ∧ ((τ 29) ((τ 21) 15).toNat) ≤ hi)) = 0) (ct := (cod m8_isHere 19, [some (.inl 21), some (.inr lo), some (.inr hi)], [], τ)) (cf := (cod m8_isHere 17, [some (.inl 21), some (.inr lo), some (.inr hi)], [], τ)) rfl b2_rng (fun h3 => ?_) (fun h3 => ?_)
              · first
                | (exfalso; have h3 := b2_e0 h3; omega)
                | (
                    have h3 := b2_e0 h3
                    refine ex_k 1 (P := none) (g := (cod m8_isHere 20, [some (.inl 21), some (.inr lo), some (.inr hi)], [.inr 0], τ)) rfl trivial ?_
                    exact ex_r rfl (by first | exact Or.inl rfl | exact Or.inr rfl | (show 0 = 0 ∨ 0 = 1; omega)) rfl (rI (by first | rw [b2_t (by omega)] | rw [b2_f (by omega)])))
              · first
                | (exfalso; have h3 := b2_n0 h3; omega)
                | (
                    have h3 := b2_n0 h3
                    refine ex_k 2 (P := none) (g := (cod m8_isHere 20, [some (.inl 21), some (.inr lo), some (.inr hi)], [.inr 1], τ)) rfl trivial ?_
                    exact ex_r rfl (by first | exact Or.inl rfl | exact Or.inr rfl | (show 1 = 0 ∨ 1 = 1; omega)) rfl (rI (by first | rw [b2_t (by omega)] | rw [b2_f (by omega)])))))
theorem m_sign {lo hi : Int} {τ : SZ} (hT : TM τ) (hlo : 0 < lo ∧ lo < 65536) (hhi : 0 < hi ∧ hi < 65536) : RZ 3 m8_sign [.inl 21, .inr lo, .inr hi] τ (.inl (some (.inr (rsg (τ 21 14) (τ 29) lo hi (τ 21 15) (τ 21 16)).1), rsx τ (rsg (τ 21 14) (τ 29) lo hi (τ 21 15) (τ 21 16)).2.1 (rsg (τ 21 14) (τ 29) lo hi (τ 21 15) (τ 21 16)).2.2)) := by
  have hT0 := hT
  obtain ⟨hT1, hT2, ⟨hT3, hT4⟩, hT5⟩ := hT
  have hsg := sg_in (n := τ 21 14) hT2 (τ 21 15)
  have hs0 : sg (τ 21 14) (τ 29) (τ 21 15) ≠ 0 → 0 ≤ τ 21 15 ∧ τ 21 15 < τ 21 14 := sg_at
  have hse : τ 21 15 < τ 21 14 → sg (τ 21 14) (τ 29) (τ 21 15) = τ 29 (τ 21 15).toNat := fun q => by unfold sg; rw [if_pos ⟨hT3, q⟩]
  have hch := hT2 (τ 21 15).toNat
  refine Ex.call ?_ rfl rfl
  show Ex _ _ (cod m8_sign 0, [some (.inl 21), some (.inr lo), some (.inr hi)], [], τ) _ _
  refine ex_k 3 (P := none) (g := (cod m8_sign 3, [some (.inl 21), some (.inr lo), some (.inr hi)], [.inr ((τ 21) 16), .inl 21], τ)) rfl trivial ?_
  refine ex_b (P := ¬ ((τ 21) 16) = 0) (ct := (cod m8_sign 9, [some (.inl 21), some (.inr lo), some (.inr hi)], [.inl 21], τ)) (cf := (cod m8_sign 4, [some (.inl 21), some (.inr lo), some (.inr hi)], [.inl 21], τ)) rfl ⟨by omega, by omega⟩ (fun h1 => ?_) (fun h1 => ?_)
  · first
    | (exfalso; omega)
    | (
        refine ex_k 3 (P := some (1 = 0 ∨ 1 = 1)) (g := (cod m8_sign 13, [some (.inl 21), some (.inr lo), some (.inr hi)], [], (zr τ 21 (zu (τ 21) 16 1)))) rfl (by show 1 = 0 ∨ 1 = 1; omega) ?_
        refine ex_k 2 (P := none) (g := (cod m8_sign 15, [some (.inl 21), some (.inr lo), some (.inr hi)], [.inr 1], (zr τ 21 (zu (τ 21) 16 1)))) rfl trivial ?_
        refine ex_b (P := 1 = 0) (ct := (cod m8_sign 18, [some (.inl 21), some (.inr lo), some (.inr hi)], [], (zr τ 21 (zu (τ 21) 16 1)))) (cf := (cod m8_sign 16, [some (.inl 21), some (.inr lo), some (.inr hi)], [], (zr τ 21 (zu (τ 21) 16 1)))) rfl ⟨by decide, by decide⟩ (fun hh => absurd hh (by decide)) (fun _ => ?_)
        refine ex_k 1 (P := none) (g := (cod m8_sign 17, [some (.inl 21), some (.inr lo), some (.inr hi)], [.inr 0], (zr τ 21 (zu (τ 21) 16 1)))) rfl trivial ?_
        exact ex_r rfl trivial rfl (rIV (by unfold rsg; rw [if_neg (by omega)]) (by rw [rsx_a]; unfold rsg; rw [if_neg (by omega)])))
  · first
    | (exfalso; omega)
    | (
        refine ex_k 3 (P := none) (g := (cod m8_sign 7, [some (.inl 21), some (.inr lo), some (.inr hi)], [.inr hi, .inr lo, .inl 21, .inl 21], τ)) rfl trivial ?_
        refine ex_c (m_isHere (τ := τ) (lo := lo) (hi := hi) hT0 (by omega) (by omega)) (is := cod m8_sign 8) (L := [some (.inl 21), some (.inr lo), some (.inr hi)]) (st := [.inl 21]) rfl rfl rfl ?_
        show Ex _ _ (cod m8_sign 8, [some (.inl 21), some (.inr lo), some (.inr hi)], [.inr (b2 (τ 21 16 = 0 ∧ lo ≤ sg (τ 21 14) (τ 29) (τ 21 15) ∧ sg (τ 21 14) (τ 29) (τ 21 15) ≤ hi)), .inl 21], τ) _ _
        refine ex_b (P := ¬ (b2 (τ 21 16 = 0 ∧ lo ≤ sg (τ 21 14) (τ 29) (τ 21 15) ∧ sg (τ 21 14) (τ 29) (τ 21 15) ≤ hi)) = 0) (ct := (cod m8_sign 11, [some (.inl 21), some (.inr lo), some (.inr hi)], [.inl 21], τ)) (cf := (cod m8_sign 9, [some (.inl 21), some (.inr lo), some (.inr hi)], [.inl 21], τ)) rfl b2_rng (fun h3 => ?_) (fun h3 => ?_)
        · first
          | (exfalso; have h3 := b2_n0 h3; omega)
          | (
              have h3 := b2_n0 h3
              refine ex_k 2 (P := some (0 = 0 ∨ 0 = 1)) (g := (cod m8_sign 13, [some (.inl 21), some (.inr lo), some (.inr hi)], [], (zr τ 21 (zu (τ 21) 16 0)))) rfl (by show 0 = 0 ∨ 0 = 1; omega) ?_
              refine ex_k 2 (P := none) (g := (cod m8_sign 15, [some (.inl 21), some (.inr lo), some (.inr hi)], [.inr 0], (zr τ 21 (zu (τ 21) 16 0)))) rfl trivial ?_
              refine ex_b (P := 0 = 0) (ct := (cod m8_sign 18, [some (.inl 21), some (.inr lo), some (.inr hi)], [], (zr τ 21 (zu (τ 21) 16 0)))) (cf := (cod m8_sign 16, [some (.inl 21), some (.inr lo), some (.inr hi)], [], (zr τ 21 (zu (τ 21) 16 0)))) rfl ⟨by decide, by decide⟩ (fun _ => ?_) (fun hh => absurd (by decide) hh)
              refine ex_k 6 (P := none) (g := (cod m8_sign 24, [some (.inl 21), some (.inr lo), some (.inr hi)], [], (zr (zr τ 21 (zu (τ 21) 16 0)) 21 (zu (zu (τ 21) 16 0) 15 (((τ 21) 15) + 1))))) rfl trivial ?_
              rw [zr_zr]
              refine ex_k 7 (P := some (0 ≤ ((((τ 21) 15) + 1) - 1) ∧ ((((τ 21) 15) + 1) - 1) < ((60 : Nat) : Int))) (g := (cod m8_sign 31, [some (.inl 21), some (.inr lo), some (.inr hi)], [.inr ((τ 29) ((((τ 21) 15) + 1) - 1).toNat)], (zr τ 21 (zu (zu (τ 21) 16 0) 15 (((τ 21) 15) + 1))))) rfl (by show 0 ≤ ((((τ 21) 15) + 1) - 1) ∧ ((((τ 21) 15) + 1) - 1) < ((60 : Nat) : Int); omega) ?_
              refine ex_k 2 (P := none) (g := (cod m8_sign 33, [some (.inl 21), some (.inr lo), some (.inr hi)], [.inr (((τ 29) ((((τ 21) 15) + 1) - 1).toNat) - lo)], (zr τ 21 (zu (zu (τ 21) 16 0) 15 (((τ 21) 15) + 1))))) rfl trivial ?_
              exact ex_r rfl trivial rfl (rIV (by unfold rsg; rw [if_pos (by omega)]; rw [show τ 21 15 + 1 - 1 = τ 21 15 from by omega]; show sg (τ 21 14) (τ 29) (τ 21 15) - lo = _; rw [hse (by omega)]) (by rw [rsx_b]; unfold rsg; rw [if_pos (by omega)])))
        · first
          | (exfalso; have h3 := b2_nn0 h3; omega)
          | (
              have h3 := b2_nn0 h3
              refine ex_k 3 (P := some (1 = 0 ∨ 1 = 1)) (g := (cod m8_sign 13, [some (.inl 21), some (.inr lo), some (.inr hi)], [], (zr τ 21 (zu (τ 21) 16 1)))) rfl (by show 1 = 0 ∨ 1 = 1; omega) ?_
              refine ex_k 2 (P := none) (g := (cod m8_sign 15, [some (.inl 21), some (.inr lo), some (.inr hi)], [.inr 1], (zr τ 21 (zu (τ 21) 16 1)))) rfl trivial ?_
              refine ex_b (P := 1 = 0) (ct := (cod m8_sign 18, [some (.inl 21), some (.inr lo), some (.inr hi)], [], (zr τ 21 (zu (τ 21) 16 1)))) (cf := (cod m8_sign 16, [some (.inl 21), some (.inr lo), some (.inr hi)], [], (zr τ 21 (zu (τ 21) 16 1)))) rfl ⟨by decide, by decide⟩ (fun hh => absurd hh (by decide)) (fun _ => ?_)
              refine ex_k 1 (P := none) (g := (cod m8_sign 17, [some (.inl 21), some (.inr lo), some (.inr hi)], [.inr 0], (zr τ 21 (zu (τ 21) 16 1)))) rfl trivial ?_
              exact ex_r rfl trivial rfl (rIV (by unfold rsg; rw [if_neg (by omega)]) (by rw [rsx_a]; unfold rsg; rw [if_neg (by omega)]))))
theorem lp_skip_5 {τ : SZ} (hT : TM τ) : ∀ (ps : List Int) (k : Nat) (z w : Int) (o3 : Option VZ), List.drop k [112, 97, 115, 115] = ps → (∀ p, p ∈ ps → 0 < p ∧ p < 1000) → k + ps.length = 4 → Zin (τ 21 14) z w → Ex 3 m8_skip (cod m8_skip 2, [some (.inl 21), some (.inl 105), some (.inr (k : Int)), o3], [], (zr τ 21 (zu (zu (τ 21) 15 z) 16 w))) 0 (.inl (none, zr τ 21 (zu (zu (τ 21) 15 (rsk (τ 21 14) (τ 29) ps z w).1) 16 (rsk (τ 21 14) (τ 29) ps z w).2))) := by
  have hT0 := hT
  obtain ⟨hT1, hT2, ⟨hT3, hT4⟩, hT5⟩ := hT
  have hlen : ((byS.getD 5 []).length : Int) = 4 := rfl
  intro ps
  induction ps with
  | nil =>
    intro k z w o3 hd hpp hk hzw
    rw [List.length_nil] at hk
    refine ex_k 3 (P := none) (g := (cod m8_skip 5, [some (.inl 21), some (.inl 105), some (.inr (k : Int)), o3], [.inr ((byS.getD 5 []).length : Int), .inr (k : Int)], (zr τ 21 (zu (zu (τ 21) 15 z) 16 w)))) rfl trivial ?_
    refine ex_b (P := ((byS.getD 5 []).length : Int) ≤ (k : Int)) (ct := (cod m8_skip 20, [some (.inl 21), some (.inl 105), some (.inr (k : Int)), o3], [], (zr τ 21 (zu (zu (τ 21) 15 z) 16 w)))) (cf := (cod m8_skip 6, [some (.inl 21), some (.inl 105), some (.inr (k : Int)), o3], [], (zr τ 21 (zu (zu (τ 21) 15 z) 16 w)))) rfl ⟨⟨by omega, by omega⟩, ⟨by omega, by omega⟩⟩ (fun _ => ?_) (fun hh => absurd (by omega) hh)
    exact ex_r rfl rfl rfl (rfl)
  | cons p ps ih =>
    intro k z w o3 hd hpp hk hzw
    obtain ⟨hx1, hx2, hx3⟩ := chl (b := byS.getD 5 []) rfl hd
    have hp0 := hpp p (List.mem_cons_self)
    have hps := fun q hq => hpp q (List.mem_cons_of_mem p hq)
    rw [List.length_cons] at hk
    have hkn : ((k : Int)).toNat = k := rfl
    refine ex_k 3 (P := none) (g := (cod m8_skip 5, [some (.inl 21), some (.inl 105), some (.inr (k : Int)), o3], [.inr ((byS.getD 5 []).length : Int), .inr (k : Int)], (zr τ 21 (zu (zu (τ 21) 15 z) 16 w)))) rfl trivial ?_
    refine ex_b (P := ((byS.getD 5 []).length : Int) ≤ (k : Int)) (ct := (cod m8_skip 20, [some (.inl 21), some (.inl 105), some (.inr (k : Int)), o3], [], (zr τ 21 (zu (zu (τ 21) 15 z) 16 w)))) (cf := (cod m8_skip 6, [some (.inl 21), some (.inl 105), some (.inr (k : Int)), o3], [], (zr τ 21 (zu (zu (τ 21) 15 z) 16 w)))) rfl ⟨⟨by omega, by omega⟩, ⟨by omega, by omega⟩⟩ (fun hh => absurd hh (by omega)) (fun _ => ?_)
    refine ex_k 2 (P := none) (g := (cod m8_skip 8, [some (.inl 21), some (.inl 105), some (.inr (k : Int)), o3], [.inr w], (zr τ 21 (zu (zu (τ 21) 15 z) 16 w)))) rfl trivial ?_
    refine ex_b (P := ¬ w = 0) (ct := (cod m8_skip 20, [some (.inl 21), some (.inl 105), some (.inr (k : Int)), o3], [], (zr τ 21 (zu (zu (τ 21) 15 z) 16 w)))) (cf := (cod m8_skip 9, [some (.inl 21), some (.inl 105), some (.inr (k : Int)), o3], [], (zr τ 21 (zu (zu (τ 21) 15 z) 16 w)))) rfl ⟨by omega, by omega⟩ (fun h2 => ?_) (fun h2 => ?_)
    · first
      | (exfalso; omega)
      | (
          exact ex_r rfl rfl rfl (by rw [show rsk (τ 21 14) (τ 29) (p :: ps) z w = (z, w) from if_neg (by omega)]))
    · first
      | (exfalso; omega)
      | (
          refine ex_k 4 (P := some (0 ≤ (k : Int) ∧ (k : Int) < ((byS.getD 5 []).length : Int))) (g := (cod m8_skip 13, [some (.inl 21), some (.inl 105), some (.inr (k : Int)), o3], [.inr (((byS.getD 5 []).getD (k : Int).toNat 0).toInt), .inl 21], (zr τ 21 (zu (zu (τ 21) 15 z) 16 w)))) rfl (by show 0 ≤ (k : Int) ∧ (k : Int) < ((byS.getD 5 []).length : Int); omega) ?_
          refine ex_k 3 (P := some (0 ≤ (k : Int) ∧ (k : Int) < ((byS.getD 5 []).length : Int))) (g := (cod m8_skip 16, [some (.inl 21), some (.inl 105), some (.inr (k : Int)), o3], [.inr (((byS.getD 5 []).getD (k : Int).toNat 0).toInt), .inr (((byS.getD 5 []).getD (k : Int).toNat 0).toInt), .inl 21], (zr τ 21 (zu (zu (τ 21) 15 z) 16 w)))) rfl (by show 0 ≤ (k : Int) ∧ (k : Int) < ((byS.getD 5 []).length : Int); omega) ?_
          rw [show ((byS.getD 5 []).getD (k : Int).toNat 0).toInt = p from hx2]
          have hi1 := rsg_in (n := τ 21 14) (f := τ 29) (lo := p) (hi := p) (z := z) (w := w) (by omega) (by omega) (by omega)
          have hc1 := m_sign (τ := (zr τ 21 (zu (zu (τ 21) 15 z) 16 w))) (lo := p) (hi := p) ⟨hT1, hT2, (show Zin (τ 21 14) z w from ⟨by omega, by omega⟩)⟩ (by omega) (by omega)
          change RZ _ _ _ _ (.inl (some (.inr (rsg (τ 21 14) (τ 29) p p z w).1), rsx _ (rsg (τ 21 14) (τ 29) p p z w).2.1 (rsg (τ 21 14) (τ 29) p p z w).2.2)) at hc1
          obtain ⟨E1, hE1⟩ : ∃ E, E = rsg (τ 21 14) (τ 29) p p z w := ⟨_, rfl⟩
          rw [← hE1] at hc1 hi1
          refine ex_c hc1 (is := cod m8_skip 17) (L := [some (.inl 21), some (.inl 105), some (.inr (k : Int)), o3]) (st := []) rfl rfl rfl ?_
          show Ex _ _ (cod m8_skip 17, [some (.inl 21), some (.inl 105), some (.inr (k : Int)), o3], [.inr E1.1], (zr (zr τ 21 (zu (zu (τ 21) 15 z) 16 w)) 21 (zu (zu (zu (zu (τ 21) 15 z) 16 w) 15 E1.2.1) 16 E1.2.2))) _ _
          rw [zr_zr, zu_sw (i := 16) (j := 15) (by decide), zu_zu (i := 15), zu_zu (i := 16)]
          refine ex_k 3 (P := none) (g := (cod m8_skip 2, [some (.inl 21), some (.inl 105), some (.inr ((k : Int) + 1)), some (.inr E1.1)], [], (zr τ 21 (zu (zu (τ 21) 15 E1.2.1) 16 E1.2.2)))) rfl trivial ?_
          rw [show rsk (τ 21 14) (τ 29) (p :: ps) z w = rsk (τ 21 14) (τ 29) ps E1.2.1 E1.2.2 from by rw [hE1]; exact if_pos (by omega)]
          exact ih (k + 1) _ _ _ hx3 hps (by omega) hi1.1)
theorem m_skip_5 {τ : SZ} (hT : TM τ) : RZ 4 m8_skip [.inl 21, .inl 105] τ (.inl (none, rsx τ (rsk (τ 21 14) (τ 29) [112, 97, 115, 115] (τ 21 15) (τ 21 16)).1 (rsk (τ 21 14) (τ 29) [112, 97, 115, 115] (τ 21 15) (τ 21 16)).2)) := by
  refine Ex.call ?_ rfl rfl
  show Ex _ _ (cod m8_skip 0, [some (.inl 21), some (.inl 105), none, none], [], τ) _ _
  refine ex_k 2 (P := none) (g := (cod m8_skip 2, [some (.inl 21), some (.inl 105), some (.inr 0), none], [], τ)) rfl trivial ?_
  have q := lp_skip_5 (τ := τ) hT [112, 97, 115, 115] 0 (τ 21 15) (τ 21 16) none rfl (by decide) rfl hT.2.2
  rw [show zr τ 21 (zu (zu (τ 21) 15 (τ 21 15)) 16 (τ 21 16)) = τ from by rw [zu_self, zu_self, zr_self]] at q
  exact q
theorem lp_skip_6 {τ : SZ} (hT : TM τ) : ∀ (ps : List Int) (k : Nat) (z w : Int) (o3 : Option VZ), List.drop k [32] = ps → (∀ p, p ∈ ps → 0 < p ∧ p < 1000) → k + ps.length = 1 → Zin (τ 21 14) z w → Ex 3 m8_skip (cod m8_skip 2, [some (.inl 21), some (.inl 106), some (.inr (k : Int)), o3], [], (zr τ 21 (zu (zu (τ 21) 15 z) 16 w))) 0 (.inl (none, zr τ 21 (zu (zu (τ 21) 15 (rsk (τ 21 14) (τ 29) ps z w).1) 16 (rsk (τ 21 14) (τ 29) ps z w).2))) := by
  have hT0 := hT
  obtain ⟨hT1, hT2, ⟨hT3, hT4⟩, hT5⟩ := hT
  have hlen : ((byS.getD 6 []).length : Int) = 1 := rfl
  intro ps
  induction ps with
  | nil =>
    intro k z w o3 hd hpp hk hzw
    rw [List.length_nil] at hk
    refine ex_k 3 (P := none) (g := (cod m8_skip 5, [some (.inl 21), some (.inl 106), some (.inr (k : Int)), o3], [.inr ((byS.getD 6 []).length : Int), .inr (k : Int)], (zr τ 21 (zu (zu (τ 21) 15 z) 16 w)))) rfl trivial ?_
    refine ex_b (P := ((byS.getD 6 []).length : Int) ≤ (k : Int)) (ct := (cod m8_skip 20, [some (.inl 21), some (.inl 106), some (.inr (k : Int)), o3], [], (zr τ 21 (zu (zu (τ 21) 15 z) 16 w)))) (cf := (cod m8_skip 6, [some (.inl 21), some (.inl 106), some (.inr (k : Int)), o3], [], (zr τ 21 (zu (zu (τ 21) 15 z) 16 w)))) rfl ⟨⟨by omega, by omega⟩, ⟨by omega, by omega⟩⟩ (fun _ => ?_) (fun hh => absurd (by omega) hh)
    exact ex_r rfl rfl rfl (rfl)
  | cons p ps ih =>
    intro k z w o3 hd hpp hk hzw
    obtain ⟨hx1, hx2, hx3⟩ := chl (b := byS.getD 6 []) rfl hd
    have hp0 := hpp p (List.mem_cons_self)
    have hps := fun q hq => hpp q (List.mem_cons_of_mem p hq)
    rw [List.length_cons] at hk
    have hkn : ((k : Int)).toNat = k := rfl
    refine ex_k 3 (P := none) (g := (cod m8_skip 5, [some (.inl 21), some (.inl 106), some (.inr (k : Int)), o3], [.inr ((byS.getD 6 []).length : Int), .inr (k : Int)], (zr τ 21 (zu (zu (τ 21) 15 z) 16 w)))) rfl trivial ?_
    refine ex_b (P := ((byS.getD 6 []).length : Int) ≤ (k : Int)) (ct := (cod m8_skip 20, [some (.inl 21), some (.inl 106), some (.inr (k : Int)), o3], [], (zr τ 21 (zu (zu (τ 21) 15 z) 16 w)))) (cf := (cod m8_skip 6, [some (.inl 21), some (.inl 106), some (.inr (k : Int)), o3], [], (zr τ 21 (zu (zu (τ 21) 15 z) 16 w)))) rfl ⟨⟨by omega, by omega⟩, ⟨by omega, by omega⟩⟩ (fun hh => absurd hh (by omega)) (fun _ => ?_)
    refine ex_k 2 (P := none) (g := (cod m8_skip 8, [some (.inl 21), some (.inl 106), some (.inr (k : Int)), o3], [.inr w], (zr τ 21 (zu (zu (τ 21) 15 z) 16 w)))) rfl trivial ?_
    refine ex_b (P := ¬ w = 0) (ct := (cod m8_skip 20, [some (.inl 21), some (.inl 106), some (.inr (k : Int)), o3], [], (zr τ 21 (zu (zu (τ 21) 15 z) 16 w)))) (cf := (cod m8_skip 9, [some (.inl 21), some (.inl 106), some (.inr (k : Int)), o3], [], (zr τ 21 (zu (zu (τ 21) 15 z) 16 w)))) rfl ⟨by omega, by omega⟩ (fun h2 => ?_) (fun h2 => ?_)
    · first
      | (exfalso; omega)
      | (
          exact ex_r rfl rfl rfl (by rw [show rsk (τ 21 14) (τ 29) (p :: ps) z w = (z, w) from if_neg (by omega)]))
    · first
      | (exfalso; omega)
      | (
          refine ex_k 4 (P := some (0 ≤ (k : Int) ∧ (k : Int) < ((byS.getD 6 []).length : Int))) (g := (cod m8_skip 13, [some (.inl 21), some (.inl 106), some (.inr (k : Int)), o3], [.inr (((byS.getD 6 []).getD (k : Int).toNat 0).toInt), .inl 21], (zr τ 21 (zu (zu (τ 21) 15 z) 16 w)))) rfl (by show 0 ≤ (k : Int) ∧ (k : Int) < ((byS.getD 6 []).length : Int); omega) ?_
          refine ex_k 3 (P := some (0 ≤ (k : Int) ∧ (k : Int) < ((byS.getD 6 []).length : Int))) (g := (cod m8_skip 16, [some (.inl 21), some (.inl 106), some (.inr (k : Int)), o3], [.inr (((byS.getD 6 []).getD (k : Int).toNat 0).toInt), .inr (((byS.getD 6 []).getD (k : Int).toNat 0).toInt), .inl 21], (zr τ 21 (zu (zu (τ 21) 15 z) 16 w)))) rfl (by show 0 ≤ (k : Int) ∧ (k : Int) < ((byS.getD 6 []).length : Int); omega) ?_
          rw [show ((byS.getD 6 []).getD (k : Int).toNat 0).toInt = p from hx2]
          have hi2 := rsg_in (n := τ 21 14) (f := τ 29) (lo := p) (hi := p) (z := z) (w := w) (by omega) (by omega) (by omega)
          have hc2 := m_sign (τ := (zr τ 21 (zu (zu (τ 21) 15 z) 16 w))) (lo := p) (hi := p) ⟨hT1, hT2, (show Zin (τ 21 14) z w from ⟨by omega, by omega⟩)⟩ (by omega) (by omega)
          change RZ _ _ _ _ (.inl (some (.inr (rsg (τ 21 14) (τ 29) p p z w).1), rsx _ (rsg (τ 21 14) (τ 29) p p z w).2.1 (rsg (τ 21 14) (τ 29) p p z w).2.2)) at hc2
          obtain ⟨E2, hE2⟩ : ∃ E, E = rsg (τ 21 14) (τ 29) p p z w := ⟨_, rfl⟩
          rw [← hE2] at hc2 hi2
          refine ex_c hc2 (is := cod m8_skip 17) (L := [some (.inl 21), some (.inl 106), some (.inr (k : Int)), o3]) (st := []) rfl rfl rfl ?_
          show Ex _ _ (cod m8_skip 17, [some (.inl 21), some (.inl 106), some (.inr (k : Int)), o3], [.inr E2.1], (zr (zr τ 21 (zu (zu (τ 21) 15 z) 16 w)) 21 (zu (zu (zu (zu (τ 21) 15 z) 16 w) 15 E2.2.1) 16 E2.2.2))) _ _
          rw [zr_zr, zu_sw (i := 16) (j := 15) (by decide), zu_zu (i := 15), zu_zu (i := 16)]
          refine ex_k 3 (P := none) (g := (cod m8_skip 2, [some (.inl 21), some (.inl 106), some (.inr ((k : Int) + 1)), some (.inr E2.1)], [], (zr τ 21 (zu (zu (τ 21) 15 E2.2.1) 16 E2.2.2)))) rfl trivial ?_
          rw [show rsk (τ 21 14) (τ 29) (p :: ps) z w = rsk (τ 21 14) (τ 29) ps E2.2.1 E2.2.2 from by rw [hE2]; exact if_pos (by omega)]
          exact ih (k + 1) _ _ _ hx3 hps (by omega) hi2.1)
theorem m_skip_6 {τ : SZ} (hT : TM τ) : RZ 4 m8_skip [.inl 21, .inl 106] τ (.inl (none, rsx τ (rsk (τ 21 14) (τ 29) [32] (τ 21 15) (τ 21 16)).1 (rsk (τ 21 14) (τ 29) [32] (τ 21 15) (τ 21 16)).2)) := by
  refine Ex.call ?_ rfl rfl
  show Ex _ _ (cod m8_skip 0, [some (.inl 21), some (.inl 106), none, none], [], τ) _ _
  refine ex_k 2 (P := none) (g := (cod m8_skip 2, [some (.inl 21), some (.inl 106), some (.inr 0), none], [], τ)) rfl trivial ?_
  have q := lp_skip_6 (τ := τ) hT [32] 0 (τ 21 15) (τ 21 16) none rfl (by decide) rfl hT.2.2
  rw [show zr τ 21 (zu (zu (τ 21) 15 (τ 21 15)) 16 (τ 21 16)) = τ from by rw [zu_self, zu_self, zr_self]] at q
  exact q
theorem lp_skip_7 {τ : SZ} (hT : TM τ) : ∀ (ps : List Int) (k : Nat) (z w : Int) (o3 : Option VZ), List.drop k [102, 111, 103] = ps → (∀ p, p ∈ ps → 0 < p ∧ p < 1000) → k + ps.length = 3 → Zin (τ 21 14) z w → Ex 3 m8_skip (cod m8_skip 2, [some (.inl 21), some (.inl 107), some (.inr (k : Int)), o3], [], (zr τ 21 (zu (zu (τ 21) 15 z) 16 w))) 0 (.inl (none, zr τ 21 (zu (zu (τ 21) 15 (rsk (τ 21 14) (τ 29) ps z w).1) 16 (rsk (τ 21 14) (τ 29) ps z w).2))) := by
  have hT0 := hT
  obtain ⟨hT1, hT2, ⟨hT3, hT4⟩, hT5⟩ := hT
  have hlen : ((byS.getD 7 []).length : Int) = 3 := rfl
  intro ps
  induction ps with
  | nil =>
    intro k z w o3 hd hpp hk hzw
    rw [List.length_nil] at hk
    refine ex_k 3 (P := none) (g := (cod m8_skip 5, [some (.inl 21), some (.inl 107), some (.inr (k : Int)), o3], [.inr ((byS.getD 7 []).length : Int), .inr (k : Int)], (zr τ 21 (zu (zu (τ 21) 15 z) 16 w)))) rfl trivial ?_
    refine ex_b (P := ((byS.getD 7 []).length : Int) ≤ (k : Int)) (ct := (cod m8_skip 20, [some (.inl 21), some (.inl 107), some (.inr (k : Int)), o3], [], (zr τ 21 (zu (zu (τ 21) 15 z) 16 w)))) (cf := (cod m8_skip 6, [some (.inl 21), some (.inl 107), some (.inr (k : Int)), o3], [], (zr τ 21 (zu (zu (τ 21) 15 z) 16 w)))) rfl ⟨⟨by omega, by omega⟩, ⟨by omega, by omega⟩⟩ (fun _ => ?_) (fun hh => absurd (by omega) hh)
    exact ex_r rfl rfl rfl (rfl)
  | cons p ps ih =>
    intro k z w o3 hd hpp hk hzw
    obtain ⟨hx1, hx2, hx3⟩ := chl (b := byS.getD 7 []) rfl hd
    have hp0 := hpp p (List.mem_cons_self)
    have hps := fun q hq => hpp q (List.mem_cons_of_mem p hq)
    rw [List.length_cons] at hk
    have hkn : ((k : Int)).toNat = k := rfl
    refine ex_k 3 (P := none) (g := (cod m8_skip 5, [some (.inl 21), some (.inl 107), some (.inr (k : Int)), o3], [.inr ((byS.getD 7 []).length : Int), .inr (k : Int)], (zr τ 21 (zu (zu (τ 21) 15 z) 16 w)))) rfl trivial ?_
    refine ex_b (P := ((byS.getD 7 []).length : Int) ≤ (k : Int)) (ct := (cod m8_skip 20, [some (.inl 21), some (.inl 107), some (.inr (k : Int)), o3], [], (zr τ 21 (zu (zu (τ 21) 15 z) 16 w)))) (cf := (cod m8_skip 6, [some (.inl 21), some (.inl 107), some (.inr (k : Int)), o3], [], (zr τ 21 (zu (zu (τ 21) 15 z) 16 w)))) rfl ⟨⟨by omega, by omega⟩, ⟨by omega, by omega⟩⟩ (fun hh => absurd hh (by omega)) (fun _ => ?_)
    refine ex_k 2 (P := none) (g := (cod m8_skip 8, [some (.inl 21), some (.inl 107), some (.inr (k : Int)), o3], [.inr w], (zr τ 21 (zu (zu (τ 21) 15 z) 16 w)))) rfl trivial ?_
    refine ex_b (P := ¬ w = 0) (ct := (cod m8_skip 20, [some (.inl 21), some (.inl 107), some (.inr (k : Int)), o3], [], (zr τ 21 (zu (zu (τ 21) 15 z) 16 w)))) (cf := (cod m8_skip 9, [some (.inl 21), some (.inl 107), some (.inr (k : Int)), o3], [], (zr τ 21 (zu (zu (τ 21) 15 z) 16 w)))) rfl ⟨by omega, by omega⟩ (fun h2 => ?_) (fun h2 => ?_)
    · first
      | (exfalso; omega)
      | (
          exact ex_r rfl rfl rfl (by rw [show rsk (τ 21 14) (τ 29) (p :: ps) z w = (z, w) from if_neg (by omega)]))
    · first
      | (exfalso; omega)
      | (
          refine ex_k 4 (P := some (0 ≤ (k : Int) ∧ (k : Int) < ((byS.getD 7 []).length : Int))) (g := (cod m8_skip 13, [some (.inl 21), some (.inl 107), some (.inr (k : Int)), o3], [.inr (((byS.getD 7 []).getD (k : Int).toNat 0).toInt), .inl 21], (zr τ 21 (zu (zu (τ 21) 15 z) 16 w)))) rfl (by show 0 ≤ (k : Int) ∧ (k : Int) < ((byS.getD 7 []).length : Int); omega) ?_
          refine ex_k 3 (P := some (0 ≤ (k : Int) ∧ (k : Int) < ((byS.getD 7 []).length : Int))) (g := (cod m8_skip 16, [some (.inl 21), some (.inl 107), some (.inr (k : Int)), o3], [.inr (((byS.getD 7 []).getD (k : Int).toNat 0).toInt), .inr (((byS.getD 7 []).getD (k : Int).toNat 0).toInt), .inl 21], (zr τ 21 (zu (zu (τ 21) 15 z) 16 w)))) rfl (by show 0 ≤ (k : Int) ∧ (k : Int) < ((byS.getD 7 []).length : Int); omega) ?_
          rw [show ((byS.getD 7 []).getD (k : Int).toNat 0).toInt = p from hx2]
          have hi3 := rsg_in (n := τ 21 14) (f := τ 29) (lo := p) (hi := p) (z := z) (w := w) (by omega) (by omega) (by omega)
          have hc3 := m_sign (τ := (zr τ 21 (zu (zu (τ 21) 15 z) 16 w))) (lo := p) (hi := p) ⟨hT1, hT2, (show Zin (τ 21 14) z w from ⟨by omega, by omega⟩)⟩ (by omega) (by omega)
          change RZ _ _ _ _ (.inl (some (.inr (rsg (τ 21 14) (τ 29) p p z w).1), rsx _ (rsg (τ 21 14) (τ 29) p p z w).2.1 (rsg (τ 21 14) (τ 29) p p z w).2.2)) at hc3
          obtain ⟨E3, hE3⟩ : ∃ E, E = rsg (τ 21 14) (τ 29) p p z w := ⟨_, rfl⟩
          rw [← hE3] at hc3 hi3
          refine ex_c hc3 (is := cod m8_skip 17) (L := [some (.inl 21), some (.inl 107), some (.inr (k : Int)), o3]) (st := []) rfl rfl rfl ?_
          show Ex _ _ (cod m8_skip 17, [some (.inl 21), some (.inl 107), some (.inr (k : Int)), o3], [.inr E3.1], (zr (zr τ 21 (zu (zu (τ 21) 15 z) 16 w)) 21 (zu (zu (zu (zu (τ 21) 15 z) 16 w) 15 E3.2.1) 16 E3.2.2))) _ _
          rw [zr_zr, zu_sw (i := 16) (j := 15) (by decide), zu_zu (i := 15), zu_zu (i := 16)]
          refine ex_k 3 (P := none) (g := (cod m8_skip 2, [some (.inl 21), some (.inl 107), some (.inr ((k : Int) + 1)), some (.inr E3.1)], [], (zr τ 21 (zu (zu (τ 21) 15 E3.2.1) 16 E3.2.2)))) rfl trivial ?_
          rw [show rsk (τ 21 14) (τ 29) (p :: ps) z w = rsk (τ 21 14) (τ 29) ps E3.2.1 E3.2.2 from by rw [hE3]; exact if_pos (by omega)]
          exact ih (k + 1) _ _ _ hx3 hps (by omega) hi3.1)
theorem m_skip_7 {τ : SZ} (hT : TM τ) : RZ 4 m8_skip [.inl 21, .inl 107] τ (.inl (none, rsx τ (rsk (τ 21 14) (τ 29) [102, 111, 103] (τ 21 15) (τ 21 16)).1 (rsk (τ 21 14) (τ 29) [102, 111, 103] (τ 21 15) (τ 21 16)).2)) := by
  refine Ex.call ?_ rfl rfl
  show Ex _ _ (cod m8_skip 0, [some (.inl 21), some (.inl 107), none, none], [], τ) _ _
  refine ex_k 2 (P := none) (g := (cod m8_skip 2, [some (.inl 21), some (.inl 107), some (.inr 0), none], [], τ)) rfl trivial ?_
  have q := lp_skip_7 (τ := τ) hT [102, 111, 103] 0 (τ 21 15) (τ 21 16) none rfl (by decide) rfl hT.2.2
  rw [show zr τ 21 (zu (zu (τ 21) 15 (τ 21 15)) 16 (τ 21 16)) = τ from by rw [zu_self, zu_self, zr_self]] at q
  exact q
theorem lp_skip_8 {τ : SZ} (hT : TM τ) : ∀ (ps : List Int) (k : Nat) (z w : Int) (o3 : Option VZ), List.drop k [102, 101, 114, 114, 121] = ps → (∀ p, p ∈ ps → 0 < p ∧ p < 1000) → k + ps.length = 5 → Zin (τ 21 14) z w → Ex 3 m8_skip (cod m8_skip 2, [some (.inl 21), some (.inl 108), some (.inr (k : Int)), o3], [], (zr τ 21 (zu (zu (τ 21) 15 z) 16 w))) 0 (.inl (none, zr τ 21 (zu (zu (τ 21) 15 (rsk (τ 21 14) (τ 29) ps z w).1) 16 (rsk (τ 21 14) (τ 29) ps z w).2))) := by
  have hT0 := hT
  obtain ⟨hT1, hT2, ⟨hT3, hT4⟩, hT5⟩ := hT
  have hlen : ((byS.getD 8 []).length : Int) = 5 := rfl
  intro ps
  induction ps with
  | nil =>
    intro k z w o3 hd hpp hk hzw
    rw [List.length_nil] at hk
    refine ex_k 3 (P := none) (g := (cod m8_skip 5, [some (.inl 21), some (.inl 108), some (.inr (k : Int)), o3], [.inr ((byS.getD 8 []).length : Int), .inr (k : Int)], (zr τ 21 (zu (zu (τ 21) 15 z) 16 w)))) rfl trivial ?_
    refine ex_b (P := ((byS.getD 8 []).length : Int) ≤ (k : Int)) (ct := (cod m8_skip 20, [some (.inl 21), some (.inl 108), some (.inr (k : Int)), o3], [], (zr τ 21 (zu (zu (τ 21) 15 z) 16 w)))) (cf := (cod m8_skip 6, [some (.inl 21), some (.inl 108), some (.inr (k : Int)), o3], [], (zr τ 21 (zu (zu (τ 21) 15 z) 16 w)))) rfl ⟨⟨by omega, by omega⟩, ⟨by omega, by omega⟩⟩ (fun _ => ?_) (fun hh => absurd (by omega) hh)
    exact ex_r rfl rfl rfl (rfl)
  | cons p ps ih =>
    intro k z w o3 hd hpp hk hzw
    obtain ⟨hx1, hx2, hx3⟩ := chl (b := byS.getD 8 []) rfl hd
    have hp0 := hpp p (List.mem_cons_self)
    have hps := fun q hq => hpp q (List.mem_cons_of_mem p hq)
    rw [List.length_cons] at hk
    have hkn : ((k : Int)).toNat = k := rfl
    refine ex_k 3 (P := none) (g := (cod m8_skip 5, [some (.inl 21), some (.inl 108), some (.inr (k : Int)), o3], [.inr ((byS.getD 8 []).length : Int), .inr (k : Int)], (zr τ 21 (zu (zu (τ 21) 15 z) 16 w)))) rfl trivial ?_
    refine ex_b (P := ((byS.getD 8 []).length : Int) ≤ (k : Int)) (ct := (cod m8_skip 20, [some (.inl 21), some (.inl 108), some (.inr (k : Int)), o3], [], (zr τ 21 (zu (zu (τ 21) 15 z) 16 w)))) (cf := (cod m8_skip 6, [some (.inl 21), some (.inl 108), some (.inr (k : Int)), o3], [], (zr τ 21 (zu (zu (τ 21) 15 z) 16 w)))) rfl ⟨⟨by omega, by omega⟩, ⟨by omega, by omega⟩⟩ (fun hh => absurd hh (by omega)) (fun _ => ?_)
    refine ex_k 2 (P := none) (g := (cod m8_skip 8, [some (.inl 21), some (.inl 108), some (.inr (k : Int)), o3], [.inr w], (zr τ 21 (zu (zu (τ 21) 15 z) 16 w)))) rfl trivial ?_
    refine ex_b (P := ¬ w = 0) (ct := (cod m8_skip 20, [some (.inl 21), some (.inl 108), some (.inr (k : Int)), o3], [], (zr τ 21 (zu (zu (τ 21) 15 z) 16 w)))) (cf := (cod m8_skip 9, [some (.inl 21), some (.inl 108), some (.inr (k : Int)), o3], [], (zr τ 21 (zu (zu (τ 21) 15 z) 16 w)))) rfl ⟨by omega, by omega⟩ (fun h2 => ?_) (fun h2 => ?_)
    · first
      | (exfalso; omega)
      | (
          exact ex_r rfl rfl rfl (by rw [show rsk (τ 21 14) (τ 29) (p :: ps) z w = (z, w) from if_neg (by omega)]))
    · first
      | (exfalso; omega)
      | (
          refine ex_k 4 (P := some (0 ≤ (k : Int) ∧ (k : Int) < ((byS.getD 8 []).length : Int))) (g := (cod m8_skip 13, [some (.inl 21), some (.inl 108), some (.inr (k : Int)), o3], [.inr (((byS.getD 8 []).getD (k : Int).toNat 0).toInt), .inl 21], (zr τ 21 (zu (zu (τ 21) 15 z) 16 w)))) rfl (by show 0 ≤ (k : Int) ∧ (k : Int) < ((byS.getD 8 []).length : Int); omega) ?_
          refine ex_k 3 (P := some (0 ≤ (k : Int) ∧ (k : Int) < ((byS.getD 8 []).length : Int))) (g := (cod m8_skip 16, [some (.inl 21), some (.inl 108), some (.inr (k : Int)), o3], [.inr (((byS.getD 8 []).getD (k : Int).toNat 0).toInt), .inr (((byS.getD 8 []).getD (k : Int).toNat 0).toInt), .inl 21], (zr τ 21 (zu (zu (τ 21) 15 z) 16 w)))) rfl (by show 0 ≤ (k : Int) ∧ (k : Int) < ((byS.getD 8 []).length : Int); omega) ?_
          rw [show ((byS.getD 8 []).getD (k : Int).toNat 0).toInt = p from hx2]
          have hi4 := rsg_in (n := τ 21 14) (f := τ 29) (lo := p) (hi := p) (z := z) (w := w) (by omega) (by omega) (by omega)
          have hc4 := m_sign (τ := (zr τ 21 (zu (zu (τ 21) 15 z) 16 w))) (lo := p) (hi := p) ⟨hT1, hT2, (show Zin (τ 21 14) z w from ⟨by omega, by omega⟩)⟩ (by omega) (by omega)
          change RZ _ _ _ _ (.inl (some (.inr (rsg (τ 21 14) (τ 29) p p z w).1), rsx _ (rsg (τ 21 14) (τ 29) p p z w).2.1 (rsg (τ 21 14) (τ 29) p p z w).2.2)) at hc4
          obtain ⟨E4, hE4⟩ : ∃ E, E = rsg (τ 21 14) (τ 29) p p z w := ⟨_, rfl⟩
          rw [← hE4] at hc4 hi4
          refine ex_c hc4 (is := cod m8_skip 17) (L := [some (.inl 21), some (.inl 108), some (.inr (k : Int)), o3]) (st := []) rfl rfl rfl ?_
          show Ex _ _ (cod m8_skip 17, [some (.inl 21), some (.inl 108), some (.inr (k : Int)), o3], [.inr E4.1], (zr (zr τ 21 (zu (zu (τ 21) 15 z) 16 w)) 21 (zu (zu (zu (zu (τ 21) 15 z) 16 w) 15 E4.2.1) 16 E4.2.2))) _ _
          rw [zr_zr, zu_sw (i := 16) (j := 15) (by decide), zu_zu (i := 15), zu_zu (i := 16)]
          refine ex_k 3 (P := none) (g := (cod m8_skip 2, [some (.inl 21), some (.inl 108), some (.inr ((k : Int) + 1)), some (.inr E4.1)], [], (zr τ 21 (zu (zu (τ 21) 15 E4.2.1) 16 E4.2.2)))) rfl trivial ?_
          rw [show rsk (τ 21 14) (τ 29) (p :: ps) z w = rsk (τ 21 14) (τ 29) ps E4.2.1 E4.2.2 from by rw [hE4]; exact if_pos (by omega)]
          exact ih (k + 1) _ _ _ hx3 hps (by omega) hi4.1)
theorem m_skip_8 {τ : SZ} (hT : TM τ) : RZ 4 m8_skip [.inl 21, .inl 108] τ (.inl (none, rsx τ (rsk (τ 21 14) (τ 29) [102, 101, 114, 114, 121] (τ 21 15) (τ 21 16)).1 (rsk (τ 21 14) (τ 29) [102, 101, 114, 114, 121] (τ 21 15) (τ 21 16)).2)) := by
  refine Ex.call ?_ rfl rfl
  show Ex _ _ (cod m8_skip 0, [some (.inl 21), some (.inl 108), none, none], [], τ) _ _
  refine ex_k 2 (P := none) (g := (cod m8_skip 2, [some (.inl 21), some (.inl 108), some (.inr 0), none], [], τ)) rfl trivial ?_
  have q := lp_skip_8 (τ := τ) hT [102, 101, 114, 114, 121] 0 (τ 21 15) (τ 21 16) none rfl (by decide) rfl hT.2.2
  rw [show zr τ 21 (zu (zu (τ 21) 15 (τ 21 15)) 16 (τ 21 16)) = τ from by rw [zu_self, zu_self, zr_self]] at q
  exact q
theorem lp_skip_9 {τ : SZ} (hT : TM τ) : ∀ (ps : List Int) (k : Nat) (z w : Int) (o3 : Option VZ), List.drop k [116, 117, 103] = ps → (∀ p, p ∈ ps → 0 < p ∧ p < 1000) → k + ps.length = 3 → Zin (τ 21 14) z w → Ex 3 m8_skip (cod m8_skip 2, [some (.inl 21), some (.inl 109), some (.inr (k : Int)), o3], [], (zr τ 21 (zu (zu (τ 21) 15 z) 16 w))) 0 (.inl (none, zr τ 21 (zu (zu (τ 21) 15 (rsk (τ 21 14) (τ 29) ps z w).1) 16 (rsk (τ 21 14) (τ 29) ps z w).2))) := by
  have hT0 := hT
  obtain ⟨hT1, hT2, ⟨hT3, hT4⟩, hT5⟩ := hT
  have hlen : ((byS.getD 9 []).length : Int) = 3 := rfl
  intro ps
  induction ps with
  | nil =>
    intro k z w o3 hd hpp hk hzw
    rw [List.length_nil] at hk
    refine ex_k 3 (P := none) (g := (cod m8_skip 5, [some (.inl 21), some (.inl 109), some (.inr (k : Int)), o3], [.inr ((byS.getD 9 []).length : Int), .inr (k : Int)], (zr τ 21 (zu (zu (τ 21) 15 z) 16 w)))) rfl trivial ?_
    refine ex_b (P := ((byS.getD 9 []).length : Int) ≤ (k : Int)) (ct := (cod m8_skip 20, [some (.inl 21), some (.inl 109), some (.inr (k : Int)), o3], [], (zr τ 21 (zu (zu (τ 21) 15 z) 16 w)))) (cf := (cod m8_skip 6, [some (.inl 21), some (.inl 109), some (.inr (k : Int)), o3], [], (zr τ 21 (zu (zu (τ 21) 15 z) 16 w)))) rfl ⟨⟨by omega, by omega⟩, ⟨by omega, by omega⟩⟩ (fun _ => ?_) (fun hh => absurd (by omega) hh)
    exact ex_r rfl rfl rfl (rfl)
  | cons p ps ih =>
    intro k z w o3 hd hpp hk hzw
    obtain ⟨hx1, hx2, hx3⟩ := chl (b := byS.getD 9 []) rfl hd
    have hp0 := hpp p (List.mem_cons_self)
    have hps := fun q hq => hpp q (List.mem_cons_of_mem p hq)
    rw [List.length_cons] at hk
    have hkn : ((k : Int)).toNat = k := rfl
    refine ex_k 3 (P := none) (g := (cod m8_skip 5, [some (.inl 21), some (.inl 109), some (.inr (k : Int)), o3], [.inr ((byS.getD 9 []).length : Int), .inr (k : Int)], (zr τ 21 (zu (zu (τ 21) 15 z) 16 w)))) rfl trivial ?_
    refine ex_b (P := ((byS.getD 9 []).length : Int) ≤ (k : Int)) (ct := (cod m8_skip 20, [some (.inl 21), some (.inl 109), some (.inr (k : Int)), o3], [], (zr τ 21 (zu (zu (τ 21) 15 z) 16 w)))) (cf := (cod m8_skip 6, [some (.inl 21), some (.inl 109), some (.inr (k : Int)), o3], [], (zr τ 21 (zu (zu (τ 21) 15 z) 16 w)))) rfl ⟨⟨by omega, by omega⟩, ⟨by omega, by omega⟩⟩ (fun hh => absurd hh (by omega)) (fun _ => ?_)
    refine ex_k 2 (P := none) (g := (cod m8_skip 8, [some (.inl 21), some (.inl 109), some (.inr (k : Int)), o3], [.inr w], (zr τ 21 (zu (zu (τ 21) 15 z) 16 w)))) rfl trivial ?_
    refine ex_b (P := ¬ w = 0) (ct := (cod m8_skip 20, [some (.inl 21), some (.inl 109), some (.inr (k : Int)), o3], [], (zr τ 21 (zu (zu (τ 21) 15 z) 16 w)))) (cf := (cod m8_skip 9, [some (.inl 21), some (.inl 109), some (.inr (k : Int)), o3], [], (zr τ 21 (zu (zu (τ 21) 15 z) 16 w)))) rfl ⟨by omega, by omega⟩ (fun h2 => ?_) (fun h2 => ?_)
    · first
      | (exfalso; omega)
      | (
          exact ex_r rfl rfl rfl (by rw [show rsk (τ 21 14) (τ 29) (p :: ps) z w = (z, w) from if_neg (by omega)]))
    · first
      | (exfalso; omega)
      | (
          refine ex_k 4 (P := some (0 ≤ (k : Int) ∧ (k : Int) < ((byS.getD 9 []).length : Int))) (g := (cod m8_skip 13, [some (.inl 21), some (.inl 109), some (.inr (k : Int)), o3], [.inr (((byS.getD 9 []).getD (k : Int).toNat 0).toInt), .inl 21], (zr τ 21 (zu (zu (τ 21) 15 z) 16 w)))) rfl (by show 0 ≤ (k : Int) ∧ (k : Int) < ((byS.getD 9 []).length : Int); omega) ?_
          refine ex_k 3 (P := some (0 ≤ (k : Int) ∧ (k : Int) < ((byS.getD 9 []).length : Int))) (g := (cod m8_skip 16, [some (.inl 21), some (.inl 109), some (.inr (k : Int)), o3], [.inr (((byS.getD 9 []).getD (k : Int).toNat 0).toInt), .inr (((byS.getD 9 []).getD (k : Int).toNat 0).toInt), .inl 21], (zr τ 21 (zu (zu (τ 21) 15 z) 16 w)))) rfl (by show 0 ≤ (k : Int) ∧ (k : Int) < ((byS.getD 9 []).length : Int); omega) ?_
          rw [show ((byS.getD 9 []).getD (k : Int).toNat 0).toInt = p from hx2]
          have hi5 := rsg_in (n := τ 21 14) (f := τ 29) (lo := p) (hi := p) (z := z) (w := w) (by omega) (by omega) (by omega)
          have hc5 := m_sign (τ := (zr τ 21 (zu (zu (τ 21) 15 z) 16 w))) (lo := p) (hi := p) ⟨hT1, hT2, (show Zin (τ 21 14) z w from ⟨by omega, by omega⟩)⟩ (by omega) (by omega)
          change RZ _ _ _ _ (.inl (some (.inr (rsg (τ 21 14) (τ 29) p p z w).1), rsx _ (rsg (τ 21 14) (τ 29) p p z w).2.1 (rsg (τ 21 14) (τ 29) p p z w).2.2)) at hc5
          obtain ⟨E5, hE5⟩ : ∃ E, E = rsg (τ 21 14) (τ 29) p p z w := ⟨_, rfl⟩
          rw [← hE5] at hc5 hi5
          refine ex_c hc5 (is := cod m8_skip 17) (L := [some (.inl 21), some (.inl 109), some (.inr (k : Int)), o3]) (st := []) rfl rfl rfl ?_
          show Ex _ _ (cod m8_skip 17, [some (.inl 21), some (.inl 109), some (.inr (k : Int)), o3], [.inr E5.1], (zr (zr τ 21 (zu (zu (τ 21) 15 z) 16 w)) 21 (zu (zu (zu (zu (τ 21) 15 z) 16 w) 15 E5.2.1) 16 E5.2.2))) _ _
          rw [zr_zr, zu_sw (i := 16) (j := 15) (by decide), zu_zu (i := 15), zu_zu (i := 16)]
          refine ex_k 3 (P := none) (g := (cod m8_skip 2, [some (.inl 21), some (.inl 109), some (.inr ((k : Int) + 1)), some (.inr E5.1)], [], (zr τ 21 (zu (zu (τ 21) 15 E5.2.1) 16 E5.2.2)))) rfl trivial ?_
          rw [show rsk (τ 21 14) (τ 29) (p :: ps) z w = rsk (τ 21 14) (τ 29) ps E5.2.1 E5.2.2 from by rw [hE5]; exact if_pos (by omega)]
          exact ih (k + 1) _ _ _ hx3 hps (by omega) hi5.1)
theorem m_skip_9 {τ : SZ} (hT : TM τ) : RZ 4 m8_skip [.inl 21, .inl 109] τ (.inl (none, rsx τ (rsk (τ 21 14) (τ 29) [116, 117, 103] (τ 21 15) (τ 21 16)).1 (rsk (τ 21 14) (τ 29) [116, 117, 103] (τ 21 15) (τ 21 16)).2)) := by
  refine Ex.call ?_ rfl rfl
  show Ex _ _ (cod m8_skip 0, [some (.inl 21), some (.inl 109), none, none], [], τ) _ _
  refine ex_k 2 (P := none) (g := (cod m8_skip 2, [some (.inl 21), some (.inl 109), some (.inr 0), none], [], τ)) rfl trivial ?_
  have q := lp_skip_9 (τ := τ) hT [116, 117, 103] 0 (τ 21 15) (τ 21 16) none rfl (by decide) rfl hT.2.2
  rw [show zr τ 21 (zu (zu (τ 21) 15 (τ 21 15)) 16 (τ 21 16)) = τ from by rw [zu_self, zu_self, zr_self]] at q
  exact q
theorem lp_skip_10 {τ : SZ} (hT : TM τ) : ∀ (ps : List Int) (k : Nat) (z w : Int) (o3 : Option VZ), List.drop k [108, 111, 99, 107] = ps → (∀ p, p ∈ ps → 0 < p ∧ p < 1000) → k + ps.length = 4 → Zin (τ 21 14) z w → Ex 3 m8_skip (cod m8_skip 2, [some (.inl 21), some (.inl 110), some (.inr (k : Int)), o3], [], (zr τ 21 (zu (zu (τ 21) 15 z) 16 w))) 0 (.inl (none, zr τ 21 (zu (zu (τ 21) 15 (rsk (τ 21 14) (τ 29) ps z w).1) 16 (rsk (τ 21 14) (τ 29) ps z w).2))) := by
  have hT0 := hT
  obtain ⟨hT1, hT2, ⟨hT3, hT4⟩, hT5⟩ := hT
  have hlen : ((byS.getD 10 []).length : Int) = 4 := rfl
  intro ps
  induction ps with
  | nil =>
    intro k z w o3 hd hpp hk hzw
    rw [List.length_nil] at hk
    refine ex_k 3 (P := none) (g := (cod m8_skip 5, [some (.inl 21), some (.inl 110), some (.inr (k : Int)), o3], [.inr ((byS.getD 10 []).length : Int), .inr (k : Int)], (zr τ 21 (zu (zu (τ 21) 15 z) 16 w)))) rfl trivial ?_
    refine ex_b (P := ((byS.getD 10 []).length : Int) ≤ (k : Int)) (ct := (cod m8_skip 20, [some (.inl 21), some (.inl 110), some (.inr (k : Int)), o3], [], (zr τ 21 (zu (zu (τ 21) 15 z) 16 w)))) (cf := (cod m8_skip 6, [some (.inl 21), some (.inl 110), some (.inr (k : Int)), o3], [], (zr τ 21 (zu (zu (τ 21) 15 z) 16 w)))) rfl ⟨⟨by omega, by omega⟩, ⟨by omega, by omega⟩⟩ (fun _ => ?_) (fun hh => absurd (by omega) hh)
    exact ex_r rfl rfl rfl (rfl)
  | cons p ps ih =>
    intro k z w o3 hd hpp hk hzw
    obtain ⟨hx1, hx2, hx3⟩ := chl (b := byS.getD 10 []) rfl hd
    have hp0 := hpp p (List.mem_cons_self)
    have hps := fun q hq => hpp q (List.mem_cons_of_mem p hq)
    rw [List.length_cons] at hk
    have hkn : ((k : Int)).toNat = k := rfl
    refine ex_k 3 (P := none) (g := (cod m8_skip 5, [some (.inl 21), some (.inl 110), some (.inr (k : Int)), o3], [.inr ((byS.getD 10 []).length : Int), .inr (k : Int)], (zr τ 21 (zu (zu (τ 21) 15 z) 16 w)))) rfl trivial ?_
    refine ex_b (P := ((byS.getD 10 []).length : Int) ≤ (k : Int)) (ct := (cod m8_skip 20, [some (.inl 21), some (.inl 110), some (.inr (k : Int)), o3], [], (zr τ 21 (zu (zu (τ 21) 15 z) 16 w)))) (cf := (cod m8_skip 6, [some (.inl 21), some (.inl 110), some (.inr (k : Int)), o3], [], (zr τ 21 (zu (zu (τ 21) 15 z) 16 w)))) rfl ⟨⟨by omega, by omega⟩, ⟨by omega, by omega⟩⟩ (fun hh => absurd hh (by omega)) (fun _ => ?_)
    refine ex_k 2 (P := none) (g := (cod m8_skip 8, [some (.inl 21), some (.inl 110), some (.inr (k : Int)), o3], [.inr w], (zr τ 21 (zu (zu (τ 21) 15 z) 16 w)))) rfl trivial ?_
    refine ex_b (P := ¬ w = 0) (ct := (cod m8_skip 20, [some (.inl 21), some (.inl 110), some (.inr (k : Int)), o3], [], (zr τ 21 (zu (zu (τ 21) 15 z) 16 w)))) (cf := (cod m8_skip 9, [some (.inl 21), some (.inl 110), some (.inr (k : Int)), o3], [], (zr τ 21 (zu (zu (τ 21) 15 z) 16 w)))) rfl ⟨by omega, by omega⟩ (fun h2 => ?_) (fun h2 => ?_)
    · first
      | (exfalso; omega)
      | (
          exact ex_r rfl rfl rfl (by rw [show rsk (τ 21 14) (τ 29) (p :: ps) z w = (z, w) from if_neg (by omega)]))
    · first
      | (exfalso; omega)
      | (
          refine ex_k 4 (P := some (0 ≤ (k : Int) ∧ (k : Int) < ((byS.getD 10 []).length : Int))) (g := (cod m8_skip 13, [some (.inl 21), some (.inl 110), some (.inr (k : Int)), o3], [.inr (((byS.getD 10 []).getD (k : Int).toNat 0).toInt), .inl 21], (zr τ 21 (zu (zu (τ 21) 15 z) 16 w)))) rfl (by show 0 ≤ (k : Int) ∧ (k : Int) < ((byS.getD 10 []).length : Int); omega) ?_
          refine ex_k 3 (P := some (0 ≤ (k : Int) ∧ (k : Int) < ((byS.getD 10 []).length : Int))) (g := (cod m8_skip 16, [some (.inl 21), some (.inl 110), some (.inr (k : Int)), o3], [.inr (((byS.getD 10 []).getD (k : Int).toNat 0).toInt), .inr (((byS.getD 10 []).getD (k : Int).toNat 0).toInt), .inl 21], (zr τ 21 (zu (zu (τ 21) 15 z) 16 w)))) rfl (by show 0 ≤ (k : Int) ∧ (k : Int) < ((byS.getD 10 []).length : Int); omega) ?_
          rw [show ((byS.getD 10 []).getD (k : Int).toNat 0).toInt = p from hx2]
          have hi6 := rsg_in (n := τ 21 14) (f := τ 29) (lo := p) (hi := p) (z := z) (w := w) (by omega) (by omega) (by omega)
          have hc6 := m_sign (τ := (zr τ 21 (zu (zu (τ 21) 15 z) 16 w))) (lo := p) (hi := p) ⟨hT1, hT2, (show Zin (τ 21 14) z w from ⟨by omega, by omega⟩)⟩ (by omega) (by omega)
          change RZ _ _ _ _ (.inl (some (.inr (rsg (τ 21 14) (τ 29) p p z w).1), rsx _ (rsg (τ 21 14) (τ 29) p p z w).2.1 (rsg (τ 21 14) (τ 29) p p z w).2.2)) at hc6
          obtain ⟨E6, hE6⟩ : ∃ E, E = rsg (τ 21 14) (τ 29) p p z w := ⟨_, rfl⟩
          rw [← hE6] at hc6 hi6
          refine ex_c hc6 (is := cod m8_skip 17) (L := [some (.inl 21), some (.inl 110), some (.inr (k : Int)), o3]) (st := []) rfl rfl rfl ?_
          show Ex _ _ (cod m8_skip 17, [some (.inl 21), some (.inl 110), some (.inr (k : Int)), o3], [.inr E6.1], (zr (zr τ 21 (zu (zu (τ 21) 15 z) 16 w)) 21 (zu (zu (zu (zu (τ 21) 15 z) 16 w) 15 E6.2.1) 16 E6.2.2))) _ _
          rw [zr_zr, zu_sw (i := 16) (j := 15) (by decide), zu_zu (i := 15), zu_zu (i := 16)]
          refine ex_k 3 (P := none) (g := (cod m8_skip 2, [some (.inl 21), some (.inl 110), some (.inr ((k : Int) + 1)), some (.inr E6.1)], [], (zr τ 21 (zu (zu (τ 21) 15 E6.2.1) 16 E6.2.2)))) rfl trivial ?_
          rw [show rsk (τ 21 14) (τ 29) (p :: ps) z w = rsk (τ 21 14) (τ 29) ps E6.2.1 E6.2.2 from by rw [hE6]; exact if_pos (by omega)]
          exact ih (k + 1) _ _ _ hx3 hps (by omega) hi6.1)
theorem m_skip_10 {τ : SZ} (hT : TM τ) : RZ 4 m8_skip [.inl 21, .inl 110] τ (.inl (none, rsx τ (rsk (τ 21 14) (τ 29) [108, 111, 99, 107] (τ 21 15) (τ 21 16)).1 (rsk (τ 21 14) (τ 29) [108, 111, 99, 107] (τ 21 15) (τ 21 16)).2)) := by
  refine Ex.call ?_ rfl rfl
  show Ex _ _ (cod m8_skip 0, [some (.inl 21), some (.inl 110), none, none], [], τ) _ _
  refine ex_k 2 (P := none) (g := (cod m8_skip 2, [some (.inl 21), some (.inl 110), some (.inr 0), none], [], τ)) rfl trivial ?_
  have q := lp_skip_10 (τ := τ) hT [108, 111, 99, 107] 0 (τ 21 15) (τ 21 16) none rfl (by decide) rfl hT.2.2
  rw [show zr τ 21 (zu (zu (τ 21) 15 (τ 21 15)) 16 (τ 21 16)) = τ from by rw [zu_self, zu_self, zr_self]] at q
  exact q
theorem lp_skip_11 {τ : SZ} (hT : TM τ) : ∀ (ps : List Int) (k : Nat) (z w : Int) (o3 : Option VZ), List.drop k [109, 111, 118, 101] = ps → (∀ p, p ∈ ps → 0 < p ∧ p < 1000) → k + ps.length = 4 → Zin (τ 21 14) z w → Ex 3 m8_skip (cod m8_skip 2, [some (.inl 21), some (.inl 111), some (.inr (k : Int)), o3], [], (zr τ 21 (zu (zu (τ 21) 15 z) 16 w))) 0 (.inl (none, zr τ 21 (zu (zu (τ 21) 15 (rsk (τ 21 14) (τ 29) ps z w).1) 16 (rsk (τ 21 14) (τ 29) ps z w).2))) := by
  have hT0 := hT
  obtain ⟨hT1, hT2, ⟨hT3, hT4⟩, hT5⟩ := hT
  have hlen : ((byS.getD 11 []).length : Int) = 4 := rfl
  intro ps
  induction ps with
  | nil =>
    intro k z w o3 hd hpp hk hzw
    rw [List.length_nil] at hk
    refine ex_k 3 (P := none) (g := (cod m8_skip 5, [some (.inl 21), some (.inl 111), some (.inr (k : Int)), o3], [.inr ((byS.getD 11 []).length : Int), .inr (k : Int)], (zr τ 21 (zu (zu (τ 21) 15 z) 16 w)))) rfl trivial ?_
    refine ex_b (P := ((byS.getD 11 []).length : Int) ≤ (k : Int)) (ct := (cod m8_skip 20, [some (.inl 21), some (.inl 111), some (.inr (k : Int)), o3], [], (zr τ 21 (zu (zu (τ 21) 15 z) 16 w)))) (cf := (cod m8_skip 6, [some (.inl 21), some (.inl 111), some (.inr (k : Int)), o3], [], (zr τ 21 (zu (zu (τ 21) 15 z) 16 w)))) rfl ⟨⟨by omega, by omega⟩, ⟨by omega, by omega⟩⟩ (fun _ => ?_) (fun hh => absurd (by omega) hh)
    exact ex_r rfl rfl rfl (rfl)
  | cons p ps ih =>
    intro k z w o3 hd hpp hk hzw
    obtain ⟨hx1, hx2, hx3⟩ := chl (b := byS.getD 11 []) rfl hd
    have hp0 := hpp p (List.mem_cons_self)
    have hps := fun q hq => hpp q (List.mem_cons_of_mem p hq)
    rw [List.length_cons] at hk
    have hkn : ((k : Int)).toNat = k := rfl
    refine ex_k 3 (P := none) (g := (cod m8_skip 5, [some (.inl 21), some (.inl 111), some (.inr (k : Int)), o3], [.inr ((byS.getD 11 []).length : Int), .inr (k : Int)], (zr τ 21 (zu (zu (τ 21) 15 z) 16 w)))) rfl trivial ?_
    refine ex_b (P := ((byS.getD 11 []).length : Int) ≤ (k : Int)) (ct := (cod m8_skip 20, [some (.inl 21), some (.inl 111), some (.inr (k : Int)), o3], [], (zr τ 21 (zu (zu (τ 21) 15 z) 16 w)))) (cf := (cod m8_skip 6, [some (.inl 21), some (.inl 111), some (.inr (k : Int)), o3], [], (zr τ 21 (zu (zu (τ 21) 15 z) 16 w)))) rfl ⟨⟨by omega, by omega⟩, ⟨by omega, by omega⟩⟩ (fun hh => absurd hh (by omega)) (fun _ => ?_)
    refine ex_k 2 (P := none) (g := (cod m8_skip 8, [some (.inl 21), some (.inl 111), some (.inr (k : Int)), o3], [.inr w], (zr τ 21 (zu (zu (τ 21) 15 z) 16 w)))) rfl trivial ?_
    refine ex_b (P := ¬ w = 0) (ct := (cod m8_skip 20, [some (.inl 21), some (.inl 111), some (.inr (k : Int)), o3], [], (zr τ 21 (zu (zu (τ 21) 15 z) 16 w)))) (cf := (cod m8_skip 9, [some (.inl 21), some (.inl 111), some (.inr (k : Int)), o3], [], (zr τ 21 (zu (zu (τ 21) 15 z) 16 w)))) rfl ⟨by omega, by omega⟩ (fun h2 => ?_) (fun h2 => ?_)
    · first
      | (exfalso; omega)
      | (
          exact ex_r rfl rfl rfl (by rw [show rsk (τ 21 14) (τ 29) (p :: ps) z w = (z, w) from if_neg (by omega)]))
    · first
      | (exfalso; omega)
      | (
          refine ex_k 4 (P := some (0 ≤ (k : Int) ∧ (k : Int) < ((byS.getD 11 []).length : Int))) (g := (cod m8_skip 13, [some (.inl 21), some (.inl 111), some (.inr (k : Int)), o3], [.inr (((byS.getD 11 []).getD (k : Int).toNat 0).toInt), .inl 21], (zr τ 21 (zu (zu (τ 21) 15 z) 16 w)))) rfl (by show 0 ≤ (k : Int) ∧ (k : Int) < ((byS.getD 11 []).length : Int); omega) ?_
          refine ex_k 3 (P := some (0 ≤ (k : Int) ∧ (k : Int) < ((byS.getD 11 []).length : Int))) (g := (cod m8_skip 16, [some (.inl 21), some (.inl 111), some (.inr (k : Int)), o3], [.inr (((byS.getD 11 []).getD (k : Int).toNat 0).toInt), .inr (((byS.getD 11 []).getD (k : Int).toNat 0).toInt), .inl 21], (zr τ 21 (zu (zu (τ 21) 15 z) 16 w)))) rfl (by show 0 ≤ (k : Int) ∧ (k : Int) < ((byS.getD 11 []).length : Int); omega) ?_
          rw [show ((byS.getD 11 []).getD (k : Int).toNat 0).toInt = p from hx2]
          have hi7 := rsg_in (n := τ 21 14) (f := τ 29) (lo := p) (hi := p) (z := z) (w := w) (by omega) (by omega) (by omega)
          have hc7 := m_sign (τ := (zr τ 21 (zu (zu (τ 21) 15 z) 16 w))) (lo := p) (hi := p) ⟨hT1, hT2, (show Zin (τ 21 14) z w from ⟨by omega, by omega⟩)⟩ (by omega) (by omega)
          change RZ _ _ _ _ (.inl (some (.inr (rsg (τ 21 14) (τ 29) p p z w).1), rsx _ (rsg (τ 21 14) (τ 29) p p z w).2.1 (rsg (τ 21 14) (τ 29) p p z w).2.2)) at hc7
          obtain ⟨E7, hE7⟩ : ∃ E, E = rsg (τ 21 14) (τ 29) p p z w := ⟨_, rfl⟩
          rw [← hE7] at hc7 hi7
          refine ex_c hc7 (is := cod m8_skip 17) (L := [some (.inl 21), some (.inl 111), some (.inr (k : Int)), o3]) (st := []) rfl rfl rfl ?_
          show Ex _ _ (cod m8_skip 17, [some (.inl 21), some (.inl 111), some (.inr (k : Int)), o3], [.inr E7.1], (zr (zr τ 21 (zu (zu (τ 21) 15 z) 16 w)) 21 (zu (zu (zu (zu (τ 21) 15 z) 16 w) 15 E7.2.1) 16 E7.2.2))) _ _
          rw [zr_zr, zu_sw (i := 16) (j := 15) (by decide), zu_zu (i := 15), zu_zu (i := 16)]
          refine ex_k 3 (P := none) (g := (cod m8_skip 2, [some (.inl 21), some (.inl 111), some (.inr ((k : Int) + 1)), some (.inr E7.1)], [], (zr τ 21 (zu (zu (τ 21) 15 E7.2.1) 16 E7.2.2)))) rfl trivial ?_
          rw [show rsk (τ 21 14) (τ 29) (p :: ps) z w = rsk (τ 21 14) (τ 29) ps E7.2.1 E7.2.2 from by rw [hE7]; exact if_pos (by omega)]
          exact ih (k + 1) _ _ _ hx3 hps (by omega) hi7.1)
theorem m_skip_11 {τ : SZ} (hT : TM τ) : RZ 4 m8_skip [.inl 21, .inl 111] τ (.inl (none, rsx τ (rsk (τ 21 14) (τ 29) [109, 111, 118, 101] (τ 21 15) (τ 21 16)).1 (rsk (τ 21 14) (τ 29) [109, 111, 118, 101] (τ 21 15) (τ 21 16)).2)) := by
  refine Ex.call ?_ rfl rfl
  show Ex _ _ (cod m8_skip 0, [some (.inl 21), some (.inl 111), none, none], [], τ) _ _
  refine ex_k 2 (P := none) (g := (cod m8_skip 2, [some (.inl 21), some (.inl 111), some (.inr 0), none], [], τ)) rfl trivial ?_
  have q := lp_skip_11 (τ := τ) hT [109, 111, 118, 101] 0 (τ 21 15) (τ 21 16) none rfl (by decide) rfl hT.2.2
  rw [show zr τ 21 (zu (zu (τ 21) 15 (τ 21 15)) 16 (τ 21 16)) = τ from by rw [zu_self, zu_self, zr_self]] at q
  exact q
theorem m_digit {τ : SZ} (hT : TM τ) : RZ 4 m8_digit [.inl 21] τ (.inl (some (.inr (rsg (τ 21 14) (τ 29) 48 57 (τ 21 15) (τ 21 16)).1), rsx τ (rsg (τ 21 14) (τ 29) 48 57 (τ 21 15) (τ 21 16)).2.1 (rsg (τ 21 14) (τ 29) 48 57 (τ 21 15) (τ 21 16)).2.2)) := by
  have hT0 := hT
  obtain ⟨hT1, hT2, ⟨hT3, hT4⟩, hT5⟩ := hT
  refine Ex.call ?_ rfl rfl
  show Ex _ _ (cod m8_digit 0, [some (.inl 21)], [], τ) _ _
  refine ex_k 3 (P := none) (g := (cod m8_digit 3, [some (.inl 21)], [.inr 57, .inr 48, .inl 21], τ)) rfl trivial ?_
  have hi8 := rsg_in (n := τ 21 14) (f := τ 29) (lo := 48) (hi := 57) (z := τ 21 15) (w := τ 21 16) (by omega) (by omega) (by omega)
  have hc8 := m_sign (τ := τ) (lo := 48) (hi := 57) ⟨hT1, hT2, (show Zin (τ 21 14) (τ 21 15) (τ 21 16) from ⟨by omega, by omega⟩)⟩ (by omega) (by omega)
  change RZ _ _ _ _ (.inl (some (.inr (rsg (τ 21 14) (τ 29) 48 57 (τ 21 15) (τ 21 16)).1), rsx _ (rsg (τ 21 14) (τ 29) 48 57 (τ 21 15) (τ 21 16)).2.1 (rsg (τ 21 14) (τ 29) 48 57 (τ 21 15) (τ 21 16)).2.2)) at hc8
  obtain ⟨E8, hE8⟩ : ∃ E, E = rsg (τ 21 14) (τ 29) 48 57 (τ 21 15) (τ 21 16) := ⟨_, rfl⟩
  rw [← hE8] at hc8 hi8
  refine ex_c hc8 (is := cod m8_digit 4) (L := [some (.inl 21)]) (st := []) rfl rfl rfl ?_
  show Ex _ _ (cod m8_digit 4, [some (.inl 21)], [.inr E8.1], (zr τ 21 (zu (zu (τ 21) 15 E8.2.1) 16 E8.2.2))) _ _
  exact ex_r rfl trivial rfl (by rw [hE8]; rfl)
theorem m_readDigit {τ : SZ} (hT : TM τ) : RZ 5 m8_readDigit [.inl 21] τ (.inl (some (.inr (rdd (τ 21 14) (τ 29) (τ 21 15) (τ 21 16)).1), rsx τ (rdd (τ 21 14) (τ 29) (τ 21 15) (τ 21 16)).2.1 (rdd (τ 21 14) (τ 29) (τ 21 15) (τ 21 16)).2.2)) := by
  have hT0 := hT
  obtain ⟨hT1, hT2, ⟨hT3, hT4⟩, hT5⟩ := hT
  refine Ex.call ?_ rfl rfl
  show Ex _ _ (cod m8_readDigit 0, [some (.inl 21)], [], τ) _ _
  refine ex_k 2 (P := none) (g := (cod m8_readDigit 2, [some (.inl 21)], [.inl 106, .inl 21], τ)) rfl trivial ?_
  have hi9 := rsk_in (n := τ 21 14) (f := τ 29) [32] (τ 21 15) (τ 21 16) (by decide) (show Zin (τ 21 14) (τ 21 15) (τ 21 16) from ⟨by omega, by omega⟩)
  have hc9 := m_skip_6 (τ := τ) ⟨hT1, hT2, (show Zin (τ 21 14) (τ 21 15) (τ 21 16) from ⟨by omega, by omega⟩)⟩
  change RZ _ _ _ _ (.inl (none, rsx _ (rsk (τ 21 14) (τ 29) [32]  (τ 21 15) (τ 21 16)).1 (rsk (τ 21 14) (τ 29) [32]  (τ 21 15) (τ 21 16)).2)) at hc9
  obtain ⟨E9, hE9⟩ : ∃ E, E = rsk (τ 21 14) (τ 29) [32]  (τ 21 15) (τ 21 16) := ⟨_, rfl⟩
  rw [← hE9] at hc9 hi9
  refine ex_c hc9 (is := cod m8_readDigit 3) (L := [some (.inl 21)]) (st := []) rfl rfl rfl ?_
  show Ex _ _ (cod m8_readDigit 3, [some (.inl 21)], [], (zr τ 21 (zu (zu (τ 21) 15 E9.1) 16 E9.2))) _ _
  refine ex_k 1 (P := none) (g := (cod m8_readDigit 4, [some (.inl 21)], [.inl 21], (zr τ 21 (zu (zu (τ 21) 15 E9.1) 16 E9.2)))) rfl trivial ?_
  have hi10 := rsg_in (n := τ 21 14) (f := τ 29) (lo := 48) (hi := 57) (z := E9.1) (w := E9.2) (by omega) (by omega) (by omega)
  have hc10 := m_digit (τ := (zr τ 21 (zu (zu (τ 21) 15 E9.1) 16 E9.2))) ⟨hT1, hT2, (show Zin (τ 21 14) E9.1 E9.2 from ⟨by omega, by omega⟩)⟩
  change RZ _ _ _ _ (.inl (some (.inr (rsg (τ 21 14) (τ 29) 48 57 E9.1 E9.2).1), rsx _ (rsg (τ 21 14) (τ 29) 48 57 E9.1 E9.2).2.1 (rsg (τ 21 14) (τ 29) 48 57 E9.1 E9.2).2.2)) at hc10
  obtain ⟨E10, hE10⟩ : ∃ E, E = rsg (τ 21 14) (τ 29) 48 57 E9.1 E9.2 := ⟨_, rfl⟩
  rw [← hE10] at hc10 hi10
  refine ex_c hc10 (is := cod m8_readDigit 5) (L := [some (.inl 21)]) (st := []) rfl rfl rfl ?_
  show Ex _ _ (cod m8_readDigit 5, [some (.inl 21)], [.inr E10.1], (zr (zr τ 21 (zu (zu (τ 21) 15 E9.1) 16 E9.2)) 21 (zu (zu (zu (zu (τ 21) 15 E9.1) 16 E9.2) 15 E10.2.1) 16 E10.2.2))) _ _
  rw [zr_zr, zu_sw (i := 16) (j := 15) (by decide), zu_zu (i := 15), zu_zu (i := 16)]
  exact ex_r rfl trivial rfl (by unfold rdd; rw [← hE9, ← hE10]; rfl)
theorem m_readPlace {τ : SZ} (hT : TM τ) : RZ 6 m8_readPlace [.inl 21] τ (.inl (some (.inr (rdp (τ 21 14) (τ 29) (τ 21 15) (τ 21 16)).1), rsx τ (rdp (τ 21 14) (τ 29) (τ 21 15) (τ 21 16)).2.1 (rdp (τ 21 14) (τ 29) (τ 21 15) (τ 21 16)).2.2)) := by
  have hT0 := hT
  obtain ⟨hT1, hT2, ⟨hT3, hT4⟩, hT5⟩ := hT
  refine Ex.call ?_ rfl rfl
  show Ex _ _ (cod m8_readPlace 0, [some (.inl 21), none], [], τ) _ _
  refine ex_k 2 (P := none) (g := (cod m8_readPlace 2, [some (.inl 21), none], [.inl 106, .inl 21], τ)) rfl trivial ?_
  have hi11 := rsk_in (n := τ 21 14) (f := τ 29) [32] (τ 21 15) (τ 21 16) (by decide) (show Zin (τ 21 14) (τ 21 15) (τ 21 16) from ⟨by omega, by omega⟩)
  have hc11 := m_skip_6 (τ := τ) ⟨hT1, hT2, (show Zin (τ 21 14) (τ 21 15) (τ 21 16) from ⟨by omega, by omega⟩)⟩
  change RZ _ _ _ _ (.inl (none, rsx _ (rsk (τ 21 14) (τ 29) [32]  (τ 21 15) (τ 21 16)).1 (rsk (τ 21 14) (τ 29) [32]  (τ 21 15) (τ 21 16)).2)) at hc11
  obtain ⟨E11, hE11⟩ : ∃ E, E = rsk (τ 21 14) (τ 29) [32]  (τ 21 15) (τ 21 16) := ⟨_, rfl⟩
  rw [← hE11] at hc11 hi11
  refine ex_c hc11 (is := cod m8_readPlace 3) (L := [some (.inl 21), none]) (st := []) rfl rfl rfl ?_
  show Ex _ _ (cod m8_readPlace 3, [some (.inl 21), none], [], (zr τ 21 (zu (zu (τ 21) 15 E11.1) 16 E11.2))) _ _
  refine ex_k 1 (P := none) (g := (cod m8_readPlace 4, [some (.inl 21), none], [.inl 21], (zr τ 21 (zu (zu (τ 21) 15 E11.1) 16 E11.2)))) rfl trivial ?_
  have hi12 := rsg_in (n := τ 21 14) (f := τ 29) (lo := 48) (hi := 57) (z := E11.1) (w := E11.2) (by omega) (by omega) (by omega)
  have hc12 := m_digit (τ := (zr τ 21 (zu (zu (τ 21) 15 E11.1) 16 E11.2))) ⟨hT1, hT2, (show Zin (τ 21 14) E11.1 E11.2 from ⟨by omega, by omega⟩)⟩
  change RZ _ _ _ _ (.inl (some (.inr (rsg (τ 21 14) (τ 29) 48 57 E11.1 E11.2).1), rsx _ (rsg (τ 21 14) (τ 29) 48 57 E11.1 E11.2).2.1 (rsg (τ 21 14) (τ 29) 48 57 E11.1 E11.2).2.2)) at hc12
  obtain ⟨E12, hE12⟩ : ∃ E, E = rsg (τ 21 14) (τ 29) 48 57 E11.1 E11.2 := ⟨_, rfl⟩
  rw [← hE12] at hc12 hi12
  refine ex_c hc12 (is := cod m8_readPlace 5) (L := [some (.inl 21), none]) (st := []) rfl rfl rfl ?_
  show Ex _ _ (cod m8_readPlace 5, [some (.inl 21), none], [.inr E12.1], (zr (zr τ 21 (zu (zu (τ 21) 15 E11.1) 16 E11.2)) 21 (zu (zu (zu (zu (τ 21) 15 E11.1) 16 E11.2) 15 E12.2.1) 16 E12.2.2))) _ _
  rw [zr_zr, zu_sw (i := 16) (j := 15) (by decide), zu_zu (i := 15), zu_zu (i := 16)]
  refine ex_k 4 (P := none) (g := (cod m8_readPlace 9, [some (.inl 21), some (.inr E12.1)], [.inr 57, .inr 48, .inl 21], (zr τ 21 (zu (zu (τ 21) 15 E12.2.1) 16 E12.2.2)))) rfl trivial ?_
  refine ex_c (m_isHere (τ := (zr τ 21 (zu (zu (τ 21) 15 E12.2.1) 16 E12.2.2))) (lo := 48) (hi := 57) ⟨hT1, hT2, (show Zin (τ 21 14) E12.2.1 E12.2.2 from ⟨by omega, by omega⟩)⟩ (by omega) (by omega)) (is := cod m8_readPlace 10) (L := [some (.inl 21), some (.inr E12.1)]) (st := []) rfl rfl rfl ?_
  show Ex _ _ (cod m8_readPlace 10, [some (.inl 21), some (.inr E12.1)], [.inr (b2 (hrb (τ 21 14) (τ 29) 48 57 E12.2.1 E12.2.2))], (zr τ 21 (zu (zu (τ 21) 15 E12.2.1) 16 E12.2.2))) _ _
  refine ex_b (P := (b2 (hrb (τ 21 14) (τ 29) 48 57 E12.2.1 E12.2.2)) = 0) (ct := (cod m8_readPlace 18, [some (.inl 21), some (.inr E12.1)], [], (zr τ 21 (zu (zu (τ 21) 15 E12.2.1) 16 E12.2.2)))) (cf := (cod m8_readPlace 11, [some (.inl 21), some (.inr E12.1)], [], (zr τ 21 (zu (zu (τ 21) 15 E12.2.1) 16 E12.2.2)))) rfl b2_rng (fun h1 => ?_) (fun h1 => ?_)
  · first
    | (exfalso; have h1 := b2_e0 h1; omega)
    | (
        have h1 := b2_e0 h1
        refine ex_k 1 (P := none) (g := (cod m8_readPlace 19, [some (.inl 21), some (.inr E12.1)], [.inr E12.1], (zr τ 21 (zu (zu (τ 21) 15 E12.2.1) 16 E12.2.2)))) rfl trivial ?_
        exact ex_r rfl trivial rfl (by rw [show rdp (τ 21 14) (τ 29) (τ 21 15) (τ 21 16) = E12 from by unfold rdp rdd; rw [← hE11, ← hE12]; exact if_neg (by assumption)]; rfl))
  · first
    | (exfalso; have h1 := b2_n0 h1; omega)
    | (
        have h1 := b2_n0 h1
        refine ex_k 4 (P := none) (g := (cod m8_readPlace 15, [some (.inl 21), some (.inr E12.1)], [.inl 21, .inr (10 * E12.1)], (zr τ 21 (zu (zu (τ 21) 15 E12.2.1) 16 E12.2.2)))) rfl trivial ?_
        have hi13 := rsg_in (n := τ 21 14) (f := τ 29) (lo := 48) (hi := 57) (z := E12.2.1) (w := E12.2.2) (by omega) (by omega) (by omega)
        have hc13 := m_digit (τ := (zr τ 21 (zu (zu (τ 21) 15 E12.2.1) 16 E12.2.2))) ⟨hT1, hT2, (show Zin (τ 21 14) E12.2.1 E12.2.2 from ⟨by omega, by omega⟩)⟩
        change RZ _ _ _ _ (.inl (some (.inr (rsg (τ 21 14) (τ 29) 48 57 E12.2.1 E12.2.2).1), rsx _ (rsg (τ 21 14) (τ 29) 48 57 E12.2.1 E12.2.2).2.1 (rsg (τ 21 14) (τ 29) 48 57 E12.2.1 E12.2.2).2.2)) at hc13
        obtain ⟨E13, hE13⟩ : ∃ E, E = rsg (τ 21 14) (τ 29) 48 57 E12.2.1 E12.2.2 := ⟨_, rfl⟩
        rw [← hE13] at hc13 hi13
        refine ex_c hc13 (is := cod m8_readPlace 16) (L := [some (.inl 21), some (.inr E12.1)]) (st := [.inr (10 * E12.1)]) rfl rfl rfl ?_
        show Ex _ _ (cod m8_readPlace 16, [some (.inl 21), some (.inr E12.1)], [.inr E13.1, .inr (10 * E12.1)], (zr (zr τ 21 (zu (zu (τ 21) 15 E12.2.1) 16 E12.2.2)) 21 (zu (zu (zu (zu (τ 21) 15 E12.2.1) 16 E12.2.2) 15 E13.2.1) 16 E13.2.2))) _ _
        rw [zr_zr, zu_sw (i := 16) (j := 15) (by decide), zu_zu (i := 15), zu_zu (i := 16)]
        refine ex_k 2 (P := none) (g := (cod m8_readPlace 19, [some (.inl 21), some (.inr E12.1)], [.inr ((10 * E12.1) + E13.1)], (zr τ 21 (zu (zu (τ 21) 15 E13.2.1) 16 E13.2.2)))) rfl trivial ?_
        exact ex_r rfl trivial rfl (by rw [show rdp (τ 21 14) (τ 29) (τ 21 15) (τ 21 16) = (10 * E12.1 + E13.1, E13.2) from by unfold rdp rdd; rw [← hE11, ← hE12, ← hE13]; exact if_pos (by assumption)]; rfl))
theorem m_readWay {τ : SZ} (hT : TM τ) : RZ 6 m8_readWay [.inl 21] τ (.inl (some (.inr (rdw (τ 21 14) (τ 29) (τ 21 15) (τ 21 16)).1), rsx τ (rdw (τ 21 14) (τ 29) (τ 21 15) (τ 21 16)).2.1 (rdw (τ 21 14) (τ 29) (τ 21 15) (τ 21 16)).2.2)) := by
  have hT0 := hT
  obtain ⟨hT1, hT2, ⟨hT3, hT4⟩, hT5⟩ := hT
  refine Ex.call ?_ rfl rfl
  show Ex _ _ (cod m8_readWay 0, [some (.inl 21), none, none], [], τ) _ _
  refine ex_k 3 (P := none) (g := (cod m8_readWay 3, [some (.inl 21), none, none], [.inr 45, .inr 45, .inl 21], τ)) rfl trivial ?_
  refine ex_c (m_isHere (τ := τ) (lo := 45) (hi := 45) ⟨hT1, hT2, (show Zin (τ 21 14) (τ 21 15) (τ 21 16) from ⟨by omega, by omega⟩)⟩ (by omega) (by omega)) (is := cod m8_readWay 4) (L := [some (.inl 21), none, none]) (st := []) rfl rfl rfl ?_
  show Ex _ _ (cod m8_readWay 4, [some (.inl 21), none, none], [.inr (b2 (hrb (τ 21 14) (τ 29) 45 45 (τ 21 15) (τ 21 16)))], τ) _ _
  refine ex_k 2 (P := none) (g := (cod m8_readWay 6, [some (.inl 21), some (.inr (b2 (hrb (τ 21 14) (τ 29) 45 45 (τ 21 15) (τ 21 16)))), none], [.inr (b2 (hrb (τ 21 14) (τ 29) 45 45 (τ 21 15) (τ 21 16)))], τ)) rfl trivial ?_
  refine ex_b (P := (b2 (hrb (τ 21 14) (τ 29) 45 45 (τ 21 15) (τ 21 16))) = 0) (ct := (cod m8_readWay 12, [some (.inl 21), some (.inr (b2 (hrb (τ 21 14) (τ 29) 45 45 (τ 21 15) (τ 21 16)))), none], [], τ)) (cf := (cod m8_readWay 7, [some (.inl 21), some (.inr (b2 (hrb (τ 21 14) (τ 29) 45 45 (τ 21 15) (τ 21 16)))), none], [], τ)) rfl b2_rng (fun h1 => ?_) (fun h1 => ?_)
  · first
    | (exfalso; have h1 := b2_e0 h1; omega)
    | (
        have h1 := b2_e0 h1
        refine ex_k 3 (P := none) (g := (cod m8_readWay 15, [some (.inl 21), some (.inr (b2 (hrb (τ 21 14) (τ 29) 45 45 (τ 21 15) (τ 21 16)))), none], [.inr 43, .inr 43, .inl 21], τ)) rfl trivial ?_
        have hi14 := rsg_in (n := τ 21 14) (f := τ 29) (lo := 43) (hi := 43) (z := τ 21 15) (w := τ 21 16) (by omega) (by omega) (by omega)
        have hc14 := m_sign (τ := τ) (lo := 43) (hi := 43) ⟨hT1, hT2, (show Zin (τ 21 14) (τ 21 15) (τ 21 16) from ⟨by omega, by omega⟩)⟩ (by omega) (by omega)
        change RZ _ _ _ _ (.inl (some (.inr (rsg (τ 21 14) (τ 29) 43 43 (τ 21 15) (τ 21 16)).1), rsx _ (rsg (τ 21 14) (τ 29) 43 43 (τ 21 15) (τ 21 16)).2.1 (rsg (τ 21 14) (τ 29) 43 43 (τ 21 15) (τ 21 16)).2.2)) at hc14
        obtain ⟨E14, hE14⟩ : ∃ E, E = rsg (τ 21 14) (τ 29) 43 43 (τ 21 15) (τ 21 16) := ⟨_, rfl⟩
        rw [← hE14] at hc14 hi14
        refine ex_c hc14 (is := cod m8_readWay 16) (L := [some (.inl 21), some (.inr (b2 (hrb (τ 21 14) (τ 29) 45 45 (τ 21 15) (τ 21 16)))), none]) (st := []) rfl rfl rfl ?_
        show Ex _ _ (cod m8_readWay 16, [some (.inl 21), some (.inr (b2 (hrb (τ 21 14) (τ 29) 45 45 (τ 21 15) (τ 21 16)))), none], [.inr E14.1], (zr τ 21 (zu (zu (τ 21) 15 E14.2.1) 16 E14.2.2))) _ _
        refine ex_k 2 (P := none) (g := (cod m8_readWay 18, [some (.inl 21), some (.inr (b2 (hrb (τ 21 14) (τ 29) 45 45 (τ 21 15) (τ 21 16)))), some (.inr E14.1)], [.inr (b2 (hrb (τ 21 14) (τ 29) 45 45 (τ 21 15) (τ 21 16)))], (zr τ 21 (zu (zu (τ 21) 15 E14.2.1) 16 E14.2.2)))) rfl trivial ?_
        refine ex_b (P := (b2 (hrb (τ 21 14) (τ 29) 45 45 (τ 21 15) (τ 21 16))) = 0) (ct := (cod m8_readWay 21, [some (.inl 21), some (.inr (b2 (hrb (τ 21 14) (τ 29) 45 45 (τ 21 15) (τ 21 16)))), some (.inr E14.1)], [], (zr τ 21 (zu (zu (τ 21) 15 E14.2.1) 16 E14.2.2)))) (cf := (cod m8_readWay 19, [some (.inl 21), some (.inr (b2 (hrb (τ 21 14) (τ 29) 45 45 (τ 21 15) (τ 21 16)))), some (.inr E14.1)], [], (zr τ 21 (zu (zu (τ 21) 15 E14.2.1) 16 E14.2.2)))) rfl b2_rng (fun h2 => ?_) (fun h2 => ?_)
        · first
          | (exfalso; have h2 := b2_e0 h2; omega)
          | (
              have h2 := b2_e0 h2
              refine ex_k 1 (P := none) (g := (cod m8_readWay 22, [some (.inl 21), some (.inr (b2 (hrb (τ 21 14) (τ 29) 45 45 (τ 21 15) (τ 21 16)))), some (.inr E14.1)], [.inr 1], (zr τ 21 (zu (zu (τ 21) 15 E14.2.1) 16 E14.2.2)))) rfl trivial ?_
              exact ex_r rfl trivial rfl (by rw [show rdw (τ 21 14) (τ 29) (τ 21 15) (τ 21 16) = (1, E14.2) from by unfold rdw; rw [← hE14]; exact if_neg (by assumption)]; rfl))
        · first
          | (exfalso; have h2 := b2_n0 h2; omega)
          | (
              have h2 := b2_n0 h2
              refine ex_k 2 (P := none) (g := (cod m8_readWay 22, [some (.inl 21), some (.inr (b2 (hrb (τ 21 14) (τ 29) 45 45 (τ 21 15) (τ 21 16)))), some (.inr E14.1)], [.inr 0], (zr τ 21 (zu (zu (τ 21) 15 E14.2.1) 16 E14.2.2)))) rfl trivial ?_
              exact ex_r rfl trivial rfl (by rw [show rdw (τ 21 14) (τ 29) (τ 21 15) (τ 21 16) = (0, E14.2) from by unfold rdw; rw [← hE14]; exact if_pos (by assumption)]; rfl)))
  · first
    | (exfalso; have h1 := b2_n0 h1; omega)
    | (
        have h1 := b2_n0 h1
        refine ex_k 3 (P := none) (g := (cod m8_readWay 10, [some (.inl 21), some (.inr (b2 (hrb (τ 21 14) (τ 29) 45 45 (τ 21 15) (τ 21 16)))), none], [.inr 45, .inr 45, .inl 21], τ)) rfl trivial ?_
        have hi15 := rsg_in (n := τ 21 14) (f := τ 29) (lo := 45) (hi := 45) (z := τ 21 15) (w := τ 21 16) (by omega) (by omega) (by omega)
        have hc15 := m_sign (τ := τ) (lo := 45) (hi := 45) ⟨hT1, hT2, (show Zin (τ 21 14) (τ 21 15) (τ 21 16) from ⟨by omega, by omega⟩)⟩ (by omega) (by omega)
        change RZ _ _ _ _ (.inl (some (.inr (rsg (τ 21 14) (τ 29) 45 45 (τ 21 15) (τ 21 16)).1), rsx _ (rsg (τ 21 14) (τ 29) 45 45 (τ 21 15) (τ 21 16)).2.1 (rsg (τ 21 14) (τ 29) 45 45 (τ 21 15) (τ 21 16)).2.2)) at hc15
        obtain ⟨E15, hE15⟩ : ∃ E, E = rsg (τ 21 14) (τ 29) 45 45 (τ 21 15) (τ 21 16) := ⟨_, rfl⟩
        rw [← hE15] at hc15 hi15
        refine ex_c hc15 (is := cod m8_readWay 11) (L := [some (.inl 21), some (.inr (b2 (hrb (τ 21 14) (τ 29) 45 45 (τ 21 15) (τ 21 16)))), none]) (st := []) rfl rfl rfl ?_
        show Ex _ _ (cod m8_readWay 11, [some (.inl 21), some (.inr (b2 (hrb (τ 21 14) (τ 29) 45 45 (τ 21 15) (τ 21 16)))), none], [.inr E15.1], (zr τ 21 (zu (zu (τ 21) 15 E15.2.1) 16 E15.2.2))) _ _
        refine ex_k 3 (P := none) (g := (cod m8_readWay 18, [some (.inl 21), some (.inr (b2 (hrb (τ 21 14) (τ 29) 45 45 (τ 21 15) (τ 21 16)))), some (.inr E15.1)], [.inr (b2 (hrb (τ 21 14) (τ 29) 45 45 (τ 21 15) (τ 21 16)))], (zr τ 21 (zu (zu (τ 21) 15 E15.2.1) 16 E15.2.2)))) rfl trivial ?_
        refine ex_b (P := (b2 (hrb (τ 21 14) (τ 29) 45 45 (τ 21 15) (τ 21 16))) = 0) (ct := (cod m8_readWay 21, [some (.inl 21), some (.inr (b2 (hrb (τ 21 14) (τ 29) 45 45 (τ 21 15) (τ 21 16)))), some (.inr E15.1)], [], (zr τ 21 (zu (zu (τ 21) 15 E15.2.1) 16 E15.2.2)))) (cf := (cod m8_readWay 19, [some (.inl 21), some (.inr (b2 (hrb (τ 21 14) (τ 29) 45 45 (τ 21 15) (τ 21 16)))), some (.inr E15.1)], [], (zr τ 21 (zu (zu (τ 21) 15 E15.2.1) 16 E15.2.2)))) rfl b2_rng (fun h3 => ?_) (fun h3 => ?_)
        · first
          | (exfalso; have h3 := b2_e0 h3; omega)
          | (
              have h3 := b2_e0 h3
              refine ex_k 1 (P := none) (g := (cod m8_readWay 22, [some (.inl 21), some (.inr (b2 (hrb (τ 21 14) (τ 29) 45 45 (τ 21 15) (τ 21 16)))), some (.inr E15.1)], [.inr 1], (zr τ 21 (zu (zu (τ 21) 15 E15.2.1) 16 E15.2.2)))) rfl trivial ?_
              exact ex_r rfl trivial rfl (by rw [show rdw (τ 21 14) (τ 29) (τ 21 15) (τ 21 16) = (1, E15.2) from by unfold rdw; rw [← hE15]; exact if_neg (by assumption)]; rfl))
        · first
          | (exfalso; have h3 := b2_n0 h3; omega)
          | (
              have h3 := b2_n0 h3
              refine ex_k 2 (P := none) (g := (cod m8_readWay 22, [some (.inl 21), some (.inr (b2 (hrb (τ 21 14) (τ 29) 45 45 (τ 21 15) (τ 21 16)))), some (.inr E15.1)], [.inr 0], (zr τ 21 (zu (zu (τ 21) 15 E15.2.1) 16 E15.2.2)))) rfl trivial ?_
              exact ex_r rfl trivial rfl (by rw [show rdw (τ 21 14) (τ 29) (τ 21 15) (τ 21 16) = (0, E15.2) from by unfold rdw; rw [← hE15]; exact if_pos (by assumption)]; rfl)))
end MTX
