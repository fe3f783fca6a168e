/-! contracts of the second implementation: threats, most points, orders, the way to a lock: printed by wip/whole/db19.py -/
section MR3
def th (τ : SZ) (k : Int) : SZ := zr τ 21 (zu (τ 21) 7 k)
def thv (c : Nat → Int) (f : Int) : Nat → Int
  | 0 => 0
  | k + 1 => if thv c f k = 1 ∨ (cel c (0 + (k : Int) * 6 + 1) + 1 = cel c (0 + f * 6 + 1) ∧ oco c (k : Int) 0 1 = 3) ∨ (cel c (0 + (k : Int) * 6 + 1) + (-1) = cel c (0 + f * 6 + 1) ∧ oco c (k : Int) 0 (-1) = 3) ∨ (cel c (0 + (k : Int) * 6 + 2) + 1 = cel c (0 + f * 6 + 2) ∧ oco c (k : Int) 1 1 = 3) ∨ (cel c (0 + (k : Int) * 6 + 2) + (-1) = cel c (0 + f * 6 + 2) ∧ oco c (k : Int) 1 (-1) = 3) then 1 else 0
theorem thv_01 {c : Nat → Int} {f : Int} : ∀ k, thv c f k = 0 ∨ thv c f k = 1
  | 0 => Or.inl rfl
  | k + 1 => by unfold thv; split; exact Or.inr rfl; exact Or.inl rfl
theorem lp_isThreatened {τ : SZ} {f : Int} {c : Nat → Int} {B : Int} (hI : Iv B c) (hR : Rs c (τ 22)) (hf : 0 ≤ f ∧ f < cel c 107) : ∀ (j k : Nat), ((k + j : Nat) : Int) = cel c 107 → ∀ (v e : Int) (o4 o5 o6 : Option VZ), v = thv c f k → Exq 5 m8_isThreatened (cod m8_isThreatened 13, [some (.inl 21), some (.inr f), some (.inr v), some (.inr (k : Int)), o4, o5, o6], [], (zr (th τ 0) 21 (zu ((th τ 0) 21) 10 e))) 0 (fun q => ∃ e, q = .inl (some (.inr (thv c f (cel c 107).toNat)), dt (th τ 0) e)) := by
  have hS := hI.1
  have hC := hI.2.1
  have hN := hS.n
  have h0 := hR.n hN.1
  have eth : th τ 0 21 7 = 0 := rfl
  intro j
  induction j with
  | zero =>
    intro k hk v e o4 o5 o6 hv
    have h01 := @thv_01 c f k
    refine exq_k 5 (P := some (0 ≤ 0 ∧ 0 < ((109 : Nat) : Int))) (g := (cod m8_isThreatened 18, [some (.inl 21), some (.inr f), some (.inr v), some (.inr (k : Int)), o4, o5, o6], [.inr ((τ 22) 0), .inr (k : Int)], (zr (th τ 0) 21 (zu ((th τ 0) 21) 10 e)))) rfl (by show 0 ≤ 0 ∧ 0 < ((109 : Nat) : Int); omega) ?_
    refine exq_b (P := ((τ 22) 0) ≤ (k : Int)) (ct := (cod m8_isThreatened 78, [some (.inl 21), some (.inr f), some (.inr v), some (.inr (k : Int)), o4, o5, o6], [], (zr (th τ 0) 21 (zu ((th τ 0) 21) 10 e)))) (cf := (cod m8_isThreatened 19, [some (.inl 21), some (.inr f), some (.inr v), some (.inr (k : Int)), o4, o5, o6], [], (zr (th τ 0) 21 (zu ((th τ 0) 21) 10 e)))) rfl ⟨⟨by omega, by omega⟩, ⟨by omega, by omega⟩⟩ (fun _ => ?_) (fun hh => absurd (by omega) hh)
    refine exq_k 1 (P := none) (g := (cod m8_isThreatened 79, [some (.inl 21), some (.inr f), some (.inr v), some (.inr (k : Int)), o4, o5, o6], [.inr v], (zr (th τ 0) 21 (zu ((th τ 0) 21) 10 e)))) rfl trivial ?_
    exact exq_r rfl (by first | exact Or.inl rfl | exact Or.inr rfl | (show v = 0 ∨ v = 1; omega)) rfl (⟨_, rI2 (by rw [hv]; congr 1; omega) rfl⟩)
  | succ j ih =>
    intro k hk v e o4 o5 o6 hv
    have h01 := @thv_01 c f k
    have hpx1 := hS.p1 (f := (k : Int)) (by omega)
    have hpx2 := hS.p2 (f := (k : Int)) (by omega)
    have hpx3 := hS.p1 (f := f) (by omega)
    have hpx4 := hS.p2 (f := f) (by omega)
    have hpa0 := hS.pl (f := (k : Int)) (r := 0) (by omega) (by omega)
    have hpb0 := hS.pl (f := f) (r := 0) (by omega) (by omega)
    have hpa1 := hS.pl (f := (k : Int)) (r := 1) (by omega) (by omega)
    have hpb1 := hS.pl (f := f) (r := 1) (by omega) (by omega)
    have q3 : ∀ (v e : Int) (o5 o6 : Option VZ), ((v = 1 ∧ (thv c f k = 1 ∨ (cel c (0 + (k : Int) * 6 + 1) + 1 = cel c (0 + f * 6 + 1) ∧ oco c (k : Int) 0 1 = 3) ∨ (cel c (0 + (k : Int) * 6 + 1) + (-1) = cel c (0 + f * 6 + 1) ∧ oco c (k : Int) 0 (-1) = 3) ∨ (cel c (0 + (k : Int) * 6 + 2) + 1 = cel c (0 + f * 6 + 2) ∧ oco c (k : Int) 1 1 = 3))) ∨ (v = 0 ∧ ¬ (thv c f k = 1 ∨ (cel c (0 + (k : Int) * 6 + 1) + 1 = cel c (0 + f * 6 + 1) ∧ oco c (k : Int) 0 1 = 3) ∨ (cel c (0 + (k : Int) * 6 + 1) + (-1) = cel c (0 + f * 6 + 1) ∧ oco c (k : Int) 0 (-1) = 3) ∨ (cel c (0 + (k : Int) * 6 + 2) + 1 = cel c (0 + f * 6 + 2) ∧ oco c (k : Int) 1 1 = 3)))) → Exq 5 m8_isThreatened (cod m8_isThreatened 24, [some (.inl 21), some (.inr f), some (.inr v), some (.inr (k : Int)), some (.inr 3), o5, o6], [], (zr (th τ 0) 21 (zu ((th τ 0) 21) 10 e))) 0 (fun q => ∃ e, q = .inl (some (.inr (thv c f (cel c 107).toNat)), dt (th τ 0) e)) := by
      intro v e o5 o6 hv
      refine exq_k 2 (P := none) (g := (cod m8_isThreatened 26, [some (.inl 21), some (.inr f), some (.inr v), some (.inr (k : Int)), some (.inr 3), o5, o6], [.inr 4, .inr 3], (zr (th τ 0) 21 (zu ((th τ 0) 21) 10 e)))) rfl trivial ?_
      refine exq_b (P := 4 ≤ 3) (ct := (cod m8_isThreatened 76, [some (.inl 21), some (.inr f), some (.inr v), some (.inr (k : Int)), some (.inr 3), o5, o6], [], (zr (th τ 0) 21 (zu ((th τ 0) 21) 10 e)))) (cf := (cod m8_isThreatened 27, [some (.inl 21), some (.inr f), some (.inr v), some (.inr (k : Int)), some (.inr 3), o5, o6], [], (zr (th τ 0) 21 (zu ((th τ 0) 21) 10 e)))) rfl ⟨⟨by decide, by decide⟩, ⟨by decide, by decide⟩⟩ (fun hh => absurd hh (by decide)) (fun _ => ?_)
      refine exq_k 3 (P := some (0 ≤ 3 ∧ 3 < 2147483648 ∧ 0 < 2 ∧ 2 < 2147483648)) (g := (cod m8_isThreatened 30, [some (.inl 21), some (.inr f), some (.inr v), some (.inr (k : Int)), some (.inr 3), o5, o6], [.inr 1], (zr (th τ 0) 21 (zu ((th τ 0) 21) 10 e)))) rfl (by show 0 ≤ 3 ∧ 3 < 2147483648 ∧ 0 < 2 ∧ 2 < 2147483648; omega) ?_
      refine exq_b (P := ¬ 1 = 0) (ct := (cod m8_isThreatened 33, [some (.inl 21), some (.inr f), some (.inr v), some (.inr (k : Int)), some (.inr 3), o5, o6], [], (zr (th τ 0) 21 (zu ((th τ 0) 21) 10 e)))) (cf := (cod m8_isThreatened 31, [some (.inl 21), some (.inr f), some (.inr v), some (.inr (k : Int)), some (.inr 3), o5, o6], [], (zr (th τ 0) 21 (zu ((th τ 0) 21) 10 e)))) rfl ⟨by decide, by decide⟩ (fun _ => ?_) (fun hh => absurd (by decide) hh)
      refine exq_k 8 (P := some (0 ≤ 3 ∧ 3 < 2147483648 ∧ 0 < 2 ∧ 2 < 2147483648)) (g := (cod m8_isThreatened 41, [some (.inl 21), some (.inr f), some (.inr v), some (.inr (k : Int)), some (.inr 3), some (.inr (-1)), o6], [.inr 1, .inr 1, .inr (k : Int), .inl 21], (zr (th τ 0) 21 (zu ((th τ 0) 21) 10 e)))) rfl (by show 0 ≤ 3 ∧ 3 < 2147483648 ∧ 0 < 2 ∧ 2 < 2147483648; omega) ?_
      refine exq_k 1 (P := none) (g := (cod m8_isThreatened 42, [some (.inl 21), some (.inr f), some (.inr v), some (.inr (k : Int)), some (.inr 3), some (.inr (-1)), o6], [.inr 2, .inr (k : Int), .inl 21], (zr (th τ 0) 21 (zu ((th τ 0) 21) 10 e)))) rfl trivial ?_
      refine exq_c (m_of (τ := (zr (th τ 0) 21 (zu ((th τ 0) 21) 10 e))) (f := (k : Int)) (w := 2) hI hR (by omega) (by omega)) (is := cod m8_isThreatened 43) (L := [some (.inl 21), some (.inr f), some (.inr v), some (.inr (k : Int)), some (.inr 3), some (.inr (-1)), o6]) (st := []) rfl rfl rfl ?_
      show Exq _ _ (cod m8_isThreatened 43, [some (.inl 21), some (.inr f), some (.inr v), some (.inr (k : Int)), some (.inr 3), some (.inr (-1)), o6], [.inr (cel c (0 + (k : Int) * 6 + 2))], (zr (th τ 0) 21 (zu ((th τ 0) 21) 10 e))) _ _
      refine exq_k 8 (P := some (0 ≤ 3 ∧ 3 < 2147483648 ∧ 0 < 2 ∧ 2 < 2147483648)) (g := (cod m8_isThreatened 51, [some (.inl 21), some (.inr f), some (.inr v), some (.inr (k : Int)), some (.inr 3), some (.inr (-1)), o6], [.inr 1, .inr 1, .inr f, .inl 21, .inr ((cel c (0 + (k : Int) * 6 + 2)) + (-1))], (zr (th τ 0) 21 (zu ((th τ 0) 21) 10 e)))) rfl (by show 0 ≤ 3 ∧ 3 < 2147483648 ∧ 0 < 2 ∧ 2 < 2147483648; omega) ?_
      refine exq_k 1 (P := none) (g := (cod m8_isThreatened 52, [some (.inl 21), some (.inr f), some (.inr v), some (.inr (k : Int)), some (.inr 3), some (.inr (-1)), o6], [.inr 2, .inr f, .inl 21, .inr ((cel c (0 + (k : Int) * 6 + 2)) + (-1))], (zr (th τ 0) 21 (zu ((th τ 0) 21) 10 e)))) rfl trivial ?_
      refine exq_c (m_of (τ := (zr (th τ 0) 21 (zu ((th τ 0) 21) 10 e))) (f := f) (w := 2) hI hR (by omega) (by omega)) (is := cod m8_isThreatened 53) (L := [some (.inl 21), some (.inr f), some (.inr v), some (.inr (k : Int)), some (.inr 3), some (.inr (-1)), o6]) (st := [.inr ((cel c (0 + (k : Int) * 6 + 2)) + (-1))]) rfl rfl rfl ?_
      show Exq _ _ (cod m8_isThreatened 53, [some (.inl 21), some (.inr f), some (.inr v), some (.inr (k : Int)), some (.inr 3), some (.inr (-1)), o6], [.inr (cel c (0 + f * 6 + 2)), .inr ((cel c (0 + (k : Int) * 6 + 2)) + (-1))], (zr (th τ 0) 21 (zu ((th τ 0) 21) 10 e))) _ _
      refine exq_b (P := ¬ ((cel c (0 + (k : Int) * 6 + 2)) + (-1)) = (cel c (0 + f * 6 + 2))) (ct := (cod m8_isThreatened 56, [some (.inl 21), some (.inr f), some (.inr v), some (.inr (k : Int)), some (.inr 3), some (.inr (-1)), o6], [], (zr (th τ 0) 21 (zu ((th τ 0) 21) 10 e)))) (cf := (cod m8_isThreatened 54, [some (.inl 21), some (.inr f), some (.inr v), some (.inr (k : Int)), some (.inr 3), some (.inr (-1)), o6], [], (zr (th τ 0) 21 (zu ((th τ 0) 21) 10 e)))) rfl ⟨⟨by omega, by omega⟩, ⟨by omega, by omega⟩⟩ (fun h3 => ?_) (fun h3 => ?_)
      · first
        | (exfalso; omega)
        | (
            refine exq_k 3 (P := none) (g := (cod m8_isThreatened 59, [some (.inl 21), some (.inr f), some (.inr v), some (.inr (k : Int)), some (.inr 3), some (.inr (-1)), some (.inr 0)], [.inr v], (zr (th τ 0) 21 (zu ((th τ 0) 21) 10 e)))) rfl trivial ?_
            refine exq_b (P := ¬ v = 0) (ct := (cod m8_isThreatened 70, [some (.inl 21), some (.inr f), some (.inr v), some (.inr (k : Int)), some (.inr 3), some (.inr (-1)), some (.inr 0)], [], (zr (th τ 0) 21 (zu ((th τ 0) 21) 10 e)))) (cf := (cod m8_isThreatened 60, [some (.inl 21), some (.inr f), some (.inr v), some (.inr (k : Int)), some (.inr 3), some (.inr (-1)), some (.inr 0)], [], (zr (th τ 0) 21 (zu ((th τ 0) 21) 10 e)))) rfl ⟨by omega, by omega⟩ (fun h4 => ?_) (fun h4 => ?_)
            · first
              | (exfalso; omega)
              | (
                  refine exq_k 7 (P := none) (g := (cod m8_isThreatened 26, [some (.inl 21), some (.inr f), some (.inr 1), some (.inr (k : Int)), some (.inr 4), some (.inr (-1)), some (.inr 0)], [.inr 4, .inr 4], (zr (th τ 0) 21 (zu ((th τ 0) 21) 10 e)))) rfl trivial ?_
                  refine exq_b (P := 4 ≤ 4) (ct := (cod m8_isThreatened 76, [some (.inl 21), some (.inr f), some (.inr 1), some (.inr (k : Int)), some (.inr 4), some (.inr (-1)), some (.inr 0)], [], (zr (th τ 0) 21 (zu ((th τ 0) 21) 10 e)))) (cf := (cod m8_isThreatened 27, [some (.inl 21), some (.inr f), some (.inr 1), some (.inr (k : Int)), some (.inr 4), some (.inr (-1)), some (.inr 0)], [], (zr (th τ 0) 21 (zu ((th τ 0) 21) 10 e)))) rfl ⟨⟨by decide, by decide⟩, ⟨by decide, by decide⟩⟩ (fun _ => ?_) (fun hh => absurd (by decide) hh)
                  refine exq_k 2 (P := none) (g := (cod m8_isThreatened 13, [some (.inl 21), some (.inr f), some (.inr 1), some (.inr ((k : Int) + 1)), some (.inr 4), some (.inr (-1)), some (.inr 0)], [], (zr (th τ 0) 21 (zu ((th τ 0) 21) 10 e)))) rfl trivial ?_
                  exact ih (k + 1) (by omega) _ _ _ _ _ (by show _ = ite _ _ _; first | (rw [if_pos (by omega)]; done) | (rw [if_neg (by omega)]; done) | (split <;> omega)))
            · first
              | (exfalso; omega)
              | (
                  refine exq_k 1 (P := none) (g := (cod m8_isThreatened 61, [some (.inl 21), some (.inr f), some (.inr v), some (.inr (k : Int)), some (.inr 3), some (.inr (-1)), some (.inr 0)], [.inr 0], (zr (th τ 0) 21 (zu ((th τ 0) 21) 10 e)))) rfl trivial ?_
                  refine exq_b (P := 0 = 0) (ct := (cod m8_isThreatened 72, [some (.inl 21), some (.inr f), some (.inr v), some (.inr (k : Int)), some (.inr 3), some (.inr (-1)), some (.inr 0)], [], (zr (th τ 0) 21 (zu ((th τ 0) 21) 10 e)))) (cf := (cod m8_isThreatened 62, [some (.inl 21), some (.inr f), some (.inr v), some (.inr (k : Int)), some (.inr 3), some (.inr (-1)), some (.inr 0)], [], (zr (th τ 0) 21 (zu ((th τ 0) 21) 10 e)))) rfl ⟨by decide, by decide⟩ (fun _ => ?_) (fun hh => absurd (by decide) hh)
                  refine exq_k 6 (P := none) (g := (cod m8_isThreatened 26, [some (.inl 21), some (.inr f), some (.inr 0), some (.inr (k : Int)), some (.inr 4), some (.inr (-1)), some (.inr 0)], [.inr 4, .inr 4], (zr (th τ 0) 21 (zu ((th τ 0) 21) 10 e)))) rfl trivial ?_
                  refine exq_b (P := 4 ≤ 4) (ct := (cod m8_isThreatened 76, [some (.inl 21), some (.inr f), some (.inr 0), some (.inr (k : Int)), some (.inr 4), some (.inr (-1)), some (.inr 0)], [], (zr (th τ 0) 21 (zu ((th τ 0) 21) 10 e)))) (cf := (cod m8_isThreatened 27, [some (.inl 21), some (.inr f), some (.inr 0), some (.inr (k : Int)), some (.inr 4), some (.inr (-1)), some (.inr 0)], [], (zr (th τ 0) 21 (zu ((th τ 0) 21) 10 e)))) rfl ⟨⟨by decide, by decide⟩, ⟨by decide, by decide⟩⟩ (fun _ => ?_) (fun hh => absurd (by decide) hh)
                  refine exq_k 2 (P := none) (g := (cod m8_isThreatened 13, [some (.inl 21), some (.inr f), some (.inr 0), some (.inr ((k : Int) + 1)), some (.inr 4), some (.inr (-1)), some (.inr 0)], [], (zr (th τ 0) 21 (zu ((th τ 0) 21) 10 e)))) rfl trivial ?_
                  exact ih (k + 1) (by omega) _ _ _ _ _ (by show _ = ite _ _ _; first | (rw [if_pos (by omega)]; done) | (rw [if_neg (by omega)]; done) | (split <;> omega))))
      · first
        | (exfalso; omega)
        | (
            refine exq_k 4 (P := none) (g := (cod m8_isThreatened 59, [some (.inl 21), some (.inr f), some (.inr v), some (.inr (k : Int)), some (.inr 3), some (.inr (-1)), some (.inr 1)], [.inr v], (zr (th τ 0) 21 (zu ((th τ 0) 21) 10 e)))) rfl trivial ?_
            refine exq_b (P := ¬ v = 0) (ct := (cod m8_isThreatened 70, [some (.inl 21), some (.inr f), some (.inr v), some (.inr (k : Int)), some (.inr 3), some (.inr (-1)), some (.inr 1)], [], (zr (th τ 0) 21 (zu ((th τ 0) 21) 10 e)))) (cf := (cod m8_isThreatened 60, [some (.inl 21), some (.inr f), some (.inr v), some (.inr (k : Int)), some (.inr 3), some (.inr (-1)), some (.inr 1)], [], (zr (th τ 0) 21 (zu ((th τ 0) 21) 10 e)))) rfl ⟨by omega, by omega⟩ (fun h8 => ?_) (fun h8 => ?_)
            · first
              | (exfalso; omega)
              | (
                  refine exq_k 7 (P := none) (g := (cod m8_isThreatened 26, [some (.inl 21), some (.inr f), some (.inr 1), some (.inr (k : Int)), some (.inr 4), some (.inr (-1)), some (.inr 1)], [.inr 4, .inr 4], (zr (th τ 0) 21 (zu ((th τ 0) 21) 10 e)))) rfl trivial ?_
                  refine exq_b (P := 4 ≤ 4) (ct := (cod m8_isThreatened 76, [some (.inl 21), some (.inr f), some (.inr 1), some (.inr (k : Int)), some (.inr 4), some (.inr (-1)), some (.inr 1)], [], (zr (th τ 0) 21 (zu ((th τ 0) 21) 10 e)))) (cf := (cod m8_isThreatened 27, [some (.inl 21), some (.inr f), some (.inr 1), some (.inr (k : Int)), some (.inr 4), some (.inr (-1)), some (.inr 1)], [], (zr (th τ 0) 21 (zu ((th τ 0) 21) 10 e)))) rfl ⟨⟨by decide, by decide⟩, ⟨by decide, by decide⟩⟩ (fun _ => ?_) (fun hh => absurd (by decide) hh)
                  refine exq_k 2 (P := none) (g := (cod m8_isThreatened 13, [some (.inl 21), some (.inr f), some (.inr 1), some (.inr ((k : Int) + 1)), some (.inr 4), some (.inr (-1)), some (.inr 1)], [], (zr (th τ 0) 21 (zu ((th τ 0) 21) 10 e)))) rfl trivial ?_
                  exact ih (k + 1) (by omega) _ _ _ _ _ (by show _ = ite _ _ _; first | (rw [if_pos (by omega)]; done) | (rw [if_neg (by omega)]; done) | (split <;> omega)))
            · first
              | (exfalso; omega)
              | (
                  refine exq_k 1 (P := none) (g := (cod m8_isThreatened 61, [some (.inl 21), some (.inr f), some (.inr v), some (.inr (k : Int)), some (.inr 3), some (.inr (-1)), some (.inr 1)], [.inr 1], (zr (th τ 0) 21 (zu ((th τ 0) 21) 10 e)))) rfl trivial ?_
                  refine exq_b (P := 1 = 0) (ct := (cod m8_isThreatened 72, [some (.inl 21), some (.inr f), some (.inr v), some (.inr (k : Int)), some (.inr 3), some (.inr (-1)), some (.inr 1)], [], (zr (th τ 0) 21 (zu ((th τ 0) 21) 10 e)))) (cf := (cod m8_isThreatened 62, [some (.inl 21), some (.inr f), some (.inr v), some (.inr (k : Int)), some (.inr 3), some (.inr (-1)), some (.inr 1)], [], (zr (th τ 0) 21 (zu ((th τ 0) 21) 10 e)))) rfl ⟨by decide, by decide⟩ (fun hh => absurd hh (by decide)) (fun _ => ?_)
                  refine exq_k 5 (P := some (0 ≤ 3 ∧ 3 < 2147483648 ∧ 0 < 2 ∧ 2 < 2147483648)) (g := (cod m8_isThreatened 67, [some (.inl 21), some (.inr f), some (.inr v), some (.inr (k : Int)), some (.inr 3), some (.inr (-1)), some (.inr 1)], [.inr 1, .inr (k : Int), .inl 21], (zr (th τ 0) 21 (zu ((th τ 0) 21) 10 e)))) rfl (by show 0 ≤ 3 ∧ 3 < 2147483648 ∧ 0 < 2 ∧ 2 < 2147483648; omega) ?_
                  refine exq_k 1 (P := none) (g := (cod m8_isThreatened 68, [some (.inl 21), some (.inr f), some (.inr v), some (.inr (k : Int)), some (.inr 3), some (.inr (-1)), some (.inr 1)], [.inr (-1), .inr 1, .inr (k : Int), .inl 21], (zr (th τ 0) 21 (zu ((th τ 0) 21) 10 e)))) rfl trivial ?_
                  obtain ⟨e17, hc17⟩ := m_isCapture (τ := (zr (th τ 0) 21 (zu ((th τ 0) 21) 10 e))) (f := (k : Int)) (r := 1) (s := (-1)) hI hR (by omega) (by omega) (by omega)
                  refine exq_c hc17 (is := cod m8_isThreatened 69) (L := [some (.inl 21), some (.inr f), some (.inr v), some (.inr (k : Int)), some (.inr 3), some (.inr (-1)), some (.inr 1)]) (st := []) rfl rfl rfl ?_
                  show Exq _ _ (cod m8_isThreatened 69, [some (.inl 21), some (.inr f), some (.inr v), some (.inr (k : Int)), some (.inr 3), some (.inr (-1)), some (.inr 1)], [.inr (b2 (oco c (k : Int) 1 (-1) = 3))], (zr (zr (th τ 0) 21 (zu ((th τ 0) 21) 10 e)) 21 (zu (zu ((th τ 0) 21) 10 e) 10 e17))) _ _
                  rw [zr_zr, zu_zu]
                  refine exq_b (P := (b2 (oco c (k : Int) 1 (-1) = 3)) = 0) (ct := (cod m8_isThreatened 72, [some (.inl 21), some (.inr f), some (.inr v), some (.inr (k : Int)), some (.inr 3), some (.inr (-1)), some (.inr 1)], [], (zr (th τ 0) 21 (zu ((th τ 0) 21) 10 e17)))) (cf := (cod m8_isThreatened 70, [some (.inl 21), some (.inr f), some (.inr v), some (.inr (k : Int)), some (.inr 3), some (.inr (-1)), some (.inr 1)], [], (zr (th τ 0) 21 (zu ((th τ 0) 21) 10 e17)))) rfl b2_rng (fun h11 => ?_) (fun h11 => ?_)
                  · first
                    | (exfalso; have h11 := b2_e0 h11; omega)
                    | (
                        have h11 := b2_e0 h11
                        refine exq_k 6 (P := none) (g := (cod m8_isThreatened 26, [some (.inl 21), some (.inr f), some (.inr 0), some (.inr (k : Int)), some (.inr 4), some (.inr (-1)), some (.inr 1)], [.inr 4, .inr 4], (zr (th τ 0) 21 (zu ((th τ 0) 21) 10 e17)))) rfl trivial ?_
                        refine exq_b (P := 4 ≤ 4) (ct := (cod m8_isThreatened 76, [some (.inl 21), some (.inr f), some (.inr 0), some (.inr (k : Int)), some (.inr 4), some (.inr (-1)), some (.inr 1)], [], (zr (th τ 0) 21 (zu ((th τ 0) 21) 10 e17)))) (cf := (cod m8_isThreatened 27, [some (.inl 21), some (.inr f), some (.inr 0), some (.inr (k : Int)), some (.inr 4), some (.inr (-1)), some (.inr 1)], [], (zr (th τ 0) 21 (zu ((th τ 0) 21) 10 e17)))) rfl ⟨⟨by decide, by decide⟩, ⟨by decide, by decide⟩⟩ (fun _ => ?_) (fun hh => absurd (by decide) hh)
                        refine exq_k 2 (P := none) (g := (cod m8_isThreatened 13, [some (.inl 21), some (.inr f), some (.inr 0), some (.inr ((k : Int) + 1)), some (.inr 4), some (.inr (-1)), some (.inr 1)], [], (zr (th τ 0) 21 (zu ((th τ 0) 21) 10 e17)))) rfl trivial ?_
                        exact ih (k + 1) (by omega) _ _ _ _ _ (by show _ = ite _ _ _; first | (rw [if_pos (by omega)]; done) | (rw [if_neg (by omega)]; done) | (split <;> omega)))
                  · first
                    | (exfalso; have h11 := b2_n0 h11; omega)
                    | (
                        have h11 := b2_n0 h11
                        refine exq_k 7 (P := none) (g := (cod m8_isThreatened 26, [some (.inl 21), some (.inr f), some (.inr 1), some (.inr (k : Int)), some (.inr 4), some (.inr (-1)), some (.inr 1)], [.inr 4, .inr 4], (zr (th τ 0) 21 (zu ((th τ 0) 21) 10 e17)))) rfl trivial ?_
                        refine exq_b (P := 4 ≤ 4) (ct := (cod m8_isThreatened 76, [some (.inl 21), some (.inr f), some (.inr 1), some (.inr (k : Int)), some (.inr 4), some (.inr (-1)), some (.inr 1)], [], (zr (th τ 0) 21 (zu ((th τ 0) 21) 10 e17)))) (cf := (cod m8_isThreatened 27, [some (.inl 21), some (.inr f), some (.inr 1), some (.inr (k : Int)), some (.inr 4), some (.inr (-1)), some (.inr 1)], [], (zr (th τ 0) 21 (zu ((th τ 0) 21) 10 e17)))) rfl ⟨⟨by decide, by decide⟩, ⟨by decide, by decide⟩⟩ (fun _ => ?_) (fun hh => absurd (by decide) hh)
                        refine exq_k 2 (P := none) (g := (cod m8_isThreatened 13, [some (.inl 21), some (.inr f), some (.inr 1), some (.inr ((k : Int) + 1)), some (.inr 4), some (.inr (-1)), some (.inr 1)], [], (zr (th τ 0) 21 (zu ((th τ 0) 21) 10 e17)))) rfl trivial ?_
                        exact ih (k + 1) (by omega) _ _ _ _ _ (by show _ = ite _ _ _; first | (rw [if_pos (by omega)]; done) | (rw [if_neg (by omega)]; done) | (split <;> omega)))))
    have q2 : ∀ (v e : Int) (o5 o6 : Option VZ), ((v = 1 ∧ (thv c f k = 1 ∨ (cel c (0 + (k : Int) * 6 + 1) + 1 = cel c (0 + f * 6 + 1) ∧ oco c (k : Int) 0 1 = 3) ∨ (cel c (0 + (k : Int) * 6 + 1) + (-1) = cel c (0 + f * 6 + 1) ∧ oco c (k : Int) 0 (-1) = 3))) ∨ (v = 0 ∧ ¬ (thv c f k = 1 ∨ (cel c (0 + (k : Int) * 6 + 1) + 1 = cel c (0 + f * 6 + 1) ∧ oco c (k : Int) 0 1 = 3) ∨ (cel c (0 + (k : Int) * 6 + 1) + (-1) = cel c (0 + f * 6 + 1) ∧ oco c (k : Int) 0 (-1) = 3)))) → Exq 5 m8_isThreatened (cod m8_isThreatened 24, [some (.inl 21), some (.inr f), some (.inr v), some (.inr (k : Int)), some (.inr 2), o5, o6], [], (zr (th τ 0) 21 (zu ((th τ 0) 21) 10 e))) 0 (fun q => ∃ e, q = .inl (some (.inr (thv c f (cel c 107).toNat)), dt (th τ 0) e)) := by
      intro v e o5 o6 hv
      refine exq_k 2 (P := none) (g := (cod m8_isThreatened 26, [some (.inl 21), some (.inr f), some (.inr v), some (.inr (k : Int)), some (.inr 2), o5, o6], [.inr 4, .inr 2], (zr (th τ 0) 21 (zu ((th τ 0) 21) 10 e)))) rfl trivial ?_
      refine exq_b (P := 4 ≤ 2) (ct := (cod m8_isThreatened 76, [some (.inl 21), some (.inr f), some (.inr v), some (.inr (k : Int)), some (.inr 2), o5, o6], [], (zr (th τ 0) 21 (zu ((th τ 0) 21) 10 e)))) (cf := (cod m8_isThreatened 27, [some (.inl 21), some (.inr f), some (.inr v), some (.inr (k : Int)), some (.inr 2), o5, o6], [], (zr (th τ 0) 21 (zu ((th τ 0) 21) 10 e)))) rfl ⟨⟨by decide, by decide⟩, ⟨by decide, by decide⟩⟩ (fun hh => absurd hh (by decide)) (fun _ => ?_)
      refine exq_k 3 (P := some (0 ≤ 2 ∧ 2 < 2147483648 ∧ 0 < 2 ∧ 2 < 2147483648)) (g := (cod m8_isThreatened 30, [some (.inl 21), some (.inr f), some (.inr v), some (.inr (k : Int)), some (.inr 2), o5, o6], [.inr 0], (zr (th τ 0) 21 (zu ((th τ 0) 21) 10 e)))) rfl (by show 0 ≤ 2 ∧ 2 < 2147483648 ∧ 0 < 2 ∧ 2 < 2147483648; omega) ?_
      refine exq_b (P := ¬ 0 = 0) (ct := (cod m8_isThreatened 33, [some (.inl 21), some (.inr f), some (.inr v), some (.inr (k : Int)), some (.inr 2), o5, o6], [], (zr (th τ 0) 21 (zu ((th τ 0) 21) 10 e)))) (cf := (cod m8_isThreatened 31, [some (.inl 21), some (.inr f), some (.inr v), some (.inr (k : Int)), some (.inr 2), o5, o6], [], (zr (th τ 0) 21 (zu ((th τ 0) 21) 10 e)))) rfl ⟨by decide, by decide⟩ (fun hh => absurd hh (by decide)) (fun _ => ?_)
      refine exq_k 9 (P := some (0 ≤ 2 ∧ 2 < 2147483648 ∧ 0 < 2 ∧ 2 < 2147483648)) (g := (cod m8_isThreatened 41, [some (.inl 21), some (.inr f), some (.inr v), some (.inr (k : Int)), some (.inr 2), some (.inr 1), o6], [.inr 1, .inr 1, .inr (k : Int), .inl 21], (zr (th τ 0) 21 (zu ((th τ 0) 21) 10 e)))) rfl (by show 0 ≤ 2 ∧ 2 < 2147483648 ∧ 0 < 2 ∧ 2 < 2147483648; omega) ?_
      refine exq_k 1 (P := none) (g := (cod m8_isThreatened 42, [some (.inl 21), some (.inr f), some (.inr v), some (.inr (k : Int)), some (.inr 2), some (.inr 1), o6], [.inr 2, .inr (k : Int), .inl 21], (zr (th τ 0) 21 (zu ((th τ 0) 21) 10 e)))) rfl trivial ?_
      refine exq_c (m_of (τ := (zr (th τ 0) 21 (zu ((th τ 0) 21) 10 e))) (f := (k : Int)) (w := 2) hI hR (by omega) (by omega)) (is := cod m8_isThreatened 43) (L := [some (.inl 21), some (.inr f), some (.inr v), some (.inr (k : Int)), some (.inr 2), some (.inr 1), o6]) (st := []) rfl rfl rfl ?_
      show Exq _ _ (cod m8_isThreatened 43, [some (.inl 21), some (.inr f), some (.inr v), some (.inr (k : Int)), some (.inr 2), some (.inr 1), o6], [.inr (cel c (0 + (k : Int) * 6 + 2))], (zr (th τ 0) 21 (zu ((th τ 0) 21) 10 e))) _ _
      refine exq_k 8 (P := some (0 ≤ 2 ∧ 2 < 2147483648 ∧ 0 < 2 ∧ 2 < 2147483648)) (g := (cod m8_isThreatened 51, [some (.inl 21), some (.inr f), some (.inr v), some (.inr (k : Int)), some (.inr 2), some (.inr 1), o6], [.inr 1, .inr 1, .inr f, .inl 21, .inr ((cel c (0 + (k : Int) * 6 + 2)) + 1)], (zr (th τ 0) 21 (zu ((th τ 0) 21) 10 e)))) rfl (by show 0 ≤ 2 ∧ 2 < 2147483648 ∧ 0 < 2 ∧ 2 < 2147483648; omega) ?_
      refine exq_k 1 (P := none) (g := (cod m8_isThreatened 52, [some (.inl 21), some (.inr f), some (.inr v), some (.inr (k : Int)), some (.inr 2), some (.inr 1), o6], [.inr 2, .inr f, .inl 21, .inr ((cel c (0 + (k : Int) * 6 + 2)) + 1)], (zr (th τ 0) 21 (zu ((th τ 0) 21) 10 e)))) rfl trivial ?_
      refine exq_c (m_of (τ := (zr (th τ 0) 21 (zu ((th τ 0) 21) 10 e))) (f := f) (w := 2) hI hR (by omega) (by omega)) (is := cod m8_isThreatened 53) (L := [some (.inl 21), some (.inr f), some (.inr v), some (.inr (k : Int)), some (.inr 2), some (.inr 1), o6]) (st := [.inr ((cel c (0 + (k : Int) * 6 + 2)) + 1)]) rfl rfl rfl ?_
      show Exq _ _ (cod m8_isThreatened 53, [some (.inl 21), some (.inr f), some (.inr v), some (.inr (k : Int)), some (.inr 2), some (.inr 1), o6], [.inr (cel c (0 + f * 6 + 2)), .inr ((cel c (0 + (k : Int) * 6 + 2)) + 1)], (zr (th τ 0) 21 (zu ((th τ 0) 21) 10 e))) _ _
      refine exq_b (P := ¬ ((cel c (0 + (k : Int) * 6 + 2)) + 1) = (cel c (0 + f * 6 + 2))) (ct := (cod m8_isThreatened 56, [some (.inl 21), some (.inr f), some (.inr v), some (.inr (k : Int)), some (.inr 2), some (.inr 1), o6], [], (zr (th τ 0) 21 (zu ((th τ 0) 21) 10 e)))) (cf := (cod m8_isThreatened 54, [some (.inl 21), some (.inr f), some (.inr v), some (.inr (k : Int)), some (.inr 2), some (.inr 1), o6], [], (zr (th τ 0) 21 (zu ((th τ 0) 21) 10 e)))) rfl ⟨⟨by omega, by omega⟩, ⟨by omega, by omega⟩⟩ (fun h3 => ?_) (fun h3 => ?_)
      · first
        | (exfalso; omega)
        | (
            refine exq_k 3 (P := none) (g := (cod m8_isThreatened 59, [some (.inl 21), some (.inr f), some (.inr v), some (.inr (k : Int)), some (.inr 2), some (.inr 1), some (.inr 0)], [.inr v], (zr (th τ 0) 21 (zu ((th τ 0) 21) 10 e)))) rfl trivial ?_
            refine exq_b (P := ¬ v = 0) (ct := (cod m8_isThreatened 70, [some (.inl 21), some (.inr f), some (.inr v), some (.inr (k : Int)), some (.inr 2), some (.inr 1), some (.inr 0)], [], (zr (th τ 0) 21 (zu ((th τ 0) 21) 10 e)))) (cf := (cod m8_isThreatened 60, [some (.inl 21), some (.inr f), some (.inr v), some (.inr (k : Int)), some (.inr 2), some (.inr 1), some (.inr 0)], [], (zr (th τ 0) 21 (zu ((th τ 0) 21) 10 e)))) rfl ⟨by omega, by omega⟩ (fun h4 => ?_) (fun h4 => ?_)
            · first
              | (exfalso; omega)
              | (
                  refine exq_k 5 (P := none) (g := (cod m8_isThreatened 24, [some (.inl 21), some (.inr f), some (.inr 1), some (.inr (k : Int)), some (.inr 3), some (.inr 1), some (.inr 0)], [], (zr (th τ 0) 21 (zu ((th τ 0) 21) 10 e)))) rfl trivial ?_
                  exact q3 _ _ _ _ (by omega))
            · first
              | (exfalso; omega)
              | (
                  refine exq_k 1 (P := none) (g := (cod m8_isThreatened 61, [some (.inl 21), some (.inr f), some (.inr v), some (.inr (k : Int)), some (.inr 2), some (.inr 1), some (.inr 0)], [.inr 0], (zr (th τ 0) 21 (zu ((th τ 0) 21) 10 e)))) rfl trivial ?_
                  refine exq_b (P := 0 = 0) (ct := (cod m8_isThreatened 72, [some (.inl 21), some (.inr f), some (.inr v), some (.inr (k : Int)), some (.inr 2), some (.inr 1), some (.inr 0)], [], (zr (th τ 0) 21 (zu ((th τ 0) 21) 10 e)))) (cf := (cod m8_isThreatened 62, [some (.inl 21), some (.inr f), some (.inr v), some (.inr (k : Int)), some (.inr 2), some (.inr 1), some (.inr 0)], [], (zr (th τ 0) 21 (zu ((th τ 0) 21) 10 e)))) rfl ⟨by decide, by decide⟩ (fun _ => ?_) (fun hh => absurd (by decide) hh)
                  refine exq_k 4 (P := none) (g := (cod m8_isThreatened 24, [some (.inl 21), some (.inr f), some (.inr 0), some (.inr (k : Int)), some (.inr 3), some (.inr 1), some (.inr 0)], [], (zr (th τ 0) 21 (zu ((th τ 0) 21) 10 e)))) rfl trivial ?_
                  exact q3 _ _ _ _ (by omega)))
      · first
        | (exfalso; omega)
        | (
            refine exq_k 4 (P := none) (g := (cod m8_isThreatened 59, [some (.inl 21), some (.inr f), some (.inr v), some (.inr (k : Int)), some (.inr 2), some (.inr 1), some (.inr 1)], [.inr v], (zr (th τ 0) 21 (zu ((th τ 0) 21) 10 e)))) rfl trivial ?_
            refine exq_b (P := ¬ v = 0) (ct := (cod m8_isThreatened 70, [some (.inl 21), some (.inr f), some (.inr v), some (.inr (k : Int)), some (.inr 2), some (.inr 1), some (.inr 1)], [], (zr (th τ 0) 21 (zu ((th τ 0) 21) 10 e)))) (cf := (cod m8_isThreatened 60, [some (.inl 21), some (.inr f), some (.inr v), some (.inr (k : Int)), some (.inr 2), some (.inr 1), some (.inr 1)], [], (zr (th τ 0) 21 (zu ((th τ 0) 21) 10 e)))) rfl ⟨by omega, by omega⟩ (fun h6 => ?_) (fun h6 => ?_)
            · first
              | (exfalso; omega)
              | (
                  refine exq_k 5 (P := none) (g := (cod m8_isThreatened 24, [some (.inl 21), some (.inr f), some (.inr 1), some (.inr (k : Int)), some (.inr 3), some (.inr 1), some (.inr 1)], [], (zr (th τ 0) 21 (zu ((th τ 0) 21) 10 e)))) rfl trivial ?_
                  exact q3 _ _ _ _ (by omega))
            · first
              | (exfalso; omega)
              | (
                  refine exq_k 1 (P := none) (g := (cod m8_isThreatened 61, [some (.inl 21), some (.inr f), some (.inr v), some (.inr (k : Int)), some (.inr 2), some (.inr 1), some (.inr 1)], [.inr 1], (zr (th τ 0) 21 (zu ((th τ 0) 21) 10 e)))) rfl trivial ?_
                  refine exq_b (P := 1 = 0) (ct := (cod m8_isThreatened 72, [some (.inl 21), some (.inr f), some (.inr v), some (.inr (k : Int)), some (.inr 2), some (.inr 1), some (.inr 1)], [], (zr (th τ 0) 21 (zu ((th τ 0) 21) 10 e)))) (cf := (cod m8_isThreatened 62, [some (.inl 21), some (.inr f), some (.inr v), some (.inr (k : Int)), some (.inr 2), some (.inr 1), some (.inr 1)], [], (zr (th τ 0) 21 (zu ((th τ 0) 21) 10 e)))) rfl ⟨by decide, by decide⟩ (fun hh => absurd hh (by decide)) (fun _ => ?_)
                  refine exq_k 5 (P := some (0 ≤ 2 ∧ 2 < 2147483648 ∧ 0 < 2 ∧ 2 < 2147483648)) (g := (cod m8_isThreatened 67, [some (.inl 21), some (.inr f), some (.inr v), some (.inr (k : Int)), some (.inr 2), some (.inr 1), some (.inr 1)], [.inr 1, .inr (k : Int), .inl 21], (zr (th τ 0) 21 (zu ((th τ 0) 21) 10 e)))) rfl (by show 0 ≤ 2 ∧ 2 < 2147483648 ∧ 0 < 2 ∧ 2 < 2147483648; omega) ?_
                  refine exq_k 1 (P := none) (g := (cod m8_isThreatened 68, [some (.inl 21), some (.inr f), some (.inr v), some (.inr (k : Int)), some (.inr 2), some (.inr 1), some (.inr 1)], [.inr 1, .inr 1, .inr (k : Int), .inl 21], (zr (th τ 0) 21 (zu ((th τ 0) 21) 10 e)))) rfl trivial ?_
                  obtain ⟨e18, hc18⟩ := m_isCapture (τ := (zr (th τ 0) 21 (zu ((th τ 0) 21) 10 e))) (f := (k : Int)) (r := 1) (s := 1) hI hR (by omega) (by omega) (by omega)
                  refine exq_c hc18 (is := cod m8_isThreatened 69) (L := [some (.inl 21), some (.inr f), some (.inr v), some (.inr (k : Int)), some (.inr 2), some (.inr 1), some (.inr 1)]) (st := []) rfl rfl rfl ?_
                  show Exq _ _ (cod m8_isThreatened 69, [some (.inl 21), some (.inr f), some (.inr v), some (.inr (k : Int)), some (.inr 2), some (.inr 1), some (.inr 1)], [.inr (b2 (oco c (k : Int) 1 1 = 3))], (zr (zr (th τ 0) 21 (zu ((th τ 0) 21) 10 e)) 21 (zu (zu ((th τ 0) 21) 10 e) 10 e18))) _ _
                  rw [zr_zr, zu_zu]
                  refine exq_b (P := (b2 (oco c (k : Int) 1 1 = 3)) = 0) (ct := (cod m8_isThreatened 72, [some (.inl 21), some (.inr f), some (.inr v), some (.inr (k : Int)), some (.inr 2), some (.inr 1), some (.inr 1)], [], (zr (th τ 0) 21 (zu ((th τ 0) 21) 10 e18)))) (cf := (cod m8_isThreatened 70, [some (.inl 21), some (.inr f), some (.inr v), some (.inr (k : Int)), some (.inr 2), some (.inr 1), some (.inr 1)], [], (zr (th τ 0) 21 (zu ((th τ 0) 21) 10 e18)))) rfl b2_rng (fun h8 => ?_) (fun h8 => ?_)
                  · first
                    | (exfalso; have h8 := b2_e0 h8; omega)
                    | (
                        have h8 := b2_e0 h8
                        refine exq_k 4 (P := none) (g := (cod m8_isThreatened 24, [some (.inl 21), some (.inr f), some (.inr 0), some (.inr (k : Int)), some (.inr 3), some (.inr 1), some (.inr 1)], [], (zr (th τ 0) 21 (zu ((th τ 0) 21) 10 e18)))) rfl trivial ?_
                        exact q3 _ _ _ _ (by omega))
                  · first
                    | (exfalso; have h8 := b2_n0 h8; omega)
                    | (
                        have h8 := b2_n0 h8
                        refine exq_k 5 (P := none) (g := (cod m8_isThreatened 24, [some (.inl 21), some (.inr f), some (.inr 1), some (.inr (k : Int)), some (.inr 3), some (.inr 1), some (.inr 1)], [], (zr (th τ 0) 21 (zu ((th τ 0) 21) 10 e18)))) rfl trivial ?_
                        exact q3 _ _ _ _ (by omega))))
    have q1 : ∀ (v e : Int) (o5 o6 : Option VZ), ((v = 1 ∧ (thv c f k = 1 ∨ (cel c (0 + (k : Int) * 6 + 1) + 1 = cel c (0 + f * 6 + 1) ∧ oco c (k : Int) 0 1 = 3))) ∨ (v = 0 ∧ ¬ (thv c f k = 1 ∨ (cel c (0 + (k : Int) * 6 + 1) + 1 = cel c (0 + f * 6 + 1) ∧ oco c (k : Int) 0 1 = 3)))) → Exq 5 m8_isThreatened (cod m8_isThreatened 24, [some (.inl 21), some (.inr f), some (.inr v), some (.inr (k : Int)), some (.inr 1), o5, o6], [], (zr (th τ 0) 21 (zu ((th τ 0) 21) 10 e))) 0 (fun q => ∃ e, q = .inl (some (.inr (thv c f (cel c 107).toNat)), dt (th τ 0) e)) := by
      intro v e o5 o6 hv
      refine exq_k 2 (P := none) (g := (cod m8_isThreatened 26, [some (.inl 21), some (.inr f), some (.inr v), some (.inr (k : Int)), some (.inr 1), o5, o6], [.inr 4, .inr 1], (zr (th τ 0) 21 (zu ((th τ 0) 21) 10 e)))) rfl trivial ?_
      refine exq_b (P := 4 ≤ 1) (ct := (cod m8_isThreatened 76, [some (.inl 21), some (.inr f), some (.inr v), some (.inr (k : Int)), some (.inr 1), o5, o6], [], (zr (th τ 0) 21 (zu ((th τ 0) 21) 10 e)))) (cf := (cod m8_isThreatened 27, [some (.inl 21), some (.inr f), some (.inr v), some (.inr (k : Int)), some (.inr 1), o5, o6], [], (zr (th τ 0) 21 (zu ((th τ 0) 21) 10 e)))) rfl ⟨⟨by decide, by decide⟩, ⟨by decide, by decide⟩⟩ (fun hh => absurd hh (by decide)) (fun _ => ?_)
      refine exq_k 3 (P := some (0 ≤ 1 ∧ 1 < 2147483648 ∧ 0 < 2 ∧ 2 < 2147483648)) (g := (cod m8_isThreatened 30, [some (.inl 21), some (.inr f), some (.inr v), some (.inr (k : Int)), some (.inr 1), o5, o6], [.inr 1], (zr (th τ 0) 21 (zu ((th τ 0) 21) 10 e)))) rfl (by show 0 ≤ 1 ∧ 1 < 2147483648 ∧ 0 < 2 ∧ 2 < 2147483648; omega) ?_
      refine exq_b (P := ¬ 1 = 0) (ct := (cod m8_isThreatened 33, [some (.inl 21), some (.inr f), some (.inr v), some (.inr (k : Int)), some (.inr 1), o5, o6], [], (zr (th τ 0) 21 (zu ((th τ 0) 21) 10 e)))) (cf := (cod m8_isThreatened 31, [some (.inl 21), some (.inr f), some (.inr v), some (.inr (k : Int)), some (.inr 1), o5, o6], [], (zr (th τ 0) 21 (zu ((th τ 0) 21) 10 e)))) rfl ⟨by decide, by decide⟩ (fun _ => ?_) (fun hh => absurd (by decide) hh)
      refine exq_k 8 (P := some (0 ≤ 1 ∧ 1 < 2147483648 ∧ 0 < 2 ∧ 2 < 2147483648)) (g := (cod m8_isThreatened 41, [some (.inl 21), some (.inr f), some (.inr v), some (.inr (k : Int)), some (.inr 1), some (.inr (-1)), o6], [.inr 0, .inr 1, .inr (k : Int), .inl 21], (zr (th τ 0) 21 (zu ((th τ 0) 21) 10 e)))) rfl (by show 0 ≤ 1 ∧ 1 < 2147483648 ∧ 0 < 2 ∧ 2 < 2147483648; omega) ?_
      refine exq_k 1 (P := none) (g := (cod m8_isThreatened 42, [some (.inl 21), some (.inr f), some (.inr v), some (.inr (k : Int)), some (.inr 1), some (.inr (-1)), o6], [.inr 1, .inr (k : Int), .inl 21], (zr (th τ 0) 21 (zu ((th τ 0) 21) 10 e)))) rfl trivial ?_
      refine exq_c (m_of (τ := (zr (th τ 0) 21 (zu ((th τ 0) 21) 10 e))) (f := (k : Int)) (w := 1) hI hR (by omega) (by omega)) (is := cod m8_isThreatened 43) (L := [some (.inl 21), some (.inr f), some (.inr v), some (.inr (k : Int)), some (.inr 1), some (.inr (-1)), o6]) (st := []) rfl rfl rfl ?_
      show Exq _ _ (cod m8_isThreatened 43, [some (.inl 21), some (.inr f), some (.inr v), some (.inr (k : Int)), some (.inr 1), some (.inr (-1)), o6], [.inr (cel c (0 + (k : Int) * 6 + 1))], (zr (th τ 0) 21 (zu ((th τ 0) 21) 10 e))) _ _
      refine exq_k 8 (P := some (0 ≤ 1 ∧ 1 < 2147483648 ∧ 0 < 2 ∧ 2 < 2147483648)) (g := (cod m8_isThreatened 51, [some (.inl 21), some (.inr f), some (.inr v), some (.inr (k : Int)), some (.inr 1), some (.inr (-1)), o6], [.inr 0, .inr 1, .inr f, .inl 21, .inr ((cel c (0 + (k : Int) * 6 + 1)) + (-1))], (zr (th τ 0) 21 (zu ((th τ 0) 21) 10 e)))) rfl (by show 0 ≤ 1 ∧ 1 < 2147483648 ∧ 0 < 2 ∧ 2 < 2147483648; omega) ?_
      refine exq_k 1 (P := none) (g := (cod m8_isThreatened 52, [some (.inl 21), some (.inr f), some (.inr v), some (.inr (k : Int)), some (.inr 1), some (.inr (-1)), o6], [.inr 1, .inr f, .inl 21, .inr ((cel c (0 + (k : Int) * 6 + 1)) + (-1))], (zr (th τ 0) 21 (zu ((th τ 0) 21) 10 e)))) rfl trivial ?_
      refine exq_c (m_of (τ := (zr (th τ 0) 21 (zu ((th τ 0) 21) 10 e))) (f := f) (w := 1) hI hR (by omega) (by omega)) (is := cod m8_isThreatened 53) (L := [some (.inl 21), some (.inr f), some (.inr v), some (.inr (k : Int)), some (.inr 1), some (.inr (-1)), o6]) (st := [.inr ((cel c (0 + (k : Int) * 6 + 1)) + (-1))]) rfl rfl rfl ?_
      show Exq _ _ (cod m8_isThreatened 53, [some (.inl 21), some (.inr f), some (.inr v), some (.inr (k : Int)), some (.inr 1), some (.inr (-1)), o6], [.inr (cel c (0 + f * 6 + 1)), .inr ((cel c (0 + (k : Int) * 6 + 1)) + (-1))], (zr (th τ 0) 21 (zu ((th τ 0) 21) 10 e))) _ _
      refine exq_b (P := ¬ ((cel c (0 + (k : Int) * 6 + 1)) + (-1)) = (cel c (0 + f * 6 + 1))) (ct := (cod m8_isThreatened 56, [some (.inl 21), some (.inr f), some (.inr v), some (.inr (k : Int)), some (.inr 1), some (.inr (-1)), o6], [], (zr (th τ 0) 21 (zu ((th τ 0) 21) 10 e)))) (cf := (cod m8_isThreatened 54, [some (.inl 21), some (.inr f), some (.inr v), some (.inr (k : Int)), some (.inr 1), some (.inr (-1)), o6], [], (zr (th τ 0) 21 (zu ((th τ 0) 21) 10 e)))) rfl ⟨⟨by omega, by omega⟩, ⟨by omega, by omega⟩⟩ (fun h3 => ?_) (fun h3 => ?_)
      · first
        | (exfalso; omega)
        | (
            refine exq_k 3 (P := none) (g := (cod m8_isThreatened 59, [some (.inl 21), some (.inr f), some (.inr v), some (.inr (k : Int)), some (.inr 1), some (.inr (-1)), some (.inr 0)], [.inr v], (zr (th τ 0) 21 (zu ((th τ 0) 21) 10 e)))) rfl trivial ?_
            refine exq_b (P := ¬ v = 0) (ct := (cod m8_isThreatened 70, [some (.inl 21), some (.inr f), some (.inr v), some (.inr (k : Int)), some (.inr 1), some (.inr (-1)), some (.inr 0)], [], (zr (th τ 0) 21 (zu ((th τ 0) 21) 10 e)))) (cf := (cod m8_isThreatened 60, [some (.inl 21), some (.inr f), some (.inr v), some (.inr (k : Int)), some (.inr 1), some (.inr (-1)), some (.inr 0)], [], (zr (th τ 0) 21 (zu ((th τ 0) 21) 10 e)))) rfl ⟨by omega, by omega⟩ (fun h4 => ?_) (fun h4 => ?_)
            · first
              | (exfalso; omega)
              | (
                  refine exq_k 5 (P := none) (g := (cod m8_isThreatened 24, [some (.inl 21), some (.inr f), some (.inr 1), some (.inr (k : Int)), some (.inr 2), some (.inr (-1)), some (.inr 0)], [], (zr (th τ 0) 21 (zu ((th τ 0) 21) 10 e)))) rfl trivial ?_
                  exact q2 _ _ _ _ (by omega))
            · first
              | (exfalso; omega)
              | (
                  refine exq_k 1 (P := none) (g := (cod m8_isThreatened 61, [some (.inl 21), some (.inr f), some (.inr v), some (.inr (k : Int)), some (.inr 1), some (.inr (-1)), some (.inr 0)], [.inr 0], (zr (th τ 0) 21 (zu ((th τ 0) 21) 10 e)))) rfl trivial ?_
                  refine exq_b (P := 0 = 0) (ct := (cod m8_isThreatened 72, [some (.inl 21), some (.inr f), some (.inr v), some (.inr (k : Int)), some (.inr 1), some (.inr (-1)), some (.inr 0)], [], (zr (th τ 0) 21 (zu ((th τ 0) 21) 10 e)))) (cf := (cod m8_isThreatened 62, [some (.inl 21), some (.inr f), some (.inr v), some (.inr (k : Int)), some (.inr 1), some (.inr (-1)), some (.inr 0)], [], (zr (th τ 0) 21 (zu ((th τ 0) 21) 10 e)))) rfl ⟨by decide, by decide⟩ (fun _ => ?_) (fun hh => absurd (by decide) hh)
                  refine exq_k 4 (P := none) (g := (cod m8_isThreatened 24, [some (.inl 21), some (.inr f), some (.inr 0), some (.inr (k : Int)), some (.inr 2), some (.inr (-1)), some (.inr 0)], [], (zr (th τ 0) 21 (zu ((th τ 0) 21) 10 e)))) rfl trivial ?_
                  exact q2 _ _ _ _ (by omega)))
      · first
        | (exfalso; omega)
        | (
            refine exq_k 4 (P := none) (g := (cod m8_isThreatened 59, [some (.inl 21), some (.inr f), some (.inr v), some (.inr (k : Int)), some (.inr 1), some (.inr (-1)), some (.inr 1)], [.inr v], (zr (th τ 0) 21 (zu ((th τ 0) 21) 10 e)))) rfl trivial ?_
            refine exq_b (P := ¬ v = 0) (ct := (cod m8_isThreatened 70, [some (.inl 21), some (.inr f), some (.inr v), some (.inr (k : Int)), some (.inr 1), some (.inr (-1)), some (.inr 1)], [], (zr (th τ 0) 21 (zu ((th τ 0) 21) 10 e)))) (cf := (cod m8_isThreatened 60, [some (.inl 21), some (.inr f), some (.inr v), some (.inr (k : Int)), some (.inr 1), some (.inr (-1)), some (.inr 1)], [], (zr (th τ 0) 21 (zu ((th τ 0) 21) 10 e)))) rfl ⟨by omega, by omega⟩ (fun h6 => ?_) (fun h6 => ?_)
            · first
              | (exfalso; omega)
              | (
                  refine exq_k 5 (P := none) (g := (cod m8_isThreatened 24, [some (.inl 21), some (.inr f), some (.inr 1), some (.inr (k : Int)), some (.inr 2), some (.inr (-1)), some (.inr 1)], [], (zr (th τ 0) 21 (zu ((th τ 0) 21) 10 e)))) rfl trivial ?_
                  exact q2 _ _ _ _ (by omega))
            · first
              | (exfalso; omega)
              | (
                  refine exq_k 1 (P := none) (g := (cod m8_isThreatened 61, [some (.inl 21), some (.inr f), some (.inr v), some (.inr (k : Int)), some (.inr 1), some (.inr (-1)), some (.inr 1)], [.inr 1], (zr (th τ 0) 21 (zu ((th τ 0) 21) 10 e)))) rfl trivial ?_
                  refine exq_b (P := 1 = 0) (ct := (cod m8_isThreatened 72, [some (.inl 21), some (.inr f), some (.inr v), some (.inr (k : Int)), some (.inr 1), some (.inr (-1)), some (.inr 1)], [], (zr (th τ 0) 21 (zu ((th τ 0) 21) 10 e)))) (cf := (cod m8_isThreatened 62, [some (.inl 21), some (.inr f), some (.inr v), some (.inr (k : Int)), some (.inr 1), some (.inr (-1)), some (.inr 1)], [], (zr (th τ 0) 21 (zu ((th τ 0) 21) 10 e)))) rfl ⟨by decide, by decide⟩ (fun hh => absurd hh (by decide)) (fun _ => ?_)
                  refine exq_k 5 (P := some (0 ≤ 1 ∧ 1 < 2147483648 ∧ 0 < 2 ∧ 2 < 2147483648)) (g := (cod m8_isThreatened 67, [some (.inl 21), some (.inr f), some (.inr v), some (.inr (k : Int)), some (.inr 1), some (.inr (-1)), some (.inr 1)], [.inr 0, .inr (k : Int), .inl 21], (zr (th τ 0) 21 (zu ((th τ 0) 21) 10 e)))) rfl (by show 0 ≤ 1 ∧ 1 < 2147483648 ∧ 0 < 2 ∧ 2 < 2147483648; omega) ?_
                  refine exq_k 1 (P := none) (g := (cod m8_isThreatened 68, [some (.inl 21), some (.inr f), some (.inr v), some (.inr (k : Int)), some (.inr 1), some (.inr (-1)), some (.inr 1)], [.inr (-1), .inr 0, .inr (k : Int), .inl 21], (zr (th τ 0) 21 (zu ((th τ 0) 21) 10 e)))) rfl trivial ?_
                  obtain ⟨e19, hc19⟩ := m_isCapture (τ := (zr (th τ 0) 21 (zu ((th τ 0) 21) 10 e))) (f := (k : Int)) (r := 0) (s := (-1)) hI hR (by omega) (by omega) (by omega)
                  refine exq_c hc19 (is := cod m8_isThreatened 69) (L := [some (.inl 21), some (.inr f), some (.inr v), some (.inr (k : Int)), some (.inr 1), some (.inr (-1)), some (.inr 1)]) (st := []) rfl rfl rfl ?_
                  show Exq _ _ (cod m8_isThreatened 69, [some (.inl 21), some (.inr f), some (.inr v), some (.inr (k : Int)), some (.inr 1), some (.inr (-1)), some (.inr 1)], [.inr (b2 (oco c (k : Int) 0 (-1) = 3))], (zr (zr (th τ 0) 21 (zu ((th τ 0) 21) 10 e)) 21 (zu (zu ((th τ 0) 21) 10 e) 10 e19))) _ _
                  rw [zr_zr, zu_zu]
                  refine exq_b (P := (b2 (oco c (k : Int) 0 (-1) = 3)) = 0) (ct := (cod m8_isThreatened 72, [some (.inl 21), some (.inr f), some (.inr v), some (.inr (k : Int)), some (.inr 1), some (.inr (-1)), some (.inr 1)], [], (zr (th τ 0) 21 (zu ((th τ 0) 21) 10 e19)))) (cf := (cod m8_isThreatened 70, [some (.inl 21), some (.inr f), some (.inr v), some (.inr (k : Int)), some (.inr 1), some (.inr (-1)), some (.inr 1)], [], (zr (th τ 0) 21 (zu ((th τ 0) 21) 10 e19)))) rfl b2_rng (fun h8 => ?_) (fun h8 => ?_)
                  · first
                    | (exfalso; have h8 := b2_e0 h8; omega)
                    | (
                        have h8 := b2_e0 h8
                        refine exq_k 4 (P := none) (g := (cod m8_isThreatened 24, [some (.inl 21), some (.inr f), some (.inr 0), some (.inr (k : Int)), some (.inr 2), some (.inr (-1)), some (.inr 1)], [], (zr (th τ 0) 21 (zu ((th τ 0) 21) 10 e19)))) rfl trivial ?_
                        exact q2 _ _ _ _ (by omega))
                  · first
                    | (exfalso; have h8 := b2_n0 h8; omega)
                    | (
                        have h8 := b2_n0 h8
                        refine exq_k 5 (P := none) (g := (cod m8_isThreatened 24, [some (.inl 21), some (.inr f), some (.inr 1), some (.inr (k : Int)), some (.inr 2), some (.inr (-1)), some (.inr 1)], [], (zr (th τ 0) 21 (zu ((th τ 0) 21) 10 e19)))) rfl trivial ?_
                        exact q2 _ _ _ _ (by omega))))
    have q0 : ∀ (v e : Int) (o5 o6 : Option VZ), ((v = 1 ∧ (thv c f k = 1)) ∨ (v = 0 ∧ ¬ (thv c f k = 1))) → Exq 5 m8_isThreatened (cod m8_isThreatened 24, [some (.inl 21), some (.inr f), some (.inr v), some (.inr (k : Int)), some (.inr 0), o5, o6], [], (zr (th τ 0) 21 (zu ((th τ 0) 21) 10 e))) 0 (fun q => ∃ e, q = .inl (some (.inr (thv c f (cel c 107).toNat)), dt (th τ 0) e)) := by
      intro v e o5 o6 hv
      refine exq_k 2 (P := none) (g := (cod m8_isThreatened 26, [some (.inl 21), some (.inr f), some (.inr v), some (.inr (k : Int)), some (.inr 0), o5, o6], [.inr 4, .inr 0], (zr (th τ 0) 21 (zu ((th τ 0) 21) 10 e)))) rfl trivial ?_
      refine exq_b (P := 4 ≤ 0) (ct := (cod m8_isThreatened 76, [some (.inl 21), some (.inr f), some (.inr v), some (.inr (k : Int)), some (.inr 0), o5, o6], [], (zr (th τ 0) 21 (zu ((th τ 0) 21) 10 e)))) (cf := (cod m8_isThreatened 27, [some (.inl 21), some (.inr f), some (.inr v), some (.inr (k : Int)), some (.inr 0), o5, o6], [], (zr (th τ 0) 21 (zu ((th τ 0) 21) 10 e)))) rfl ⟨⟨by decide, by decide⟩, ⟨by decide, by decide⟩⟩ (fun hh => absurd hh (by decide)) (fun _ => ?_)
      refine exq_k 3 (P := some (0 ≤ 0 ∧ 0 < 2147483648 ∧ 0 < 2 ∧ 2 < 2147483648)) (g := (cod m8_isThreatened 30, [some (.inl 21), some (.inr f), some (.inr v), some (.inr (k : Int)), some (.inr 0), o5, o6], [.inr 0], (zr (th τ 0) 21 (zu ((th τ 0) 21) 10 e)))) rfl (by show 0 ≤ 0 ∧ 0 < 2147483648 ∧ 0 < 2 ∧ 2 < 2147483648; omega) ?_
      refine exq_b (P := ¬ 0 = 0) (ct := (cod m8_isThreatened 33, [some (.inl 21), some (.inr f), some (.inr v), some (.inr (k : Int)), some (.inr 0), o5, o6], [], (zr (th τ 0) 21 (zu ((th τ 0) 21) 10 e)))) (cf := (cod m8_isThreatened 31, [some (.inl 21), some (.inr f), some (.inr v), some (.inr (k : Int)), some (.inr 0), o5, o6], [], (zr (th τ 0) 21 (zu ((th τ 0) 21) 10 e)))) rfl ⟨by decide, by decide⟩ (fun hh => absurd hh (by decide)) (fun _ => ?_)
      refine exq_k 9 (P := some (0 ≤ 0 ∧ 0 < 2147483648 ∧ 0 < 2 ∧ 2 < 2147483648)) (g := (cod m8_isThreatened 41, [some (.inl 21), some (.inr f), some (.inr v), some (.inr (k : Int)), some (.inr 0), some (.inr 1), o6], [.inr 0, .inr 1, .inr (k : Int), .inl 21], (zr (th τ 0) 21 (zu ((th τ 0) 21) 10 e)))) rfl (by show 0 ≤ 0 ∧ 0 < 2147483648 ∧ 0 < 2 ∧ 2 < 2147483648; omega) ?_
      refine exq_k 1 (P := none) (g := (cod m8_isThreatened 42, [some (.inl 21), some (.inr f), some (.inr v), some (.inr (k : Int)), some (.inr 0), some (.inr 1), o6], [.inr 1, .inr (k : Int), .inl 21], (zr (th τ 0) 21 (zu ((th τ 0) 21) 10 e)))) rfl trivial ?_
      refine exq_c (m_of (τ := (zr (th τ 0) 21 (zu ((th τ 0) 21) 10 e))) (f := (k : Int)) (w := 1) hI hR (by omega) (by omega)) (is := cod m8_isThreatened 43) (L := [some (.inl 21), some (.inr f), some (.inr v), some (.inr (k : Int)), some (.inr 0), some (.inr 1), o6]) (st := []) rfl rfl rfl ?_
      show Exq _ _ (cod m8_isThreatened 43, [some (.inl 21), some (.inr f), some (.inr v), some (.inr (k : Int)), some (.inr 0), some (.inr 1), o6], [.inr (cel c (0 + (k : Int) * 6 + 1))], (zr (th τ 0) 21 (zu ((th τ 0) 21) 10 e))) _ _
      refine exq_k 8 (P := some (0 ≤ 0 ∧ 0 < 2147483648 ∧ 0 < 2 ∧ 2 < 2147483648)) (g := (cod m8_isThreatened 51, [some (.inl 21), some (.inr f), some (.inr v), some (.inr (k : Int)), some (.inr 0), some (.inr 1), o6], [.inr 0, .inr 1, .inr f, .inl 21, .inr ((cel c (0 + (k : Int) * 6 + 1)) + 1)], (zr (th τ 0) 21 (zu ((th τ 0) 21) 10 e)))) rfl (by show 0 ≤ 0 ∧ 0 < 2147483648 ∧ 0 < 2 ∧ 2 < 2147483648; omega) ?_
      refine exq_k 1 (P := none) (g := (cod m8_isThreatened 52, [some (.inl 21), some (.inr f), some (.inr v), some (.inr (k : Int)), some (.inr 0), some (.inr 1), o6], [.inr 1, .inr f, .inl 21, .inr ((cel c (0 + (k : Int) * 6 + 1)) + 1)], (zr (th τ 0) 21 (zu ((th τ 0) 21) 10 e)))) rfl trivial ?_
      refine exq_c (m_of (τ := (zr (th τ 0) 21 (zu ((th τ 0) 21) 10 e))) (f := f) (w := 1) hI hR (by omega) (by omega)) (is := cod m8_isThreatened 53) (L := [some (.inl 21), some (.inr f), some (.inr v), some (.inr (k : Int)), some (.inr 0), some (.inr 1), o6]) (st := [.inr ((cel c (0 + (k : Int) * 6 + 1)) + 1)]) rfl rfl rfl ?_
      show Exq _ _ (cod m8_isThreatened 53, [some (.inl 21), some (.inr f), some (.inr v), some (.inr (k : Int)), some (.inr 0), some (.inr 1), o6], [.inr (cel c (0 + f * 6 + 1)), .inr ((cel c (0 + (k : Int) * 6 + 1)) + 1)], (zr (th τ 0) 21 (zu ((th τ 0) 21) 10 e))) _ _
      refine exq_b (P := ¬ ((cel c (0 + (k : Int) * 6 + 1)) + 1) = (cel c (0 + f * 6 + 1))) (ct := (cod m8_isThreatened 56, [some (.inl 21), some (.inr f), some (.inr v), some (.inr (k : Int)), some (.inr 0), some (.inr 1), o6], [], (zr (th τ 0) 21 (zu ((th τ 0) 21) 10 e)))) (cf := (cod m8_isThreatened 54, [some (.inl 21), some (.inr f), some (.inr v), some (.inr (k : Int)), some (.inr 0), some (.inr 1), o6], [], (zr (th τ 0) 21 (zu ((th τ 0) 21) 10 e)))) rfl ⟨⟨by omega, by omega⟩, ⟨by omega, by omega⟩⟩ (fun h3 => ?_) (fun h3 => ?_)
      · first
        | (exfalso; omega)
        | (
            refine exq_k 3 (P := none) (g := (cod m8_isThreatened 59, [some (.inl 21), some (.inr f), some (.inr v), some (.inr (k : Int)), some (.inr 0), some (.inr 1), some (.inr 0)], [.inr v], (zr (th τ 0) 21 (zu ((th τ 0) 21) 10 e)))) rfl trivial ?_
            refine exq_b (P := ¬ v = 0) (ct := (cod m8_isThreatened 70, [some (.inl 21), some (.inr f), some (.inr v), some (.inr (k : Int)), some (.inr 0), some (.inr 1), some (.inr 0)], [], (zr (th τ 0) 21 (zu ((th τ 0) 21) 10 e)))) (cf := (cod m8_isThreatened 60, [some (.inl 21), some (.inr f), some (.inr v), some (.inr (k : Int)), some (.inr 0), some (.inr 1), some (.inr 0)], [], (zr (th τ 0) 21 (zu ((th τ 0) 21) 10 e)))) rfl ⟨by omega, by omega⟩ (fun h4 => ?_) (fun h4 => ?_)
            · first
              | (exfalso; omega)
              | (
                  refine exq_k 5 (P := none) (g := (cod m8_isThreatened 24, [some (.inl 21), some (.inr f), some (.inr 1), some (.inr (k : Int)), some (.inr 1), some (.inr 1), some (.inr 0)], [], (zr (th τ 0) 21 (zu ((th τ 0) 21) 10 e)))) rfl trivial ?_
                  exact q1 _ _ _ _ (by omega))
            · first
              | (exfalso; omega)
              | (
                  refine exq_k 1 (P := none) (g := (cod m8_isThreatened 61, [some (.inl 21), some (.inr f), some (.inr v), some (.inr (k : Int)), some (.inr 0), some (.inr 1), some (.inr 0)], [.inr 0], (zr (th τ 0) 21 (zu ((th τ 0) 21) 10 e)))) rfl trivial ?_
                  refine exq_b (P := 0 = 0) (ct := (cod m8_isThreatened 72, [some (.inl 21), some (.inr f), some (.inr v), some (.inr (k : Int)), some (.inr 0), some (.inr 1), some (.inr 0)], [], (zr (th τ 0) 21 (zu ((th τ 0) 21) 10 e)))) (cf := (cod m8_isThreatened 62, [some (.inl 21), some (.inr f), some (.inr v), some (.inr (k : Int)), some (.inr 0), some (.inr 1), some (.inr 0)], [], (zr (th τ 0) 21 (zu ((th τ 0) 21) 10 e)))) rfl ⟨by decide, by decide⟩ (fun _ => ?_) (fun hh => absurd (by decide) hh)
                  refine exq_k 4 (P := none) (g := (cod m8_isThreatened 24, [some (.inl 21), some (.inr f), some (.inr 0), some (.inr (k : Int)), some (.inr 1), some (.inr 1), some (.inr 0)], [], (zr (th τ 0) 21 (zu ((th τ 0) 21) 10 e)))) rfl trivial ?_
                  exact q1 _ _ _ _ (by omega)))
      · first
        | (exfalso; omega)
        | (
            refine exq_k 4 (P := none) (g := (cod m8_isThreatened 59, [some (.inl 21), some (.inr f), some (.inr v), some (.inr (k : Int)), some (.inr 0), some (.inr 1), some (.inr 1)], [.inr v], (zr (th τ 0) 21 (zu ((th τ 0) 21) 10 e)))) rfl trivial ?_
            refine exq_b (P := ¬ v = 0) (ct := (cod m8_isThreatened 70, [some (.inl 21), some (.inr f), some (.inr v), some (.inr (k : Int)), some (.inr 0), some (.inr 1), some (.inr 1)], [], (zr (th τ 0) 21 (zu ((th τ 0) 21) 10 e)))) (cf := (cod m8_isThreatened 60, [some (.inl 21), some (.inr f), some (.inr v), some (.inr (k : Int)), some (.inr 0), some (.inr 1), some (.inr 1)], [], (zr (th τ 0) 21 (zu ((th τ 0) 21) 10 e)))) rfl ⟨by omega, by omega⟩ (fun h6 => ?_) (fun h6 => ?_)
            · first
              | (exfalso; omega)
              | (
                  refine exq_k 5 (P := none) (g := (cod m8_isThreatened 24, [some (.inl 21), some (.inr f), some (.inr 1), some (.inr (k : Int)), some (.inr 1), some (.inr 1), some (.inr 1)], [], (zr (th τ 0) 21 (zu ((th τ 0) 21) 10 e)))) rfl trivial ?_
                  exact q1 _ _ _ _ (by omega))
            · first
              | (exfalso; omega)
              | (
                  refine exq_k 1 (P := none) (g := (cod m8_isThreatened 61, [some (.inl 21), some (.inr f), some (.inr v), some (.inr (k : Int)), some (.inr 0), some (.inr 1), some (.inr 1)], [.inr 1], (zr (th τ 0) 21 (zu ((th τ 0) 21) 10 e)))) rfl trivial ?_
                  refine exq_b (P := 1 = 0) (ct := (cod m8_isThreatened 72, [some (.inl 21), some (.inr f), some (.inr v), some (.inr (k : Int)), some (.inr 0), some (.inr 1), some (.inr 1)], [], (zr (th τ 0) 21 (zu ((th τ 0) 21) 10 e)))) (cf := (cod m8_isThreatened 62, [some (.inl 21), some (.inr f), some (.inr v), some (.inr (k : Int)), some (.inr 0), some (.inr 1), some (.inr 1)], [], (zr (th τ 0) 21 (zu ((th τ 0) 21) 10 e)))) rfl ⟨by decide, by decide⟩ (fun hh => absurd hh (by decide)) (fun _ => ?_)
                  refine exq_k 5 (P := some (0 ≤ 0 ∧ 0 < 2147483648 ∧ 0 < 2 ∧ 2 < 2147483648)) (g := (cod m8_isThreatened 67, [some (.inl 21), some (.inr f), some (.inr v), some (.inr (k : Int)), some (.inr 0), some (.inr 1), some (.inr 1)], [.inr 0, .inr (k : Int), .inl 21], (zr (th τ 0) 21 (zu ((th τ 0) 21) 10 e)))) rfl (by show 0 ≤ 0 ∧ 0 < 2147483648 ∧ 0 < 2 ∧ 2 < 2147483648; omega) ?_
                  refine exq_k 1 (P := none) (g := (cod m8_isThreatened 68, [some (.inl 21), some (.inr f), some (.inr v), some (.inr (k : Int)), some (.inr 0), some (.inr 1), some (.inr 1)], [.inr 1, .inr 0, .inr (k : Int), .inl 21], (zr (th τ 0) 21 (zu ((th τ 0) 21) 10 e)))) rfl trivial ?_
                  obtain ⟨e20, hc20⟩ := m_isCapture (τ := (zr (th τ 0) 21 (zu ((th τ 0) 21) 10 e))) (f := (k : Int)) (r := 0) (s := 1) hI hR (by omega) (by omega) (by omega)
                  refine exq_c hc20 (is := cod m8_isThreatened 69) (L := [some (.inl 21), some (.inr f), some (.inr v), some (.inr (k : Int)), some (.inr 0), some (.inr 1), some (.inr 1)]) (st := []) rfl rfl rfl ?_
                  show Exq _ _ (cod m8_isThreatened 69, [some (.inl 21), some (.inr f), some (.inr v), some (.inr (k : Int)), some (.inr 0), some (.inr 1), some (.inr 1)], [.inr (b2 (oco c (k : Int) 0 1 = 3))], (zr (zr (th τ 0) 21 (zu ((th τ 0) 21) 10 e)) 21 (zu (zu ((th τ 0) 21) 10 e) 10 e20))) _ _
                  rw [zr_zr, zu_zu]
                  refine exq_b (P := (b2 (oco c (k : Int) 0 1 = 3)) = 0) (ct := (cod m8_isThreatened 72, [some (.inl 21), some (.inr f), some (.inr v), some (.inr (k : Int)), some (.inr 0), some (.inr 1), some (.inr 1)], [], (zr (th τ 0) 21 (zu ((th τ 0) 21) 10 e20)))) (cf := (cod m8_isThreatened 70, [some (.inl 21), some (.inr f), some (.inr v), some (.inr (k : Int)), some (.inr 0), some (.inr 1), some (.inr 1)], [], (zr (th τ 0) 21 (zu ((th τ 0) 21) 10 e20)))) rfl b2_rng (fun h8 => ?_) (fun h8 => ?_)
                  · first
                    | (exfalso; have h8 := b2_e0 h8; omega)
                    | (
                        have h8 := b2_e0 h8
                        refine exq_k 4 (P := none) (g := (cod m8_isThreatened 24, [some (.inl 21), some (.inr f), some (.inr 0), some (.inr (k : Int)), some (.inr 1), some (.inr 1), some (.inr 1)], [], (zr (th τ 0) 21 (zu ((th τ 0) 21) 10 e20)))) rfl trivial ?_
                        exact q1 _ _ _ _ (by omega))
                  · first
                    | (exfalso; have h8 := b2_n0 h8; omega)
                    | (
                        have h8 := b2_n0 h8
                        refine exq_k 5 (P := none) (g := (cod m8_isThreatened 24, [some (.inl 21), some (.inr f), some (.inr 1), some (.inr (k : Int)), some (.inr 1), some (.inr 1), some (.inr 1)], [], (zr (th τ 0) 21 (zu ((th τ 0) 21) 10 e20)))) rfl trivial ?_
                        exact q1 _ _ _ _ (by omega))))
    refine exq_k 5 (P := some (0 ≤ 0 ∧ 0 < ((109 : Nat) : Int))) (g := (cod m8_isThreatened 18, [some (.inl 21), some (.inr f), some (.inr v), some (.inr (k : Int)), o4, o5, o6], [.inr ((τ 22) 0), .inr (k : Int)], (zr (th τ 0) 21 (zu ((th τ 0) 21) 10 e)))) rfl (by show 0 ≤ 0 ∧ 0 < ((109 : Nat) : Int); omega) ?_
    refine exq_b (P := ((τ 22) 0) ≤ (k : Int)) (ct := (cod m8_isThreatened 78, [some (.inl 21), some (.inr f), some (.inr v), some (.inr (k : Int)), o4, o5, o6], [], (zr (th τ 0) 21 (zu ((th τ 0) 21) 10 e)))) (cf := (cod m8_isThreatened 19, [some (.inl 21), some (.inr f), some (.inr v), some (.inr (k : Int)), o4, o5, o6], [], (zr (th τ 0) 21 (zu ((th τ 0) 21) 10 e)))) rfl ⟨⟨by omega, by omega⟩, ⟨by omega, by omega⟩⟩ (fun hh => absurd hh (by omega)) (fun _ => ?_)
    refine exq_k 2 (P := none) (g := (cod m8_isThreatened 21, [some (.inl 21), some (.inr f), some (.inr v), some (.inr (k : Int)), o4, o5, o6], [.inr (((th τ 0) 21) 7)], (zr (th τ 0) 21 (zu ((th τ 0) 21) 10 e)))) rfl trivial ?_
    refine exq_b (P := ¬ (((th τ 0) 21) 7) = 0) (ct := (cod m8_isThreatened 78, [some (.inl 21), some (.inr f), some (.inr v), some (.inr (k : Int)), o4, o5, o6], [], (zr (th τ 0) 21 (zu ((th τ 0) 21) 10 e)))) (cf := (cod m8_isThreatened 22, [some (.inl 21), some (.inr f), some (.inr v), some (.inr (k : Int)), o4, o5, o6], [], (zr (th τ 0) 21 (zu ((th τ 0) 21) 10 e)))) rfl ⟨by omega, by omega⟩ (fun hh => absurd hh (by omega)) (fun _ => ?_)
    refine exq_k 2 (P := none) (g := (cod m8_isThreatened 24, [some (.inl 21), some (.inr f), some (.inr v), some (.inr (k : Int)), some (.inr 0), o5, o6], [], (zr (th τ 0) 21 (zu ((th τ 0) 21) 10 e)))) rfl trivial ?_
    exact q0 _ _ _ _ (by omega)
theorem m_isThreatened {f : Int} {τ : SZ} {c : Nat → Int} {B : Int} (hI : Iv B c) (hR : Rs c (τ 22)) (hf : 0 ≤ f ∧ f < cel c 107) : ∃ e, RZ 6 m8_isThreatened [.inl 21, .inr f] τ (.inl (some (.inr (thv c f (cel c 107).toNat)), dt (th τ 0) e)) := by
  have hS := hI.1
  have hC := hI.2.1
  have hN := hS.n
  have h0 := hR.n hN.1
  have eb : b2 (0 ≤ f ∧ f < cel c 107) = 1 := b2_t hf
  have q : RZq 6 m8_isThreatened [.inl 21, .inr f] τ (fun q => ∃ e, q = .inl (some (.inr (thv c f (cel c 107).toNat)), dt (th τ 0) e)) := by
    refine Exq.call ?_ rfl rfl
    show Exq _ _ (cod m8_isThreatened 0, [some (.inl 21), some (.inr f), none, none, none, none, none], [], τ) _ _
    refine exq_k 3 (P := none) (g := (cod m8_isThreatened 3, [some (.inl 21), some (.inr f), none, none, none, none, none], [.inr f, .inl 21, .inl 21], τ)) rfl trivial ?_
    refine exq_c (m_isFerry (τ := τ) (f := f) hI hR ⟨by omega, by omega⟩) (is := cod m8_isThreatened 4) (L := [some (.inl 21), some (.inr f), none, none, none, none, none]) (st := [.inl 21]) rfl rfl rfl ?_
    show Exq _ _ (cod m8_isThreatened 4, [some (.inl 21), some (.inr f), none, none, none, none, none], [.inr (b2 (0 ≤ f ∧ f < cel c 107)), .inl 21], τ) _ _
    refine exq_b (P := (b2 (0 ≤ f ∧ f < cel c 107)) = 0) (ct := (cod m8_isThreatened 7, [some (.inl 21), some (.inr f), none, none, none, none, none], [.inl 21], τ)) (cf := (cod m8_isThreatened 5, [some (.inl 21), some (.inr f), none, none, none, none, none], [.inl 21], τ)) rfl b2_rng (fun hh => absurd hh (by omega)) (fun _ => ?_)
    refine exq_k 3 (P := none) (g := (cod m8_isThreatened 9, [some (.inl 21), some (.inr f), none, none, none, none, none], [], (zr τ 21 (zu (τ 21) 7 0)))) rfl trivial ?_
    refine exq_k 4 (P := none) (g := (cod m8_isThreatened 13, [some (.inl 21), some (.inr f), some (.inr 0), some (.inr 0), none, none, none], [], (zr τ 21 (zu (τ 21) 7 0)))) rfl trivial ?_
    have q := lp_isThreatened (τ := τ) hI hR hf (cel c 107).toNat 0 (by omega) 0 (τ 21 10) none none none rfl
    rw [show zr (th τ 0) 21 (zu (th τ 0 21) 10 (τ 21 10)) = th τ 0 from dt_self (τ := th τ 0)] at q
    exact q
  obtain ⟨q, ⟨e, rfl⟩, h⟩ := q
  exact ⟨e, h⟩
theorem m_isThreatened_x {f : Int} {τ : SZ} {c : Nat → Int} {B : Int} (hI : Iv B c) (hR : Rs c (τ 22)) (hf : Rng f) (hx : ¬ (0 ≤ f ∧ f < cel c 107)) : RZ 6 m8_isThreatened [.inl 21, .inr f] τ (.inl (some (.inr 0), th τ 1)) := by
  obtain ⟨hf1, hf2⟩ := hf
  have hS := hI.1
  have hC := hI.2.1
  have hN := hS.n
  have h0 := hR.n hN.1
  have eb : b2 (0 ≤ f ∧ f < cel c 107) = 0 := b2_f hx
  refine Ex.call ?_ rfl rfl
  show Ex _ _ (cod m8_isThreatened 0, [some (.inl 21), some (.inr f), none, none, none, none, none], [], τ) _ _
  refine ex_k 3 (P := none) (g := (cod m8_isThreatened 3, [some (.inl 21), some (.inr f), none, none, none, none, none], [.inr f, .inl 21, .inl 21], τ)) rfl trivial ?_
  refine ex_c (m_isFerry (τ := τ) (f := f) hI hR ⟨by omega, by omega⟩) (is := cod m8_isThreatened 4) (L := [some (.inl 21), some (.inr f), none, none, none, none, none]) (st := [.inl 21]) rfl rfl rfl ?_
  show Ex _ _ (cod m8_isThreatened 4, [some (.inl 21), some (.inr f), none, none, none, none, none], [.inr (b2 (0 ≤ f ∧ f < cel c 107)), .inl 21], τ) _ _
  refine ex_b (P := (b2 (0 ≤ f ∧ f < cel c 107)) = 0) (ct := (cod m8_isThreatened 7, [some (.inl 21), some (.inr f), none, none, none, none, none], [.inl 21], τ)) (cf := (cod m8_isThreatened 5, [some (.inl 21), some (.inr f), none, none, none, none, none], [.inl 21], τ)) rfl b2_rng (fun _ => ?_) (fun hh => absurd (by omega) hh)
  refine ex_k 2 (P := none) (g := (cod m8_isThreatened 9, [some (.inl 21), some (.inr f), none, none, none, none, none], [], (zr τ 21 (zu (τ 21) 7 1)))) rfl trivial ?_
  refine ex_k 9 (P := some (0 ≤ 0 ∧ 0 < ((109 : Nat) : Int))) (g := (cod m8_isThreatened 18, [some (.inl 21), some (.inr f), some (.inr 0), some (.inr 0), none, none, none], [.inr ((τ 22) 0), .inr 0], (zr τ 21 (zu (τ 21) 7 1)))) rfl (by show 0 ≤ 0 ∧ 0 < ((109 : Nat) : Int); omega) ?_
  refine ex_b (P := ((τ 22) 0) ≤ 0) (ct := (cod m8_isThreatened 78, [some (.inl 21), some (.inr f), some (.inr 0), some (.inr 0), none, none, none], [], (zr τ 21 (zu (τ 21) 7 1)))) (cf := (cod m8_isThreatened 19, [some (.inl 21), some (.inr f), some (.inr 0), some (.inr 0), none, none, none], [], (zr τ 21 (zu (τ 21) 7 1)))) rfl ⟨⟨by decide, by decide⟩, ⟨by omega, by omega⟩⟩ (fun h2 => ?_) (fun h2 => ?_)
  · first
    | (exfalso; omega)
    | (
        refine ex_k 1 (P := none) (g := (cod m8_isThreatened 79, [some (.inl 21), some (.inr f), some (.inr 0), some (.inr 0), none, none, none], [.inr 0], (zr τ 21 (zu (τ 21) 7 1)))) rfl trivial ?_
        exact ex_r rfl (by first | exact Or.inl rfl | exact Or.inr rfl | (show 0 = 0 ∨ 0 = 1; omega)) rfl (rfl))
  · first
    | (exfalso; omega)
    | (
        refine ex_k 2 (P := none) (g := (cod m8_isThreatened 21, [some (.inl 21), some (.inr f), some (.inr 0), some (.inr 0), none, none, none], [.inr 1], (zr τ 21 (zu (τ 21) 7 1)))) rfl trivial ?_
        refine ex_b (P := ¬ 1 = 0) (ct := (cod m8_isThreatened 78, [some (.inl 21), some (.inr f), some (.inr 0), some (.inr 0), none, none, none], [], (zr τ 21 (zu (τ 21) 7 1)))) (cf := (cod m8_isThreatened 22, [some (.inl 21), some (.inr f), some (.inr 0), some (.inr 0), none, none, none], [], (zr τ 21 (zu (τ 21) 7 1)))) rfl ⟨by decide, by decide⟩ (fun _ => ?_) (fun hh => absurd (by decide) hh)
        refine ex_k 1 (P := none) (g := (cod m8_isThreatened 79, [some (.inl 21), some (.inr f), some (.inr 0), some (.inr 0), none, none, none], [.inr 0], (zr τ 21 (zu (τ 21) 7 1)))) rfl trivial ?_
        exact ex_r rfl (by first | exact Or.inl rfl | exact Or.inr rfl | (show 0 = 0 ∨ 0 = 1; omega)) rfl (rfl))
def stq (c : Nat → Int) (f r s m : Int) : Int := if oco c f r s = 3 then (if m < 1 + cel c (0 + whz c r (cel c (0 + f * 6 + (1 + r)) + s) * 6 + 3) then 1 + cel c (0 + whz c r (cel c (0 + f * 6 + (1 + r)) + s) * 6 + 3) else m) else m
def mpv (c : Nat → Int) (x : Int) : Nat → Int
  | 0 => 0
  | k + 1 => if cel c (0 + (k : Int) * 6 + 0) = x then stq c (k : Int) 1 (-1) (stq c (k : Int) 1 1 (stq c (k : Int) 0 (-1) (stq c (k : Int) 0 1 (mpv c x k)))) else mpv c x k
theorem stq_t {c : Nat → Int} {f r s m : Int} (h : oco c f r s = 3) : stq c f r s m = (if m < 1 + cel c (0 + whz c r (cel c (0 + f * 6 + (1 + r)) + s) * 6 + 3) then 1 + cel c (0 + whz c r (cel c (0 + f * 6 + (1 + r)) + s) * 6 + 3) else m) := if_pos h
theorem stq_f {c : Nat → Int} {f r s m : Int} (h : ¬ oco c f r s = 3) : stq c f r s m = m := if_neg h
theorem cap_ov {B : Int} {c : Nat → Int} (hI : Iv B c) {f r s : Int} (hr : 0 ≤ r ∧ r < 2) (h : oco c f r s = 3) : (0 ≤ cel c (0 + f * 6 + (1 + r)) + s ∧ cel c (0 + f * 6 + (1 + r)) + s < 12) ∧ (0 ≤ whz c r (cel c (0 + f * 6 + (1 + r)) + s) ∧ whz c r (cel c (0 + f * 6 + (1 + r)) + s) < cel c 107) ∧ (0 ≤ cel c (0 + whz c r (cel c (0 + f * 6 + (1 + r)) + s) * 6 + 3) ∧ cel c (0 + whz c r (cel c (0 + f * 6 + (1 + r)) + s) * 6 + 3) ≤ 1) := by
  have hk := oco_k (c := c) (f := f) (r := r) (s := s) (by omega)
  have hv := hI.2.1.ov (p := cel c (0 + f * 6 + (1 + r)) + s) hr
  have hn := hI.1.n
  have ho : 0 ≤ whz c r (cel c (0 + f * 6 + (1 + r)) + s) ∧ whz c r (cel c (0 + f * 6 + (1 + r)) + s) < cel c 107 := by omega
  exact ⟨hk.1, ho, hI.1.kg (by omega)⟩
theorem stq_in {B : Int} {c : Nat → Int} (hI : Iv B c) {f r s m : Int} (hr : 0 ≤ r ∧ r < 2) (hm : 0 ≤ m ∧ m ≤ 2) : 0 ≤ stq c f r s m ∧ stq c f r s m ≤ 2 := by
  by_cases h : oco c f r s = 3
  · have q := cap_ov hI hr h
    rw [stq_t h]
    split <;> omega
  · rw [stq_f h]; exact hm
theorem lp_mostPts {τ : SZ} {x : Int} {c : Nat → Int} {B : Int} (hI : Iv B c) (hR : Rs c (τ 22)) (hx : 0 ≤ x ∧ x < 2) : ∀ (j k : Nat), ((k + j : Nat) : Int) = cel c 107 → ∀ (v e : Int) (o4 o5 : Option VZ), (v = mpv c x k ∧ 0 ≤ v ∧ v ≤ 2) → Exq 5 m8_mostPoints (cod m8_mostPoints 4, [some (.inl 21), some (.inr x), some (.inr v), some (.inr (k : Int)), o4, o5], [], (zr τ 21 (zu (τ 21) 10 e))) 0 (fun q => ∃ e, q = .inl (some (.inr (mpv c x (cel c 107).toNat)), dt τ e)) := by
  have hS := hI.1
  have hC := hI.2.1
  have hN := hS.n
  have h0 := hR.n hN.1
  intro j
  induction j with
  | zero =>
    intro k hk v e o4 o5 hv
    refine exq_k 5 (P := some (0 ≤ 0 ∧ 0 < ((109 : Nat) : Int))) (g := (cod m8_mostPoints 9, [some (.inl 21), some (.inr x), some (.inr v), some (.inr (k : Int)), o4, o5], [.inr ((τ 22) 0), .inr (k : Int)], (zr τ 21 (zu (τ 21) 10 e)))) rfl (by show 0 ≤ 0 ∧ 0 < ((109 : Nat) : Int); omega) ?_
    refine exq_b (P := ((τ 22) 0) ≤ (k : Int)) (ct := (cod m8_mostPoints 64, [some (.inl 21), some (.inr x), some (.inr v), some (.inr (k : Int)), o4, o5], [], (zr τ 21 (zu (τ 21) 10 e)))) (cf := (cod m8_mostPoints 10, [some (.inl 21), some (.inr x), some (.inr v), some (.inr (k : Int)), o4, o5], [], (zr τ 21 (zu (τ 21) 10 e)))) rfl ⟨⟨by omega, by omega⟩, ⟨by omega, by omega⟩⟩ (fun _ => ?_) (fun hh => absurd (by omega) hh)
    refine exq_k 1 (P := none) (g := (cod m8_mostPoints 65, [some (.inl 21), some (.inr x), some (.inr v), some (.inr (k : Int)), o4, o5], [.inr v], (zr τ 21 (zu (τ 21) 10 e)))) rfl trivial ?_
    exact exq_r rfl trivial rfl (⟨_, rI2 (by rw [hv.1]; congr 1; omega) rfl⟩)
  | succ j ih =>
    intro k hk v e o4 o5 hv
    have hsd := hS.sd (f := (k : Int)) (by omega)
    have hq0 : oco c (k : Int) 0 1 = 3 → (0 ≤ cel c (0 + (k : Int) * 6 + 1) + 1 ∧ cel c (0 + (k : Int) * 6 + 1) + 1 < 12) ∧ (0 ≤ whz c 0 (cel c (0 + (k : Int) * 6 + 1) + 1) ∧ whz c 0 (cel c (0 + (k : Int) * 6 + 1) + 1) < cel c 107) ∧ (0 ≤ cel c (0 + whz c 0 (cel c (0 + (k : Int) * 6 + 1) + 1) * 6 + 3) ∧ cel c (0 + whz c 0 (cel c (0 + (k : Int) * 6 + 1) + 1) * 6 + 3) ≤ 1) := fun h => cap_ov hI (f := (k : Int)) (r := 0) (s := 1) (by omega) h
    have hq1 : oco c (k : Int) 0 (-1) = 3 → (0 ≤ cel c (0 + (k : Int) * 6 + 1) + (-1) ∧ cel c (0 + (k : Int) * 6 + 1) + (-1) < 12) ∧ (0 ≤ whz c 0 (cel c (0 + (k : Int) * 6 + 1) + (-1)) ∧ whz c 0 (cel c (0 + (k : Int) * 6 + 1) + (-1)) < cel c 107) ∧ (0 ≤ cel c (0 + whz c 0 (cel c (0 + (k : Int) * 6 + 1) + (-1)) * 6 + 3) ∧ cel c (0 + whz c 0 (cel c (0 + (k : Int) * 6 + 1) + (-1)) * 6 + 3) ≤ 1) := fun h => cap_ov hI (f := (k : Int)) (r := 0) (s := (-1)) (by omega) h
    have hq2 : oco c (k : Int) 1 1 = 3 → (0 ≤ cel c (0 + (k : Int) * 6 + 2) + 1 ∧ cel c (0 + (k : Int) * 6 + 2) + 1 < 12) ∧ (0 ≤ whz c 1 (cel c (0 + (k : Int) * 6 + 2) + 1) ∧ whz c 1 (cel c (0 + (k : Int) * 6 + 2) + 1) < cel c 107) ∧ (0 ≤ cel c (0 + whz c 1 (cel c (0 + (k : Int) * 6 + 2) + 1) * 6 + 3) ∧ cel c (0 + whz c 1 (cel c (0 + (k : Int) * 6 + 2) + 1) * 6 + 3) ≤ 1) := fun h => cap_ov hI (f := (k : Int)) (r := 1) (s := 1) (by omega) h
    have hq3 : oco c (k : Int) 1 (-1) = 3 → (0 ≤ cel c (0 + (k : Int) * 6 + 2) + (-1) ∧ cel c (0 + (k : Int) * 6 + 2) + (-1) < 12) ∧ (0 ≤ whz c 1 (cel c (0 + (k : Int) * 6 + 2) + (-1)) ∧ whz c 1 (cel c (0 + (k : Int) * 6 + 2) + (-1)) < cel c 107) ∧ (0 ≤ cel c (0 + whz c 1 (cel c (0 + (k : Int) * 6 + 2) + (-1)) * 6 + 3) ∧ cel c (0 + whz c 1 (cel c (0 + (k : Int) * 6 + 2) + (-1)) * 6 + 3) ≤ 1) := fun h => cap_ov hI (f := (k : Int)) (r := 1) (s := (-1)) (by omega) h
    have q3 : cel c (0 + (k : Int) * 6 + 0) = x → ∀ (v e : Int) (o5 : Option VZ), (v = stq c (k : Int) 1 1 (stq c (k : Int) 0 (-1) (stq c (k : Int) 0 1 (mpv c x k))) ∧ 0 ≤ v ∧ v ≤ 2) → Exq 5 m8_mostPoints (cod m8_mostPoints 12, [some (.inl 21), some (.inr x), some (.inr v), some (.inr (k : Int)), some (.inr 3), o5], [], (zr τ 21 (zu (τ 21) 10 e))) 0 (fun q => ∃ e, q = .inl (some (.inr (mpv c x (cel c 107).toNat)), dt τ e)) := by
      intro hsx v e o5 hv
      have hv1 := hv.1
      by_cases hcap : oco c (k : Int) 1 (-1) = 3
      · have hst : stq c (k : Int) 1 (-1) (stq c (k : Int) 1 1 (stq c (k : Int) 0 (-1) (stq c (k : Int) 0 1 (mpv c x k)))) = (if stq c (k : Int) 1 1 (stq c (k : Int) 0 (-1) (stq c (k : Int) 0 1 (mpv c x k))) < 1 + cel c (0 + whz c 1 (cel c (0 + (k : Int) * 6 + 2) + (-1)) * 6 + 3) then 1 + cel c (0 + whz c 1 (cel c (0 + (k : Int) * 6 + 2) + (-1)) * 6 + 3) else stq c (k : Int) 1 1 (stq c (k : Int) 0 (-1) (stq c (k : Int) 0 1 (mpv c x k)))) := stq_t (m := stq c (k : Int) 1 1 (stq c (k : Int) 0 (-1) (stq c (k : Int) 0 1 (mpv c x k)))) hcap
        have hqq := hq3 hcap
        rw [← hv1] at hst
        refine exq_k 2 (P := none) (g := (cod m8_mostPoints 14, [some (.inl 21), some (.inr x), some (.inr v), some (.inr (k : Int)), some (.inr 3), o5], [.inr 4, .inr 3], (zr τ 21 (zu (τ 21) 10 e)))) rfl trivial ?_
        refine exq_b (P := 4 ≤ 3) (ct := (cod m8_mostPoints 62, [some (.inl 21), some (.inr x), some (.inr v), some (.inr (k : Int)), some (.inr 3), o5], [], (zr τ 21 (zu (τ 21) 10 e)))) (cf := (cod m8_mostPoints 15, [some (.inl 21), some (.inr x), some (.inr v), some (.inr (k : Int)), some (.inr 3), o5], [], (zr τ 21 (zu (τ 21) 10 e)))) rfl ⟨⟨by decide, by decide⟩, ⟨by decide, by decide⟩⟩ (fun hh => absurd hh (by decide)) (fun _ => ?_)
        refine exq_k 3 (P := none) (g := (cod m8_mostPoints 18, [some (.inl 21), some (.inr x), some (.inr v), some (.inr (k : Int)), some (.inr 3), o5], [.inr 0, .inr (k : Int), .inl 21], (zr τ 21 (zu (τ 21) 10 e)))) rfl trivial ?_
        refine exq_c (m_of (τ := (zr τ 21 (zu (τ 21) 10 e))) (f := (k : Int)) (w := 0) hI hR (by omega) (by omega)) (is := cod m8_mostPoints 19) (L := [some (.inl 21), some (.inr x), some (.inr v), some (.inr (k : Int)), some (.inr 3), o5]) (st := []) rfl rfl rfl ?_
        show Exq _ _ (cod m8_mostPoints 19, [some (.inl 21), some (.inr x), some (.inr v), some (.inr (k : Int)), some (.inr 3), o5], [.inr (cel c (0 + (k : Int) * 6 + 0))], (zr τ 21 (zu (τ 21) 10 e))) _ _
        refine exq_k 1 (P := none) (g := (cod m8_mostPoints 20, [some (.inl 21), some (.inr x), some (.inr v), some (.inr (k : Int)), some (.inr 3), o5], [.inr x, .inr (cel c (0 + (k : Int) * 6 + 0))], (zr τ 21 (zu (τ 21) 10 e)))) rfl trivial ?_
        refine exq_b (P := ¬ (cel c (0 + (k : Int) * 6 + 0)) = x) (ct := (cod m8_mostPoints 62, [some (.inl 21), some (.inr x), some (.inr v), some (.inr (k : Int)), some (.inr 3), o5], [], (zr τ 21 (zu (τ 21) 10 e)))) (cf := (cod m8_mostPoints 21, [some (.inl 21), some (.inr x), some (.inr v), some (.inr (k : Int)), some (.inr 3), o5], [], (zr τ 21 (zu (τ 21) 10 e)))) rfl ⟨⟨by omega, by omega⟩, ⟨by omega, by omega⟩⟩ (fun h2 => ?_) (fun h2 => ?_)
        · first
          | (exfalso; omega)
          | (
              refine exq_k 2 (P := none) (g := (cod m8_mostPoints 4, [some (.inl 21), some (.inr x), some (.inr v), some (.inr ((k : Int) + 1)), some (.inr 3), o5], [], (zr τ 21 (zu (τ 21) 10 e)))) rfl trivial ?_
              exact ih (k + 1) (by omega) _ _ _ _ ⟨by show _ = ite _ _ _; rw [if_pos hsx, ← hv1]; exact hst.symm, by first | omega | (split <;> omega)⟩)
        · first
          | (exfalso; omega)
          | (
              refine exq_k 3 (P := some (0 ≤ 3 ∧ 3 < 2147483648 ∧ 0 < 2 ∧ 2 < 2147483648)) (g := (cod m8_mostPoints 24, [some (.inl 21), some (.inr x), some (.inr v), some (.inr (k : Int)), some (.inr 3), o5], [.inr 1], (zr τ 21 (zu (τ 21) 10 e)))) rfl (by show 0 ≤ 3 ∧ 3 < 2147483648 ∧ 0 < 2 ∧ 2 < 2147483648; omega) ?_
              refine exq_b (P := ¬ 1 = 0) (ct := (cod m8_mostPoints 27, [some (.inl 21), some (.inr x), some (.inr v), some (.inr (k : Int)), some (.inr 3), o5], [], (zr τ 21 (zu (τ 21) 10 e)))) (cf := (cod m8_mostPoints 25, [some (.inl 21), some (.inr x), some (.inr v), some (.inr (k : Int)), some (.inr 3), o5], [], (zr τ 21 (zu (τ 21) 10 e)))) rfl ⟨by decide, by decide⟩ (fun _ => ?_) (fun hh => absurd (by decide) hh)
              refine exq_k 7 (P := some (0 ≤ 3 ∧ 3 < 2147483648 ∧ 0 < 2 ∧ 2 < 2147483648)) (g := (cod m8_mostPoints 34, [some (.inl 21), some (.inr x), some (.inr v), some (.inr (k : Int)), some (.inr 3), some (.inr (-1))], [.inr 1, .inr (k : Int), .inl 21], (zr τ 21 (zu (τ 21) 10 e)))) rfl (by show 0 ≤ 3 ∧ 3 < 2147483648 ∧ 0 < 2 ∧ 2 < 2147483648; omega) ?_
              refine exq_k 1 (P := none) (g := (cod m8_mostPoints 35, [some (.inl 21), some (.inr x), some (.inr v), some (.inr (k : Int)), some (.inr 3), some (.inr (-1))], [.inr (-1), .inr 1, .inr (k : Int), .inl 21], (zr τ 21 (zu (τ 21) 10 e)))) rfl trivial ?_
              obtain ⟨e21, hc21⟩ := m_isCapture (τ := (zr τ 21 (zu (τ 21) 10 e))) (f := (k : Int)) (r := 1) (s := (-1)) hI hR (by omega) (by omega) (by omega)
              refine exq_c hc21 (is := cod m8_mostPoints 36) (L := [some (.inl 21), some (.inr x), some (.inr v), some (.inr (k : Int)), some (.inr 3), some (.inr (-1))]) (st := []) rfl rfl rfl ?_
              show Exq _ _ (cod m8_mostPoints 36, [some (.inl 21), some (.inr x), some (.inr v), some (.inr (k : Int)), some (.inr 3), some (.inr (-1))], [.inr (b2 (oco c (k : Int) 1 (-1) = 3))], (zr (zr τ 21 (zu (τ 21) 10 e)) 21 (zu (zu (τ 21) 10 e) 10 e21))) _ _
              rw [zr_zr, zu_zu]
              refine exq_b (P := (b2 (oco c (k : Int) 1 (-1) = 3)) = 0) (ct := (cod m8_mostPoints 60, [some (.inl 21), some (.inr x), some (.inr v), some (.inr (k : Int)), some (.inr 3), some (.inr (-1))], [], (zr τ 21 (zu (τ 21) 10 e21)))) (cf := (cod m8_mostPoints 37, [some (.inl 21), some (.inr x), some (.inr v), some (.inr (k : Int)), some (.inr 3), some (.inr (-1))], [], (zr τ 21 (zu (τ 21) 10 e21)))) rfl b2_rng (fun h4 => ?_) (fun h4 => ?_)
              · first
                | (exfalso; have h4 := b2_e0 h4; omega)
                | (
                    have h4 := b2_e0 h4
                    refine exq_k 4 (P := none) (g := (cod m8_mostPoints 14, [some (.inl 21), some (.inr x), some (.inr v), some (.inr (k : Int)), some (.inr 4), some (.inr (-1))], [.inr 4, .inr 4], (zr τ 21 (zu (τ 21) 10 e21)))) rfl trivial ?_
                    refine exq_b (P := 4 ≤ 4) (ct := (cod m8_mostPoints 62, [some (.inl 21), some (.inr x), some (.inr v), some (.inr (k : Int)), some (.inr 4), some (.inr (-1))], [], (zr τ 21 (zu (τ 21) 10 e21)))) (cf := (cod m8_mostPoints 15, [some (.inl 21), some (.inr x), some (.inr v), some (.inr (k : Int)), some (.inr 4), some (.inr (-1))], [], (zr τ 21 (zu (τ 21) 10 e21)))) rfl ⟨⟨by decide, by decide⟩, ⟨by decide, by decide⟩⟩ (fun _ => ?_) (fun hh => absurd (by decide) hh)
                    refine exq_k 2 (P := none) (g := (cod m8_mostPoints 4, [some (.inl 21), some (.inr x), some (.inr v), some (.inr ((k : Int) + 1)), some (.inr 4), some (.inr (-1))], [], (zr τ 21 (zu (τ 21) 10 e21)))) rfl trivial ?_
                    exact ih (k + 1) (by omega) _ _ _ _ ⟨by show _ = ite _ _ _; rw [if_pos hsx, ← hv1]; exact hst.symm, by first | omega | (split <;> omega)⟩)
              · first
                | (exfalso; have h4 := b2_n0 h4; omega)
                | (
                    have h4 := b2_n0 h4
                    refine exq_k 7 (P := some (0 ≤ 3 ∧ 3 < 2147483648 ∧ 0 < 2 ∧ 2 < 2147483648)) (g := (cod m8_mostPoints 44, [some (.inl 21), some (.inr x), some (.inr v), some (.inr (k : Int)), some (.inr 3), some (.inr (-1))], [.inr 1, .inl 21, .inl 21, .inr 1, .inr v], (zr τ 21 (zu (τ 21) 10 e21)))) rfl (by show 0 ≤ 3 ∧ 3 < 2147483648 ∧ 0 < 2 ∧ 2 < 2147483648; omega) ?_
                    refine exq_k 6 (P := some (0 ≤ 3 ∧ 3 < 2147483648 ∧ 0 < 2 ∧ 2 < 2147483648)) (g := (cod m8_mostPoints 50, [some (.inl 21), some (.inr x), some (.inr v), some (.inr (k : Int)), some (.inr 3), some (.inr (-1))], [.inr 1, .inr 1, .inr (k : Int), .inl 21, .inr 1, .inl 21, .inl 21, .inr 1, .inr v], (zr τ 21 (zu (τ 21) 10 e21)))) rfl (by show 0 ≤ 3 ∧ 3 < 2147483648 ∧ 0 < 2 ∧ 2 < 2147483648; omega) ?_
                    refine exq_k 1 (P := none) (g := (cod m8_mostPoints 51, [some (.inl 21), some (.inr x), some (.inr v), some (.inr (k : Int)), some (.inr 3), some (.inr (-1))], [.inr 2, .inr (k : Int), .inl 21, .inr 1, .inl 21, .inl 21, .inr 1, .inr v], (zr τ 21 (zu (τ 21) 10 e21)))) rfl trivial ?_
                    refine exq_c (m_of (τ := (zr τ 21 (zu (τ 21) 10 e21))) (f := (k : Int)) (w := 2) hI hR (by omega) (by omega)) (is := cod m8_mostPoints 52) (L := [some (.inl 21), some (.inr x), some (.inr v), some (.inr (k : Int)), some (.inr 3), some (.inr (-1))]) (st := [.inr 1, .inl 21, .inl 21, .inr 1, .inr v]) rfl rfl rfl ?_
                    show Exq _ _ (cod m8_mostPoints 52, [some (.inl 21), some (.inr x), some (.inr v), some (.inr (k : Int)), some (.inr 3), some (.inr (-1))], [.inr (cel c (0 + (k : Int) * 6 + 2)), .inr 1, .inl 21, .inl 21, .inr 1, .inr v], (zr τ 21 (zu (τ 21) 10 e21))) _ _
                    refine exq_k 2 (P := none) (g := (cod m8_mostPoints 54, [some (.inl 21), some (.inr x), some (.inr v), some (.inr (k : Int)), some (.inr 3), some (.inr (-1))], [.inr ((cel c (0 + (k : Int) * 6 + 2)) + (-1)), .inr 1, .inl 21, .inl 21, .inr 1, .inr v], (zr τ 21 (zu (τ 21) 10 e21)))) rfl trivial ?_
                    refine exq_c (m_there (τ := (zr τ 21 (zu (τ 21) 10 e21))) (r := 1) (p := (cel c (0 + (k : Int) * 6 + 2)) + (-1)) hI hR (by omega) (by omega)) (is := cod m8_mostPoints 55) (L := [some (.inl 21), some (.inr x), some (.inr v), some (.inr (k : Int)), some (.inr 3), some (.inr (-1))]) (st := [.inl 21, .inr 1, .inr v]) rfl rfl rfl ?_
                    show Exq _ _ (cod m8_mostPoints 55, [some (.inl 21), some (.inr x), some (.inr v), some (.inr (k : Int)), some (.inr 3), some (.inr (-1))], [.inr (whz c 1 ((cel c (0 + (k : Int) * 6 + 2)) + (-1))), .inl 21, .inr 1, .inr v], (zr τ 21 (zu (τ 21) 10 e21))) _ _
                    refine exq_k 1 (P := none) (g := (cod m8_mostPoints 56, [some (.inl 21), some (.inr x), some (.inr v), some (.inr (k : Int)), some (.inr 3), some (.inr (-1))], [.inr 3, .inr (whz c 1 ((cel c (0 + (k : Int) * 6 + 2)) + (-1))), .inl 21, .inr 1, .inr v], (zr τ 21 (zu (τ 21) 10 e21)))) rfl trivial ?_
                    refine exq_c (m_of (τ := (zr τ 21 (zu (τ 21) 10 e21))) (f := whz c 1 ((cel c (0 + (k : Int) * 6 + 2)) + (-1))) (w := 3) hI hR (by omega) (by omega)) (is := cod m8_mostPoints 57) (L := [some (.inl 21), some (.inr x), some (.inr v), some (.inr (k : Int)), some (.inr 3), some (.inr (-1))]) (st := [.inr 1, .inr v]) rfl rfl rfl ?_
                    show Exq _ _ (cod m8_mostPoints 57, [some (.inl 21), some (.inr x), some (.inr v), some (.inr (k : Int)), some (.inr 3), some (.inr (-1))], [.inr (cel c (0 + (whz c 1 ((cel c (0 + (k : Int) * 6 + 2)) + (-1))) * 6 + 3)), .inr 1, .inr v], (zr τ 21 (zu (τ 21) 10 e21))) _ _
                    refine exq_k 2 (P := some (Rng v ∧ Rng (1 + (cel c (0 + (whz c 1 ((cel c (0 + (k : Int) * 6 + 2)) + (-1))) * 6 + 3))))) (g := (cod m8_mostPoints 59, [some (.inl 21), some (.inr x), some (.inr v), some (.inr (k : Int)), some (.inr 3), some (.inr (-1))], [.inr (if v < (1 + (cel c (0 + (whz c 1 ((cel c (0 + (k : Int) * 6 + 2)) + (-1))) * 6 + 3))) then (1 + (cel c (0 + (whz c 1 ((cel c (0 + (k : Int) * 6 + 2)) + (-1))) * 6 + 3))) else v)], (zr τ 21 (zu (τ 21) 10 e21)))) rfl ⟨⟨by omega, by omega⟩, ⟨by omega, by omega⟩⟩ ?_
                    refine exq_k 5 (P := none) (g := (cod m8_mostPoints 14, [some (.inl 21), some (.inr x), some (.inr (if v < (1 + (cel c (0 + (whz c 1 ((cel c (0 + (k : Int) * 6 + 2)) + (-1))) * 6 + 3))) then (1 + (cel c (0 + (whz c 1 ((cel c (0 + (k : Int) * 6 + 2)) + (-1))) * 6 + 3))) else v)), some (.inr (k : Int)), some (.inr 4), some (.inr (-1))], [.inr 4, .inr 4], (zr τ 21 (zu (τ 21) 10 e21)))) rfl trivial ?_
                    refine exq_b (P := 4 ≤ 4) (ct := (cod m8_mostPoints 62, [some (.inl 21), some (.inr x), some (.inr (if v < (1 + (cel c (0 + (whz c 1 ((cel c (0 + (k : Int) * 6 + 2)) + (-1))) * 6 + 3))) then (1 + (cel c (0 + (whz c 1 ((cel c (0 + (k : Int) * 6 + 2)) + (-1))) * 6 + 3))) else v)), some (.inr (k : Int)), some (.inr 4), some (.inr (-1))], [], (zr τ 21 (zu (τ 21) 10 e21)))) (cf := (cod m8_mostPoints 15, [some (.inl 21), some (.inr x), some (.inr (if v < (1 + (cel c (0 + (whz c 1 ((cel c (0 + (k : Int) * 6 + 2)) + (-1))) * 6 + 3))) then (1 + (cel c (0 + (whz c 1 ((cel c (0 + (k : Int) * 6 + 2)) + (-1))) * 6 + 3))) else v)), some (.inr (k : Int)), some (.inr 4), some (.inr (-1))], [], (zr τ 21 (zu (τ 21) 10 e21)))) rfl ⟨⟨by decide, by decide⟩, ⟨by decide, by decide⟩⟩ (fun _ => ?_) (fun hh => absurd (by decide) hh)
                    refine exq_k 2 (P := none) (g := (cod m8_mostPoints 4, [some (.inl 21), some (.inr x), some (.inr (if v < (1 + (cel c (0 + (whz c 1 ((cel c (0 + (k : Int) * 6 + 2)) + (-1))) * 6 + 3))) then (1 + (cel c (0 + (whz c 1 ((cel c (0 + (k : Int) * 6 + 2)) + (-1))) * 6 + 3))) else v)), some (.inr ((k : Int) + 1)), some (.inr 4), some (.inr (-1))], [], (zr τ 21 (zu (τ 21) 10 e21)))) rfl trivial ?_
                    exact ih (k + 1) (by omega) _ _ _ _ ⟨by show _ = ite _ _ _; rw [if_pos hsx, ← hv1]; exact hst.symm, by first | omega | (split <;> omega)⟩))
      · have hst : stq c (k : Int) 1 (-1) (stq c (k : Int) 1 1 (stq c (k : Int) 0 (-1) (stq c (k : Int) 0 1 (mpv c x k)))) = stq c (k : Int) 1 1 (stq c (k : Int) 0 (-1) (stq c (k : Int) 0 1 (mpv c x k))) := stq_f (m := stq c (k : Int) 1 1 (stq c (k : Int) 0 (-1) (stq c (k : Int) 0 1 (mpv c x k)))) hcap
        rw [← hv1] at hst
        refine exq_k 2 (P := none) (g := (cod m8_mostPoints 14, [some (.inl 21), some (.inr x), some (.inr v), some (.inr (k : Int)), some (.inr 3), o5], [.inr 4, .inr 3], (zr τ 21 (zu (τ 21) 10 e)))) rfl trivial ?_
        refine exq_b (P := 4 ≤ 3) (ct := (cod m8_mostPoints 62, [some (.inl 21), some (.inr x), some (.inr v), some (.inr (k : Int)), some (.inr 3), o5], [], (zr τ 21 (zu (τ 21) 10 e)))) (cf := (cod m8_mostPoints 15, [some (.inl 21), some (.inr x), some (.inr v), some (.inr (k : Int)), some (.inr 3), o5], [], (zr τ 21 (zu (τ 21) 10 e)))) rfl ⟨⟨by decide, by decide⟩, ⟨by decide, by decide⟩⟩ (fun hh => absurd hh (by decide)) (fun _ => ?_)
        refine exq_k 3 (P := none) (g := (cod m8_mostPoints 18, [some (.inl 21), some (.inr x), some (.inr v), some (.inr (k : Int)), some (.inr 3), o5], [.inr 0, .inr (k : Int), .inl 21], (zr τ 21 (zu (τ 21) 10 e)))) rfl trivial ?_
        refine exq_c (m_of (τ := (zr τ 21 (zu (τ 21) 10 e))) (f := (k : Int)) (w := 0) hI hR (by omega) (by omega)) (is := cod m8_mostPoints 19) (L := [some (.inl 21), some (.inr x), some (.inr v), some (.inr (k : Int)), some (.inr 3), o5]) (st := []) rfl rfl rfl ?_
        show Exq _ _ (cod m8_mostPoints 19, [some (.inl 21), some (.inr x), some (.inr v), some (.inr (k : Int)), some (.inr 3), o5], [.inr (cel c (0 + (k : Int) * 6 + 0))], (zr τ 21 (zu (τ 21) 10 e))) _ _
        refine exq_k 1 (P := none) (g := (cod m8_mostPoints 20, [some (.inl 21), some (.inr x), some (.inr v), some (.inr (k : Int)), some (.inr 3), o5], [.inr x, .inr (cel c (0 + (k : Int) * 6 + 0))], (zr τ 21 (zu (τ 21) 10 e)))) rfl trivial ?_
        refine exq_b (P := ¬ (cel c (0 + (k : Int) * 6 + 0)) = x) (ct := (cod m8_mostPoints 62, [some (.inl 21), some (.inr x), some (.inr v), some (.inr (k : Int)), some (.inr 3), o5], [], (zr τ 21 (zu (τ 21) 10 e)))) (cf := (cod m8_mostPoints 21, [some (.inl 21), some (.inr x), some (.inr v), some (.inr (k : Int)), some (.inr 3), o5], [], (zr τ 21 (zu (τ 21) 10 e)))) rfl ⟨⟨by omega, by omega⟩, ⟨by omega, by omega⟩⟩ (fun h2 => ?_) (fun h2 => ?_)
        · first
          | (exfalso; omega)
          | (
              refine exq_k 2 (P := none) (g := (cod m8_mostPoints 4, [some (.inl 21), some (.inr x), some (.inr v), some (.inr ((k : Int) + 1)), some (.inr 3), o5], [], (zr τ 21 (zu (τ 21) 10 e)))) rfl trivial ?_
              exact ih (k + 1) (by omega) _ _ _ _ ⟨by show _ = ite _ _ _; rw [if_pos hsx, ← hv1]; exact hst.symm, by first | omega | (split <;> omega)⟩)
        · first
          | (exfalso; omega)
          | (
              refine exq_k 3 (P := some (0 ≤ 3 ∧ 3 < 2147483648 ∧ 0 < 2 ∧ 2 < 2147483648)) (g := (cod m8_mostPoints 24, [some (.inl 21), some (.inr x), some (.inr v), some (.inr (k : Int)), some (.inr 3), o5], [.inr 1], (zr τ 21 (zu (τ 21) 10 e)))) rfl (by show 0 ≤ 3 ∧ 3 < 2147483648 ∧ 0 < 2 ∧ 2 < 2147483648; omega) ?_
              refine exq_b (P := ¬ 1 = 0) (ct := (cod m8_mostPoints 27, [some (.inl 21), some (.inr x), some (.inr v), some (.inr (k : Int)), some (.inr 3), o5], [], (zr τ 21 (zu (τ 21) 10 e)))) (cf := (cod m8_mostPoints 25, [some (.inl 21), some (.inr x), some (.inr v), some (.inr (k : Int)), some (.inr 3), o5], [], (zr τ 21 (zu (τ 21) 10 e)))) rfl ⟨by decide, by decide⟩ (fun _ => ?_) (fun hh => absurd (by decide) hh)
              refine exq_k 7 (P := some (0 ≤ 3 ∧ 3 < 2147483648 ∧ 0 < 2 ∧ 2 < 2147483648)) (g := (cod m8_mostPoints 34, [some (.inl 21), some (.inr x), some (.inr v), some (.inr (k : Int)), some (.inr 3), some (.inr (-1))], [.inr 1, .inr (k : Int), .inl 21], (zr τ 21 (zu (τ 21) 10 e)))) rfl (by show 0 ≤ 3 ∧ 3 < 2147483648 ∧ 0 < 2 ∧ 2 < 2147483648; omega) ?_
              refine exq_k 1 (P := none) (g := (cod m8_mostPoints 35, [some (.inl 21), some (.inr x), some (.inr v), some (.inr (k : Int)), some (.inr 3), some (.inr (-1))], [.inr (-1), .inr 1, .inr (k : Int), .inl 21], (zr τ 21 (zu (τ 21) 10 e)))) rfl trivial ?_
              obtain ⟨e22, hc22⟩ := m_isCapture (τ := (zr τ 21 (zu (τ 21) 10 e))) (f := (k : Int)) (r := 1) (s := (-1)) hI hR (by omega) (by omega) (by omega)
              refine exq_c hc22 (is := cod m8_mostPoints 36) (L := [some (.inl 21), some (.inr x), some (.inr v), some (.inr (k : Int)), some (.inr 3), some (.inr (-1))]) (st := []) rfl rfl rfl ?_
              show Exq _ _ (cod m8_mostPoints 36, [some (.inl 21), some (.inr x), some (.inr v), some (.inr (k : Int)), some (.inr 3), some (.inr (-1))], [.inr (b2 (oco c (k : Int) 1 (-1) = 3))], (zr (zr τ 21 (zu (τ 21) 10 e)) 21 (zu (zu (τ 21) 10 e) 10 e22))) _ _
              rw [zr_zr, zu_zu]
              refine exq_b (P := (b2 (oco c (k : Int) 1 (-1) = 3)) = 0) (ct := (cod m8_mostPoints 60, [some (.inl 21), some (.inr x), some (.inr v), some (.inr (k : Int)), some (.inr 3), some (.inr (-1))], [], (zr τ 21 (zu (τ 21) 10 e22)))) (cf := (cod m8_mostPoints 37, [some (.inl 21), some (.inr x), some (.inr v), some (.inr (k : Int)), some (.inr 3), some (.inr (-1))], [], (zr τ 21 (zu (τ 21) 10 e22)))) rfl b2_rng (fun h4 => ?_) (fun h4 => ?_)
              · first
                | (exfalso; have h4 := b2_e0 h4; omega)
                | (
                    have h4 := b2_e0 h4
                    refine exq_k 4 (P := none) (g := (cod m8_mostPoints 14, [some (.inl 21), some (.inr x), some (.inr v), some (.inr (k : Int)), some (.inr 4), some (.inr (-1))], [.inr 4, .inr 4], (zr τ 21 (zu (τ 21) 10 e22)))) rfl trivial ?_
                    refine exq_b (P := 4 ≤ 4) (ct := (cod m8_mostPoints 62, [some (.inl 21), some (.inr x), some (.inr v), some (.inr (k : Int)), some (.inr 4), some (.inr (-1))], [], (zr τ 21 (zu (τ 21) 10 e22)))) (cf := (cod m8_mostPoints 15, [some (.inl 21), some (.inr x), some (.inr v), some (.inr (k : Int)), some (.inr 4), some (.inr (-1))], [], (zr τ 21 (zu (τ 21) 10 e22)))) rfl ⟨⟨by decide, by decide⟩, ⟨by decide, by decide⟩⟩ (fun _ => ?_) (fun hh => absurd (by decide) hh)
                    refine exq_k 2 (P := none) (g := (cod m8_mostPoints 4, [some (.inl 21), some (.inr x), some (.inr v), some (.inr ((k : Int) + 1)), some (.inr 4), some (.inr (-1))], [], (zr τ 21 (zu (τ 21) 10 e22)))) rfl trivial ?_
                    exact ih (k + 1) (by omega) _ _ _ _ ⟨by show _ = ite _ _ _; rw [if_pos hsx, ← hv1]; exact hst.symm, by first | omega | (split <;> omega)⟩)
              · first
                | (exfalso; have h4 := b2_n0 h4; omega)
                | (
                    have h4 := b2_n0 h4
                    refine exq_k 7 (P := some (0 ≤ 3 ∧ 3 < 2147483648 ∧ 0 < 2 ∧ 2 < 2147483648)) (g := (cod m8_mostPoints 44, [some (.inl 21), some (.inr x), some (.inr v), some (.inr (k : Int)), some (.inr 3), some (.inr (-1))], [.inr 1, .inl 21, .inl 21, .inr 1, .inr v], (zr τ 21 (zu (τ 21) 10 e22)))) rfl (by show 0 ≤ 3 ∧ 3 < 2147483648 ∧ 0 < 2 ∧ 2 < 2147483648; omega) ?_
                    refine exq_k 6 (P := some (0 ≤ 3 ∧ 3 < 2147483648 ∧ 0 < 2 ∧ 2 < 2147483648)) (g := (cod m8_mostPoints 50, [some (.inl 21), some (.inr x), some (.inr v), some (.inr (k : Int)), some (.inr 3), some (.inr (-1))], [.inr 1, .inr 1, .inr (k : Int), .inl 21, .inr 1, .inl 21, .inl 21, .inr 1, .inr v], (zr τ 21 (zu (τ 21) 10 e22)))) rfl (by show 0 ≤ 3 ∧ 3 < 2147483648 ∧ 0 < 2 ∧ 2 < 2147483648; omega) ?_
                    refine exq_k 1 (P := none) (g := (cod m8_mostPoints 51, [some (.inl 21), some (.inr x), some (.inr v), some (.inr (k : Int)), some (.inr 3), some (.inr (-1))], [.inr 2, .inr (k : Int), .inl 21, .inr 1, .inl 21, .inl 21, .inr 1, .inr v], (zr τ 21 (zu (τ 21) 10 e22)))) rfl trivial ?_
                    refine exq_c (m_of (τ := (zr τ 21 (zu (τ 21) 10 e22))) (f := (k : Int)) (w := 2) hI hR (by omega) (by omega)) (is := cod m8_mostPoints 52) (L := [some (.inl 21), some (.inr x), some (.inr v), some (.inr (k : Int)), some (.inr 3), some (.inr (-1))]) (st := [.inr 1, .inl 21, .inl 21, .inr 1, .inr v]) rfl rfl rfl ?_
                    show Exq _ _ (cod m8_mostPoints 52, [some (.inl 21), some (.inr x), some (.inr v), some (.inr (k : Int)), some (.inr 3), some (.inr (-1))], [.inr (cel c (0 + (k : Int) * 6 + 2)), .inr 1, .inl 21, .inl 21, .inr 1, .inr v], (zr τ 21 (zu (τ 21) 10 e22))) _ _
                    refine exq_k 2 (P := none) (g := (cod m8_mostPoints 54, [some (.inl 21), some (.inr x), some (.inr v), some (.inr (k : Int)), some (.inr 3), some (.inr (-1))], [.inr ((cel c (0 + (k : Int) * 6 + 2)) + (-1)), .inr 1, .inl 21, .inl 21, .inr 1, .inr v], (zr τ 21 (zu (τ 21) 10 e22)))) rfl trivial ?_
                    refine exq_c (m_there (τ := (zr τ 21 (zu (τ 21) 10 e22))) (r := 1) (p := (cel c (0 + (k : Int) * 6 + 2)) + (-1)) hI hR (by omega) (by omega)) (is := cod m8_mostPoints 55) (L := [some (.inl 21), some (.inr x), some (.inr v), some (.inr (k : Int)), some (.inr 3), some (.inr (-1))]) (st := [.inl 21, .inr 1, .inr v]) rfl rfl rfl ?_
                    show Exq _ _ (cod m8_mostPoints 55, [some (.inl 21), some (.inr x), some (.inr v), some (.inr (k : Int)), some (.inr 3), some (.inr (-1))], [.inr (whz c 1 ((cel c (0 + (k : Int) * 6 + 2)) + (-1))), .inl 21, .inr 1, .inr v], (zr τ 21 (zu (τ 21) 10 e22))) _ _
                    refine exq_k 1 (P := none) (g := (cod m8_mostPoints 56, [some (.inl 21), some (.inr x), some (.inr v), some (.inr (k : Int)), some (.inr 3), some (.inr (-1))], [.inr 3, .inr (whz c 1 ((cel c (0 + (k : Int) * 6 + 2)) + (-1))), .inl 21, .inr 1, .inr v], (zr τ 21 (zu (τ 21) 10 e22)))) rfl trivial ?_
                    refine exq_c (m_of (τ := (zr τ 21 (zu (τ 21) 10 e22))) (f := whz c 1 ((cel c (0 + (k : Int) * 6 + 2)) + (-1))) (w := 3) hI hR (by omega) (by omega)) (is := cod m8_mostPoints 57) (L := [some (.inl 21), some (.inr x), some (.inr v), some (.inr (k : Int)), some (.inr 3), some (.inr (-1))]) (st := [.inr 1, .inr v]) rfl rfl rfl ?_
                    show Exq _ _ (cod m8_mostPoints 57, [some (.inl 21), some (.inr x), some (.inr v), some (.inr (k : Int)), some (.inr 3), some (.inr (-1))], [.inr (cel c (0 + (whz c 1 ((cel c (0 + (k : Int) * 6 + 2)) + (-1))) * 6 + 3)), .inr 1, .inr v], (zr τ 21 (zu (τ 21) 10 e22))) _ _
                    refine exq_k 2 (P := some (Rng v ∧ Rng (1 + (cel c (0 + (whz c 1 ((cel c (0 + (k : Int) * 6 + 2)) + (-1))) * 6 + 3))))) (g := (cod m8_mostPoints 59, [some (.inl 21), some (.inr x), some (.inr v), some (.inr (k : Int)), some (.inr 3), some (.inr (-1))], [.inr (if v < (1 + (cel c (0 + (whz c 1 ((cel c (0 + (k : Int) * 6 + 2)) + (-1))) * 6 + 3))) then (1 + (cel c (0 + (whz c 1 ((cel c (0 + (k : Int) * 6 + 2)) + (-1))) * 6 + 3))) else v)], (zr τ 21 (zu (τ 21) 10 e22)))) rfl ⟨⟨by omega, by omega⟩, ⟨by omega, by omega⟩⟩ ?_
                    refine exq_k 5 (P := none) (g := (cod m8_mostPoints 14, [some (.inl 21), some (.inr x), some (.inr (if v < (1 + (cel c (0 + (whz c 1 ((cel c (0 + (k : Int) * 6 + 2)) + (-1))) * 6 + 3))) then (1 + (cel c (0 + (whz c 1 ((cel c (0 + (k : Int) * 6 + 2)) + (-1))) * 6 + 3))) else v)), some (.inr (k : Int)), some (.inr 4), some (.inr (-1))], [.inr 4, .inr 4], (zr τ 21 (zu (τ 21) 10 e22)))) rfl trivial ?_
                    refine exq_b (P := 4 ≤ 4) (ct := (cod m8_mostPoints 62, [some (.inl 21), some (.inr x), some (.inr (if v < (1 + (cel c (0 + (whz c 1 ((cel c (0 + (k : Int) * 6 + 2)) + (-1))) * 6 + 3))) then (1 + (cel c (0 + (whz c 1 ((cel c (0 + (k : Int) * 6 + 2)) + (-1))) * 6 + 3))) else v)), some (.inr (k : Int)), some (.inr 4), some (.inr (-1))], [], (zr τ 21 (zu (τ 21) 10 e22)))) (cf := (cod m8_mostPoints 15, [some (.inl 21), some (.inr x), some (.inr (if v < (1 + (cel c (0 + (whz c 1 ((cel c (0 + (k : Int) * 6 + 2)) + (-1))) * 6 + 3))) then (1 + (cel c (0 + (whz c 1 ((cel c (0 + (k : Int) * 6 + 2)) + (-1))) * 6 + 3))) else v)), some (.inr (k : Int)), some (.inr 4), some (.inr (-1))], [], (zr τ 21 (zu (τ 21) 10 e22)))) rfl ⟨⟨by decide, by decide⟩, ⟨by decide, by decide⟩⟩ (fun _ => ?_) (fun hh => absurd (by decide) hh)
                    refine exq_k 2 (P := none) (g := (cod m8_mostPoints 4, [some (.inl 21), some (.inr x), some (.inr (if v < (1 + (cel c (0 + (whz c 1 ((cel c (0 + (k : Int) * 6 + 2)) + (-1))) * 6 + 3))) then (1 + (cel c (0 + (whz c 1 ((cel c (0 + (k : Int) * 6 + 2)) + (-1))) * 6 + 3))) else v)), some (.inr ((k : Int) + 1)), some (.inr 4), some (.inr (-1))], [], (zr τ 21 (zu (τ 21) 10 e22)))) rfl trivial ?_
                    exact ih (k + 1) (by omega) _ _ _ _ ⟨by show _ = ite _ _ _; rw [if_pos hsx, ← hv1]; exact hst.symm, by first | omega | (split <;> omega)⟩))
    have q2 : cel c (0 + (k : Int) * 6 + 0) = x → ∀ (v e : Int) (o5 : Option VZ), (v = stq c (k : Int) 0 (-1) (stq c (k : Int) 0 1 (mpv c x k)) ∧ 0 ≤ v ∧ v ≤ 2) → Exq 5 m8_mostPoints (cod m8_mostPoints 12, [some (.inl 21), some (.inr x), some (.inr v), some (.inr (k : Int)), some (.inr 2), o5], [], (zr τ 21 (zu (τ 21) 10 e))) 0 (fun q => ∃ e, q = .inl (some (.inr (mpv c x (cel c 107).toNat)), dt τ e)) := by
      intro hsx v e o5 hv
      have hv1 := hv.1
      by_cases hcap : oco c (k : Int) 1 1 = 3
      · have hst : stq c (k : Int) 1 1 (stq c (k : Int) 0 (-1) (stq c (k : Int) 0 1 (mpv c x k))) = (if stq c (k : Int) 0 (-1) (stq c (k : Int) 0 1 (mpv c x k)) < 1 + cel c (0 + whz c 1 (cel c (0 + (k : Int) * 6 + 2) + 1) * 6 + 3) then 1 + cel c (0 + whz c 1 (cel c (0 + (k : Int) * 6 + 2) + 1) * 6 + 3) else stq c (k : Int) 0 (-1) (stq c (k : Int) 0 1 (mpv c x k))) := stq_t (m := stq c (k : Int) 0 (-1) (stq c (k : Int) 0 1 (mpv c x k))) hcap
        have hqq := hq2 hcap
        rw [← hv1] at hst
        refine exq_k 2 (P := none) (g := (cod m8_mostPoints 14, [some (.inl 21), some (.inr x), some (.inr v), some (.inr (k : Int)), some (.inr 2), o5], [.inr 4, .inr 2], (zr τ 21 (zu (τ 21) 10 e)))) rfl trivial ?_
        refine exq_b (P := 4 ≤ 2) (ct := (cod m8_mostPoints 62, [some (.inl 21), some (.inr x), some (.inr v), some (.inr (k : Int)), some (.inr 2), o5], [], (zr τ 21 (zu (τ 21) 10 e)))) (cf := (cod m8_mostPoints 15, [some (.inl 21), some (.inr x), some (.inr v), some (.inr (k : Int)), some (.inr 2), o5], [], (zr τ 21 (zu (τ 21) 10 e)))) rfl ⟨⟨by decide, by decide⟩, ⟨by decide, by decide⟩⟩ (fun hh => absurd hh (by decide)) (fun _ => ?_)
        refine exq_k 3 (P := none) (g := (cod m8_mostPoints 18, [some (.inl 21), some (.inr x), some (.inr v), some (.inr (k : Int)), some (.inr 2), o5], [.inr 0, .inr (k : Int), .inl 21], (zr τ 21 (zu (τ 21) 10 e)))) rfl trivial ?_
        refine exq_c (m_of (τ := (zr τ 21 (zu (τ 21) 10 e))) (f := (k : Int)) (w := 0) hI hR (by omega) (by omega)) (is := cod m8_mostPoints 19) (L := [some (.inl 21), some (.inr x), some (.inr v), some (.inr (k : Int)), some (.inr 2), o5]) (st := []) rfl rfl rfl ?_
        show Exq _ _ (cod m8_mostPoints 19, [some (.inl 21), some (.inr x), some (.inr v), some (.inr (k : Int)), some (.inr 2), o5], [.inr (cel c (0 + (k : Int) * 6 + 0))], (zr τ 21 (zu (τ 21) 10 e))) _ _
        refine exq_k 1 (P := none) (g := (cod m8_mostPoints 20, [some (.inl 21), some (.inr x), some (.inr v), some (.inr (k : Int)), some (.inr 2), o5], [.inr x, .inr (cel c (0 + (k : Int) * 6 + 0))], (zr τ 21 (zu (τ 21) 10 e)))) rfl trivial ?_
        refine exq_b (P := ¬ (cel c (0 + (k : Int) * 6 + 0)) = x) (ct := (cod m8_mostPoints 62, [some (.inl 21), some (.inr x), some (.inr v), some (.inr (k : Int)), some (.inr 2), o5], [], (zr τ 21 (zu (τ 21) 10 e)))) (cf := (cod m8_mostPoints 21, [some (.inl 21), some (.inr x), some (.inr v), some (.inr (k : Int)), some (.inr 2), o5], [], (zr τ 21 (zu (τ 21) 10 e)))) rfl ⟨⟨by omega, by omega⟩, ⟨by omega, by omega⟩⟩ (fun h2 => ?_) (fun h2 => ?_)
        · first
          | (exfalso; omega)
          | (
              refine exq_k 2 (P := none) (g := (cod m8_mostPoints 4, [some (.inl 21), some (.inr x), some (.inr v), some (.inr ((k : Int) + 1)), some (.inr 2), o5], [], (zr τ 21 (zu (τ 21) 10 e)))) rfl trivial ?_
              exact ih (k + 1) (by omega) _ _ _ _ ⟨by show _ = ite _ _ _; rw [if_pos hsx, ← hv1]; exact hst.symm, by first | omega | (split <;> omega)⟩)
        · first
          | (exfalso; omega)
          | (
              refine exq_k 3 (P := some (0 ≤ 2 ∧ 2 < 2147483648 ∧ 0 < 2 ∧ 2 < 2147483648)) (g := (cod m8_mostPoints 24, [some (.inl 21), some (.inr x), some (.inr v), some (.inr (k : Int)), some (.inr 2), o5], [.inr 0], (zr τ 21 (zu (τ 21) 10 e)))) rfl (by show 0 ≤ 2 ∧ 2 < 2147483648 ∧ 0 < 2 ∧ 2 < 2147483648; omega) ?_
              refine exq_b (P := ¬ 0 = 0) (ct := (cod m8_mostPoints 27, [some (.inl 21), some (.inr x), some (.inr v), some (.inr (k : Int)), some (.inr 2), o5], [], (zr τ 21 (zu (τ 21) 10 e)))) (cf := (cod m8_mostPoints 25, [some (.inl 21), some (.inr x), some (.inr v), some (.inr (k : Int)), some (.inr 2), o5], [], (zr τ 21 (zu (τ 21) 10 e)))) rfl ⟨by decide, by decide⟩ (fun hh => absurd hh (by decide)) (fun _ => ?_)
              refine exq_k 8 (P := some (0 ≤ 2 ∧ 2 < 2147483648 ∧ 0 < 2 ∧ 2 < 2147483648)) (g := (cod m8_mostPoints 34, [some (.inl 21), some (.inr x), some (.inr v), some (.inr (k : Int)), some (.inr 2), some (.inr 1)], [.inr 1, .inr (k : Int), .inl 21], (zr τ 21 (zu (τ 21) 10 e)))) rfl (by show 0 ≤ 2 ∧ 2 < 2147483648 ∧ 0 < 2 ∧ 2 < 2147483648; omega) ?_
              refine exq_k 1 (P := none) (g := (cod m8_mostPoints 35, [some (.inl 21), some (.inr x), some (.inr v), some (.inr (k : Int)), some (.inr 2), some (.inr 1)], [.inr 1, .inr 1, .inr (k : Int), .inl 21], (zr τ 21 (zu (τ 21) 10 e)))) rfl trivial ?_
              obtain ⟨e23, hc23⟩ := m_isCapture (τ := (zr τ 21 (zu (τ 21) 10 e))) (f := (k : Int)) (r := 1) (s := 1) hI hR (by omega) (by omega) (by omega)
              refine exq_c hc23 (is := cod m8_mostPoints 36) (L := [some (.inl 21), some (.inr x), some (.inr v), some (.inr (k : Int)), some (.inr 2), some (.inr 1)]) (st := []) rfl rfl rfl ?_
              show Exq _ _ (cod m8_mostPoints 36, [some (.inl 21), some (.inr x), some (.inr v), some (.inr (k : Int)), some (.inr 2), some (.inr 1)], [.inr (b2 (oco c (k : Int) 1 1 = 3))], (zr (zr τ 21 (zu (τ 21) 10 e)) 21 (zu (zu (τ 21) 10 e) 10 e23))) _ _
              rw [zr_zr, zu_zu]
              refine exq_b (P := (b2 (oco c (k : Int) 1 1 = 3)) = 0) (ct := (cod m8_mostPoints 60, [some (.inl 21), some (.inr x), some (.inr v), some (.inr (k : Int)), some (.inr 2), some (.inr 1)], [], (zr τ 21 (zu (τ 21) 10 e23)))) (cf := (cod m8_mostPoints 37, [some (.inl 21), some (.inr x), some (.inr v), some (.inr (k : Int)), some (.inr 2), some (.inr 1)], [], (zr τ 21 (zu (τ 21) 10 e23)))) rfl b2_rng (fun h4 => ?_) (fun h4 => ?_)
              · first
                | (exfalso; have h4 := b2_e0 h4; omega)
                | (
                    have h4 := b2_e0 h4
                    refine exq_k 2 (P := none) (g := (cod m8_mostPoints 12, [some (.inl 21), some (.inr x), some (.inr v), some (.inr (k : Int)), some (.inr 3), some (.inr 1)], [], (zr τ 21 (zu (τ 21) 10 e23)))) rfl trivial ?_
                    exact q3 hsx _ _ _ ⟨by rw [← hv1]; exact hst.symm, by first | omega | (split <;> omega)⟩)
              · first
                | (exfalso; have h4 := b2_n0 h4; omega)
                | (
                    have h4 := b2_n0 h4
                    refine exq_k 7 (P := some (0 ≤ 2 ∧ 2 < 2147483648 ∧ 0 < 2 ∧ 2 < 2147483648)) (g := (cod m8_mostPoints 44, [some (.inl 21), some (.inr x), some (.inr v), some (.inr (k : Int)), some (.inr 2), some (.inr 1)], [.inr 1, .inl 21, .inl 21, .inr 1, .inr v], (zr τ 21 (zu (τ 21) 10 e23)))) rfl (by show 0 ≤ 2 ∧ 2 < 2147483648 ∧ 0 < 2 ∧ 2 < 2147483648; omega) ?_
                    refine exq_k 6 (P := some (0 ≤ 2 ∧ 2 < 2147483648 ∧ 0 < 2 ∧ 2 < 2147483648)) (g := (cod m8_mostPoints 50, [some (.inl 21), some (.inr x), some (.inr v), some (.inr (k : Int)), some (.inr 2), some (.inr 1)], [.inr 1, .inr 1, .inr (k : Int), .inl 21, .inr 1, .inl 21, .inl 21, .inr 1, .inr v], (zr τ 21 (zu (τ 21) 10 e23)))) rfl (by show 0 ≤ 2 ∧ 2 < 2147483648 ∧ 0 < 2 ∧ 2 < 2147483648; omega) ?_
                    refine exq_k 1 (P := none) (g := (cod m8_mostPoints 51, [some (.inl 21), some (.inr x), some (.inr v), some (.inr (k : Int)), some (.inr 2), some (.inr 1)], [.inr 2, .inr (k : Int), .inl 21, .inr 1, .inl 21, .inl 21, .inr 1, .inr v], (zr τ 21 (zu (τ 21) 10 e23)))) rfl trivial ?_
                    refine exq_c (m_of (τ := (zr τ 21 (zu (τ 21) 10 e23))) (f := (k : Int)) (w := 2) hI hR (by omega) (by omega)) (is := cod m8_mostPoints 52) (L := [some (.inl 21), some (.inr x), some (.inr v), some (.inr (k : Int)), some (.inr 2), some (.inr 1)]) (st := [.inr 1, .inl 21, .inl 21, .inr 1, .inr v]) rfl rfl rfl ?_
                    show Exq _ _ (cod m8_mostPoints 52, [some (.inl 21), some (.inr x), some (.inr v), some (.inr (k : Int)), some (.inr 2), some (.inr 1)], [.inr (cel c (0 + (k : Int) * 6 + 2)), .inr 1, .inl 21, .inl 21, .inr 1, .inr v], (zr τ 21 (zu (τ 21) 10 e23))) _ _
                    refine exq_k 2 (P := none) (g := (cod m8_mostPoints 54, [some (.inl 21), some (.inr x), some (.inr v), some (.inr (k : Int)), some (.inr 2), some (.inr 1)], [.inr ((cel c (0 + (k : Int) * 6 + 2)) + 1), .inr 1, .inl 21, .inl 21, .inr 1, .inr v], (zr τ 21 (zu (τ 21) 10 e23)))) rfl trivial ?_
                    refine exq_c (m_there (τ := (zr τ 21 (zu (τ 21) 10 e23))) (r := 1) (p := (cel c (0 + (k : Int) * 6 + 2)) + 1) hI hR (by omega) (by omega)) (is := cod m8_mostPoints 55) (L := [some (.inl 21), some (.inr x), some (.inr v), some (.inr (k : Int)), some (.inr 2), some (.inr 1)]) (st := [.inl 21, .inr 1, .inr v]) rfl rfl rfl ?_
                    show Exq _ _ (cod m8_mostPoints 55, [some (.inl 21), some (.inr x), some (.inr v), some (.inr (k : Int)), some (.inr 2), some (.inr 1)], [.inr (whz c 1 ((cel c (0 + (k : Int) * 6 + 2)) + 1)), .inl 21, .inr 1, .inr v], (zr τ 21 (zu (τ 21) 10 e23))) _ _
                    refine exq_k 1 (P := none) (g := (cod m8_mostPoints 56, [some (.inl 21), some (.inr x), some (.inr v), some (.inr (k : Int)), some (.inr 2), some (.inr 1)], [.inr 3, .inr (whz c 1 ((cel c (0 + (k : Int) * 6 + 2)) + 1)), .inl 21, .inr 1, .inr v], (zr τ 21 (zu (τ 21) 10 e23)))) rfl trivial ?_
                    refine exq_c (m_of (τ := (zr τ 21 (zu (τ 21) 10 e23))) (f := whz c 1 ((cel c (0 + (k : Int) * 6 + 2)) + 1)) (w := 3) hI hR (by omega) (by omega)) (is := cod m8_mostPoints 57) (L := [some (.inl 21), some (.inr x), some (.inr v), some (.inr (k : Int)), some (.inr 2), some (.inr 1)]) (st := [.inr 1, .inr v]) rfl rfl rfl ?_
                    show Exq _ _ (cod m8_mostPoints 57, [some (.inl 21), some (.inr x), some (.inr v), some (.inr (k : Int)), some (.inr 2), some (.inr 1)], [.inr (cel c (0 + (whz c 1 ((cel c (0 + (k : Int) * 6 + 2)) + 1)) * 6 + 3)), .inr 1, .inr v], (zr τ 21 (zu (τ 21) 10 e23))) _ _
                    refine exq_k 2 (P := some (Rng v ∧ Rng (1 + (cel c (0 + (whz c 1 ((cel c (0 + (k : Int) * 6 + 2)) + 1)) * 6 + 3))))) (g := (cod m8_mostPoints 59, [some (.inl 21), some (.inr x), some (.inr v), some (.inr (k : Int)), some (.inr 2), some (.inr 1)], [.inr (if v < (1 + (cel c (0 + (whz c 1 ((cel c (0 + (k : Int) * 6 + 2)) + 1)) * 6 + 3))) then (1 + (cel c (0 + (whz c 1 ((cel c (0 + (k : Int) * 6 + 2)) + 1)) * 6 + 3))) else v)], (zr τ 21 (zu (τ 21) 10 e23)))) rfl ⟨⟨by omega, by omega⟩, ⟨by omega, by omega⟩⟩ ?_
                    refine exq_k 3 (P := none) (g := (cod m8_mostPoints 12, [some (.inl 21), some (.inr x), some (.inr (if v < (1 + (cel c (0 + (whz c 1 ((cel c (0 + (k : Int) * 6 + 2)) + 1)) * 6 + 3))) then (1 + (cel c (0 + (whz c 1 ((cel c (0 + (k : Int) * 6 + 2)) + 1)) * 6 + 3))) else v)), some (.inr (k : Int)), some (.inr 3), some (.inr 1)], [], (zr τ 21 (zu (τ 21) 10 e23)))) rfl trivial ?_
                    exact q3 hsx _ _ _ ⟨by rw [← hv1]; exact hst.symm, by first | omega | (split <;> omega)⟩))
      · have hst : stq c (k : Int) 1 1 (stq c (k : Int) 0 (-1) (stq c (k : Int) 0 1 (mpv c x k))) = stq c (k : Int) 0 (-1) (stq c (k : Int) 0 1 (mpv c x k)) := stq_f (m := stq c (k : Int) 0 (-1) (stq c (k : Int) 0 1 (mpv c x k))) hcap
        rw [← hv1] at hst
        refine exq_k 2 (P := none) (g := (cod m8_mostPoints 14, [some (.inl 21), some (.inr x), some (.inr v), some (.inr (k : Int)), some (.inr 2), o5], [.inr 4, .inr 2], (zr τ 21 (zu (τ 21) 10 e)))) rfl trivial ?_
        refine exq_b (P := 4 ≤ 2) (ct := (cod m8_mostPoints 62, [some (.inl 21), some (.inr x), some (.inr v), some (.inr (k : Int)), some (.inr 2), o5], [], (zr τ 21 (zu (τ 21) 10 e)))) (cf := (cod m8_mostPoints 15, [some (.inl 21), some (.inr x), some (.inr v), some (.inr (k : Int)), some (.inr 2), o5], [], (zr τ 21 (zu (τ 21) 10 e)))) rfl ⟨⟨by decide, by decide⟩, ⟨by decide, by decide⟩⟩ (fun hh => absurd hh (by decide)) (fun _ => ?_)
        refine exq_k 3 (P := none) (g := (cod m8_mostPoints 18, [some (.inl 21), some (.inr x), some (.inr v), some (.inr (k : Int)), some (.inr 2), o5], [.inr 0, .inr (k : Int), .inl 21], (zr τ 21 (zu (τ 21) 10 e)))) rfl trivial ?_
        refine exq_c (m_of (τ := (zr τ 21 (zu (τ 21) 10 e))) (f := (k : Int)) (w := 0) hI hR (by omega) (by omega)) (is := cod m8_mostPoints 19) (L := [some (.inl 21), some (.inr x), some (.inr v), some (.inr (k : Int)), some (.inr 2), o5]) (st := []) rfl rfl rfl ?_
        show Exq _ _ (cod m8_mostPoints 19, [some (.inl 21), some (.inr x), some (.inr v), some (.inr (k : Int)), some (.inr 2), o5], [.inr (cel c (0 + (k : Int) * 6 + 0))], (zr τ 21 (zu (τ 21) 10 e))) _ _
        refine exq_k 1 (P := none) (g := (cod m8_mostPoints 20, [some (.inl 21), some (.inr x), some (.inr v), some (.inr (k : Int)), some (.inr 2), o5], [.inr x, .inr (cel c (0 + (k : Int) * 6 + 0))], (zr τ 21 (zu (τ 21) 10 e)))) rfl trivial ?_
        refine exq_b (P := ¬ (cel c (0 + (k : Int) * 6 + 0)) = x) (ct := (cod m8_mostPoints 62, [some (.inl 21), some (.inr x), some (.inr v), some (.inr (k : Int)), some (.inr 2), o5], [], (zr τ 21 (zu (τ 21) 10 e)))) (cf := (cod m8_mostPoints 21, [some (.inl 21), some (.inr x), some (.inr v), some (.inr (k : Int)), some (.inr 2), o5], [], (zr τ 21 (zu (τ 21) 10 e)))) rfl ⟨⟨by omega, by omega⟩, ⟨by omega, by omega⟩⟩ (fun h2 => ?_) (fun h2 => ?_)
        · first
          | (exfalso; omega)
          | (
              refine exq_k 2 (P := none) (g := (cod m8_mostPoints 4, [some (.inl 21), some (.inr x), some (.inr v), some (.inr ((k : Int) + 1)), some (.inr 2), o5], [], (zr τ 21 (zu (τ 21) 10 e)))) rfl trivial ?_
              exact ih (k + 1) (by omega) _ _ _ _ ⟨by show _ = ite _ _ _; rw [if_pos hsx, ← hv1]; exact hst.symm, by first | omega | (split <;> omega)⟩)
        · first
          | (exfalso; omega)
          | (
              refine exq_k 3 (P := some (0 ≤ 2 ∧ 2 < 2147483648 ∧ 0 < 2 ∧ 2 < 2147483648)) (g := (cod m8_mostPoints 24, [some (.inl 21), some (.inr x), some (.inr v), some (.inr (k : Int)), some (.inr 2), o5], [.inr 0], (zr τ 21 (zu (τ 21) 10 e)))) rfl (by show 0 ≤ 2 ∧ 2 < 2147483648 ∧ 0 < 2 ∧ 2 < 2147483648; omega) ?_
              refine exq_b (P := ¬ 0 = 0) (ct := (cod m8_mostPoints 27, [some (.inl 21), some (.inr x), some (.inr v), some (.inr (k : Int)), some (.inr 2), o5], [], (zr τ 21 (zu (τ 21) 10 e)))) (cf := (cod m8_mostPoints 25, [some (.inl 21), some (.inr x), some (.inr v), some (.inr (k : Int)), some (.inr 2), o5], [], (zr τ 21 (zu (τ 21) 10 e)))) rfl ⟨by decide, by decide⟩ (fun hh => absurd hh (by decide)) (fun _ => ?_)
              refine exq_k 8 (P := some (0 ≤ 2 ∧ 2 < 2147483648 ∧ 0 < 2 ∧ 2 < 2147483648)) (g := (cod m8_mostPoints 34, [some (.inl 21), some (.inr x), some (.inr v), some (.inr (k : Int)), some (.inr 2), some (.inr 1)], [.inr 1, .inr (k : Int), .inl 21], (zr τ 21 (zu (τ 21) 10 e)))) rfl (by show 0 ≤ 2 ∧ 2 < 2147483648 ∧ 0 < 2 ∧ 2 < 2147483648; omega) ?_
              refine exq_k 1 (P := none) (g := (cod m8_mostPoints 35, [some (.inl 21), some (.inr x), some (.inr v), some (.inr (k : Int)), some (.inr 2), some (.inr 1)], [.inr 1, .inr 1, .inr (k : Int), .inl 21], (zr τ 21 (zu (τ 21) 10 e)))) rfl trivial ?_
              obtain ⟨e24, hc24⟩ := m_isCapture (τ := (zr τ 21 (zu (τ 21) 10 e))) (f := (k : Int)) (r := 1) (s := 1) hI hR (by omega) (by omega) (by omega)
              refine exq_c hc24 (is := cod m8_mostPoints 36) (L := [some (.inl 21), some (.inr x), some (.inr v), some (.inr (k : Int)), some (.inr 2), some (.inr 1)]) (st := []) rfl rfl rfl ?_
              show Exq _ _ (cod m8_mostPoints 36, [some (.inl 21), some (.inr x), some (.inr v), some (.inr (k : Int)), some (.inr 2), some (.inr 1)], [.inr (b2 (oco c (k : Int) 1 1 = 3))], (zr (zr τ 21 (zu (τ 21) 10 e)) 21 (zu (zu (τ 21) 10 e) 10 e24))) _ _
              rw [zr_zr, zu_zu]
              refine exq_b (P := (b2 (oco c (k : Int) 1 1 = 3)) = 0) (ct := (cod m8_mostPoints 60, [some (.inl 21), some (.inr x), some (.inr v), some (.inr (k : Int)), some (.inr 2), some (.inr 1)], [], (zr τ 21 (zu (τ 21) 10 e24)))) (cf := (cod m8_mostPoints 37, [some (.inl 21), some (.inr x), some (.inr v), some (.inr (k : Int)), some (.inr 2), some (.inr 1)], [], (zr τ 21 (zu (τ 21) 10 e24)))) rfl b2_rng (fun h4 => ?_) (fun h4 => ?_)
              · first
                | (exfalso; have h4 := b2_e0 h4; omega)
                | (
                    have h4 := b2_e0 h4
                    refine exq_k 2 (P := none) (g := (cod m8_mostPoints 12, [some (.inl 21), some (.inr x), some (.inr v), some (.inr (k : Int)), some (.inr 3), some (.inr 1)], [], (zr τ 21 (zu (τ 21) 10 e24)))) rfl trivial ?_
                    exact q3 hsx _ _ _ ⟨by rw [← hv1]; exact hst.symm, by first | omega | (split <;> omega)⟩)
              · first
                | (exfalso; have h4 := b2_n0 h4; omega)
                | (
                    have h4 := b2_n0 h4
                    refine exq_k 7 (P := some (0 ≤ 2 ∧ 2 < 2147483648 ∧ 0 < 2 ∧ 2 < 2147483648)) (g := (cod m8_mostPoints 44, [some (.inl 21), some (.inr x), some (.inr v), some (.inr (k : Int)), some (.inr 2), some (.inr 1)], [.inr 1, .inl 21, .inl 21, .inr 1, .inr v], (zr τ 21 (zu (τ 21) 10 e24)))) rfl (by show 0 ≤ 2 ∧ 2 < 2147483648 ∧ 0 < 2 ∧ 2 < 2147483648; omega) ?_
                    refine exq_k 6 (P := some (0 ≤ 2 ∧ 2 < 2147483648 ∧ 0 < 2 ∧ 2 < 2147483648)) (g := (cod m8_mostPoints 50, [some (.inl 21), some (.inr x), some (.inr v), some (.inr (k : Int)), some (.inr 2), some (.inr 1)], [.inr 1, .inr 1, .inr (k : Int), .inl 21, .inr 1, .inl 21, .inl 21, .inr 1, .inr v], (zr τ 21 (zu (τ 21) 10 e24)))) rfl (by show 0 ≤ 2 ∧ 2 < 2147483648 ∧ 0 < 2 ∧ 2 < 2147483648; omega) ?_
                    refine exq_k 1 (P := none) (g := (cod m8_mostPoints 51, [some (.inl 21), some (.inr x), some (.inr v), some (.inr (k : Int)), some (.inr 2), some (.inr 1)], [.inr 2, .inr (k : Int), .inl 21, .inr 1, .inl 21, .inl 21, .inr 1, .inr v], (zr τ 21 (zu (τ 21) 10 e24)))) rfl trivial ?_
                    refine exq_c (m_of (τ := (zr τ 21 (zu (τ 21) 10 e24))) (f := (k : Int)) (w := 2) hI hR (by omega) (by omega)) (is := cod m8_mostPoints 52) (L := [some (.inl 21), some (.inr x), some (.inr v), some (.inr (k : Int)), some (.inr 2), some (.inr 1)]) (st := [.inr 1, .inl 21, .inl 21, .inr 1, .inr v]) rfl rfl rfl ?_
                    show Exq _ _ (cod m8_mostPoints 52, [some (.inl 21), some (.inr x), some (.inr v), some (.inr (k : Int)), some (.inr 2), some (.inr 1)], [.inr (cel c (0 + (k : Int) * 6 + 2)), .inr 1, .inl 21, .inl 21, .inr 1, .inr v], (zr τ 21 (zu (τ 21) 10 e24))) _ _
                    refine exq_k 2 (P := none) (g := (cod m8_mostPoints 54, [some (.inl 21), some (.inr x), some (.inr v), some (.inr (k : Int)), some (.inr 2), some (.inr 1)], [.inr ((cel c (0 + (k : Int) * 6 + 2)) + 1), .inr 1, .inl 21, .inl 21, .inr 1, .inr v], (zr τ 21 (zu (τ 21) 10 e24)))) rfl trivial ?_
                    refine exq_c (m_there (τ := (zr τ 21 (zu (τ 21) 10 e24))) (r := 1) (p := (cel c (0 + (k : Int) * 6 + 2)) + 1) hI hR (by omega) (by omega)) (is := cod m8_mostPoints 55) (L := [some (.inl 21), some (.inr x), some (.inr v), some (.inr (k : Int)), some (.inr 2), some (.inr 1)]) (st := [.inl 21, .inr 1, .inr v]) rfl rfl rfl ?_
                    show Exq _ _ (cod m8_mostPoints 55, [some (.inl 21), some (.inr x), some (.inr v), some (.inr (k : Int)), some (.inr 2), some (.inr 1)], [.inr (whz c 1 ((cel c (0 + (k : Int) * 6 + 2)) + 1)), .inl 21, .inr 1, .inr v], (zr τ 21 (zu (τ 21) 10 e24))) _ _
                    refine exq_k 1 (P := none) (g := (cod m8_mostPoints 56, [some (.inl 21), some (.inr x), some (.inr v), some (.inr (k : Int)), some (.inr 2), some (.inr 1)], [.inr 3, .inr (whz c 1 ((cel c (0 + (k : Int) * 6 + 2)) + 1)), .inl 21, .inr 1, .inr v], (zr τ 21 (zu (τ 21) 10 e24)))) rfl trivial ?_
                    refine exq_c (m_of (τ := (zr τ 21 (zu (τ 21) 10 e24))) (f := whz c 1 ((cel c (0 + (k : Int) * 6 + 2)) + 1)) (w := 3) hI hR (by omega) (by omega)) (is := cod m8_mostPoints 57) (L := [some (.inl 21), some (.inr x), some (.inr v), some (.inr (k : Int)), some (.inr 2), some (.inr 1)]) (st := [.inr 1, .inr v]) rfl rfl rfl ?_
                    show Exq _ _ (cod m8_mostPoints 57, [some (.inl 21), some (.inr x), some (.inr v), some (.inr (k : Int)), some (.inr 2), some (.inr 1)], [.inr (cel c (0 + (whz c 1 ((cel c (0 + (k : Int) * 6 + 2)) + 1)) * 6 + 3)), .inr 1, .inr v], (zr τ 21 (zu (τ 21) 10 e24))) _ _
                    refine exq_k 2 (P := some (Rng v ∧ Rng (1 + (cel c (0 + (whz c 1 ((cel c (0 + (k : Int) * 6 + 2)) + 1)) * 6 + 3))))) (g := (cod m8_mostPoints 59, [some (.inl 21), some (.inr x), some (.inr v), some (.inr (k : Int)), some (.inr 2), some (.inr 1)], [.inr (if v < (1 + (cel c (0 + (whz c 1 ((cel c (0 + (k : Int) * 6 + 2)) + 1)) * 6 + 3))) then (1 + (cel c (0 + (whz c 1 ((cel c (0 + (k : Int) * 6 + 2)) + 1)) * 6 + 3))) else v)], (zr τ 21 (zu (τ 21) 10 e24)))) rfl ⟨⟨by omega, by omega⟩, ⟨by omega, by omega⟩⟩ ?_
                    refine exq_k 3 (P := none) (g := (cod m8_mostPoints 12, [some (.inl 21), some (.inr x), some (.inr (if v < (1 + (cel c (0 + (whz c 1 ((cel c (0 + (k : Int) * 6 + 2)) + 1)) * 6 + 3))) then (1 + (cel c (0 + (whz c 1 ((cel c (0 + (k : Int) * 6 + 2)) + 1)) * 6 + 3))) else v)), some (.inr (k : Int)), some (.inr 3), some (.inr 1)], [], (zr τ 21 (zu (τ 21) 10 e24)))) rfl trivial ?_
                    exact q3 hsx _ _ _ ⟨by rw [← hv1]; exact hst.symm, by first | omega | (split <;> omega)⟩))
    have q1 : cel c (0 + (k : Int) * 6 + 0) = x → ∀ (v e : Int) (o5 : Option VZ), (v = stq c (k : Int) 0 1 (mpv c x k) ∧ 0 ≤ v ∧ v ≤ 2) → Exq 5 m8_mostPoints (cod m8_mostPoints 12, [some (.inl 21), some (.inr x), some (.inr v), some (.inr (k : Int)), some (.inr 1), o5], [], (zr τ 21 (zu (τ 21) 10 e))) 0 (fun q => ∃ e, q = .inl (some (.inr (mpv c x (cel c 107).toNat)), dt τ e)) := by
      intro hsx v e o5 hv
      have hv1 := hv.1
      by_cases hcap : oco c (k : Int) 0 (-1) = 3
      · have hst : stq c (k : Int) 0 (-1) (stq c (k : Int) 0 1 (mpv c x k)) = (if stq c (k : Int) 0 1 (mpv c x k) < 1 + cel c (0 + whz c 0 (cel c (0 + (k : Int) * 6 + 1) + (-1)) * 6 + 3) then 1 + cel c (0 + whz c 0 (cel c (0 + (k : Int) * 6 + 1) + (-1)) * 6 + 3) else stq c (k : Int) 0 1 (mpv c x k)) := stq_t (m := stq c (k : Int) 0 1 (mpv c x k)) hcap
        have hqq := hq1 hcap
        rw [← hv1] at hst
        refine exq_k 2 (P := none) (g := (cod m8_mostPoints 14, [some (.inl 21), some (.inr x), some (.inr v), some (.inr (k : Int)), some (.inr 1), o5], [.inr 4, .inr 1], (zr τ 21 (zu (τ 21) 10 e)))) rfl trivial ?_
        refine exq_b (P := 4 ≤ 1) (ct := (cod m8_mostPoints 62, [some (.inl 21), some (.inr x), some (.inr v), some (.inr (k : Int)), some (.inr 1), o5], [], (zr τ 21 (zu (τ 21) 10 e)))) (cf := (cod m8_mostPoints 15, [some (.inl 21), some (.inr x), some (.inr v), some (.inr (k : Int)), some (.inr 1), o5], [], (zr τ 21 (zu (τ 21) 10 e)))) rfl ⟨⟨by decide, by decide⟩, ⟨by decide, by decide⟩⟩ (fun hh => absurd hh (by decide)) (fun _ => ?_)
        refine exq_k 3 (P := none) (g := (cod m8_mostPoints 18, [some (.inl 21), some (.inr x), some (.inr v), some (.inr (k : Int)), some (.inr 1), o5], [.inr 0, .inr (k : Int), .inl 21], (zr τ 21 (zu (τ 21) 10 e)))) rfl trivial ?_
        refine exq_c (m_of (τ := (zr τ 21 (zu (τ 21) 10 e))) (f := (k : Int)) (w := 0) hI hR (by omega) (by omega)) (is := cod m8_mostPoints 19) (L := [some (.inl 21), some (.inr x), some (.inr v), some (.inr (k : Int)), some (.inr 1), o5]) (st := []) rfl rfl rfl ?_
        show Exq _ _ (cod m8_mostPoints 19, [some (.inl 21), some (.inr x), some (.inr v), some (.inr (k : Int)), some (.inr 1), o5], [.inr (cel c (0 + (k : Int) * 6 + 0))], (zr τ 21 (zu (τ 21) 10 e))) _ _
        refine exq_k 1 (P := none) (g := (cod m8_mostPoints 20, [some (.inl 21), some (.inr x), some (.inr v), some (.inr (k : Int)), some (.inr 1), o5], [.inr x, .inr (cel c (0 + (k : Int) * 6 + 0))], (zr τ 21 (zu (τ 21) 10 e)))) rfl trivial ?_
        refine exq_b (P := ¬ (cel c (0 + (k : Int) * 6 + 0)) = x) (ct := (cod m8_mostPoints 62, [some (.inl 21), some (.inr x), some (.inr v), some (.inr (k : Int)), some (.inr 1), o5], [], (zr τ 21 (zu (τ 21) 10 e)))) (cf := (cod m8_mostPoints 21, [some (.inl 21), some (.inr x), some (.inr v), some (.inr (k : Int)), some (.inr 1), o5], [], (zr τ 21 (zu (τ 21) 10 e)))) rfl ⟨⟨by omega, by omega⟩, ⟨by omega, by omega⟩⟩ (fun h2 => ?_) (fun h2 => ?_)
        · first
          | (exfalso; omega)
          | (
              refine exq_k 2 (P := none) (g := (cod m8_mostPoints 4, [some (.inl 21), some (.inr x), some (.inr v), some (.inr ((k : Int) + 1)), some (.inr 1), o5], [], (zr τ 21 (zu (τ 21) 10 e)))) rfl trivial ?_
              exact ih (k + 1) (by omega) _ _ _ _ ⟨by show _ = ite _ _ _; rw [if_pos hsx, ← hv1]; exact hst.symm, by first | omega | (split <;> omega)⟩)
        · first
          | (exfalso; omega)
          | (
              refine exq_k 3 (P := some (0 ≤ 1 ∧ 1 < 2147483648 ∧ 0 < 2 ∧ 2 < 2147483648)) (g := (cod m8_mostPoints 24, [some (.inl 21), some (.inr x), some (.inr v), some (.inr (k : Int)), some (.inr 1), o5], [.inr 1], (zr τ 21 (zu (τ 21) 10 e)))) rfl (by show 0 ≤ 1 ∧ 1 < 2147483648 ∧ 0 < 2 ∧ 2 < 2147483648; omega) ?_
              refine exq_b (P := ¬ 1 = 0) (ct := (cod m8_mostPoints 27, [some (.inl 21), some (.inr x), some (.inr v), some (.inr (k : Int)), some (.inr 1), o5], [], (zr τ 21 (zu (τ 21) 10 e)))) (cf := (cod m8_mostPoints 25, [some (.inl 21), some (.inr x), some (.inr v), some (.inr (k : Int)), some (.inr 1), o5], [], (zr τ 21 (zu (τ 21) 10 e)))) rfl ⟨by decide, by decide⟩ (fun _ => ?_) (fun hh => absurd (by decide) hh)
              refine exq_k 7 (P := some (0 ≤ 1 ∧ 1 < 2147483648 ∧ 0 < 2 ∧ 2 < 2147483648)) (g := (cod m8_mostPoints 34, [some (.inl 21), some (.inr x), some (.inr v), some (.inr (k : Int)), some (.inr 1), some (.inr (-1))], [.inr 0, .inr (k : Int), .inl 21], (zr τ 21 (zu (τ 21) 10 e)))) rfl (by show 0 ≤ 1 ∧ 1 < 2147483648 ∧ 0 < 2 ∧ 2 < 2147483648; omega) ?_
              refine exq_k 1 (P := none) (g := (cod m8_mostPoints 35, [some (.inl 21), some (.inr x), some (.inr v), some (.inr (k : Int)), some (.inr 1), some (.inr (-1))], [.inr (-1), .inr 0, .inr (k : Int), .inl 21], (zr τ 21 (zu (τ 21) 10 e)))) rfl trivial ?_
              obtain ⟨e25, hc25⟩ := m_isCapture (τ := (zr τ 21 (zu (τ 21) 10 e))) (f := (k : Int)) (r := 0) (s := (-1)) hI hR (by omega) (by omega) (by omega)
              refine exq_c hc25 (is := cod m8_mostPoints 36) (L := [some (.inl 21), some (.inr x), some (.inr v), some (.inr (k : Int)), some (.inr 1), some (.inr (-1))]) (st := []) rfl rfl rfl ?_
              show Exq _ _ (cod m8_mostPoints 36, [some (.inl 21), some (.inr x), some (.inr v), some (.inr (k : Int)), some (.inr 1), some (.inr (-1))], [.inr (b2 (oco c (k : Int) 0 (-1) = 3))], (zr (zr τ 21 (zu (τ 21) 10 e)) 21 (zu (zu (τ 21) 10 e) 10 e25))) _ _
              rw [zr_zr, zu_zu]
              refine exq_b (P := (b2 (oco c (k : Int) 0 (-1) = 3)) = 0) (ct := (cod m8_mostPoints 60, [some (.inl 21), some (.inr x), some (.inr v), some (.inr (k : Int)), some (.inr 1), some (.inr (-1))], [], (zr τ 21 (zu (τ 21) 10 e25)))) (cf := (cod m8_mostPoints 37, [some (.inl 21), some (.inr x), some (.inr v), some (.inr (k : Int)), some (.inr 1), some (.inr (-1))], [], (zr τ 21 (zu (τ 21) 10 e25)))) rfl b2_rng (fun h4 => ?_) (fun h4 => ?_)
              · first
                | (exfalso; have h4 := b2_e0 h4; omega)
                | (
                    have h4 := b2_e0 h4
                    refine exq_k 2 (P := none) (g := (cod m8_mostPoints 12, [some (.inl 21), some (.inr x), some (.inr v), some (.inr (k : Int)), some (.inr 2), some (.inr (-1))], [], (zr τ 21 (zu (τ 21) 10 e25)))) rfl trivial ?_
                    exact q2 hsx _ _ _ ⟨by rw [← hv1]; exact hst.symm, by first | omega | (split <;> omega)⟩)
              · first
                | (exfalso; have h4 := b2_n0 h4; omega)
                | (
                    have h4 := b2_n0 h4
                    refine exq_k 7 (P := some (0 ≤ 1 ∧ 1 < 2147483648 ∧ 0 < 2 ∧ 2 < 2147483648)) (g := (cod m8_mostPoints 44, [some (.inl 21), some (.inr x), some (.inr v), some (.inr (k : Int)), some (.inr 1), some (.inr (-1))], [.inr 0, .inl 21, .inl 21, .inr 1, .inr v], (zr τ 21 (zu (τ 21) 10 e25)))) rfl (by show 0 ≤ 1 ∧ 1 < 2147483648 ∧ 0 < 2 ∧ 2 < 2147483648; omega) ?_
                    refine exq_k 6 (P := some (0 ≤ 1 ∧ 1 < 2147483648 ∧ 0 < 2 ∧ 2 < 2147483648)) (g := (cod m8_mostPoints 50, [some (.inl 21), some (.inr x), some (.inr v), some (.inr (k : Int)), some (.inr 1), some (.inr (-1))], [.inr 0, .inr 1, .inr (k : Int), .inl 21, .inr 0, .inl 21, .inl 21, .inr 1, .inr v], (zr τ 21 (zu (τ 21) 10 e25)))) rfl (by show 0 ≤ 1 ∧ 1 < 2147483648 ∧ 0 < 2 ∧ 2 < 2147483648; omega) ?_
                    refine exq_k 1 (P := none) (g := (cod m8_mostPoints 51, [some (.inl 21), some (.inr x), some (.inr v), some (.inr (k : Int)), some (.inr 1), some (.inr (-1))], [.inr 1, .inr (k : Int), .inl 21, .inr 0, .inl 21, .inl 21, .inr 1, .inr v], (zr τ 21 (zu (τ 21) 10 e25)))) rfl trivial ?_
                    refine exq_c (m_of (τ := (zr τ 21 (zu (τ 21) 10 e25))) (f := (k : Int)) (w := 1) hI hR (by omega) (by omega)) (is := cod m8_mostPoints 52) (L := [some (.inl 21), some (.inr x), some (.inr v), some (.inr (k : Int)), some (.inr 1), some (.inr (-1))]) (st := [.inr 0, .inl 21, .inl 21, .inr 1, .inr v]) rfl rfl rfl ?_
                    show Exq _ _ (cod m8_mostPoints 52, [some (.inl 21), some (.inr x), some (.inr v), some (.inr (k : Int)), some (.inr 1), some (.inr (-1))], [.inr (cel c (0 + (k : Int) * 6 + 1)), .inr 0, .inl 21, .inl 21, .inr 1, .inr v], (zr τ 21 (zu (τ 21) 10 e25))) _ _
                    refine exq_k 2 (P := none) (g := (cod m8_mostPoints 54, [some (.inl 21), some (.inr x), some (.inr v), some (.inr (k : Int)), some (.inr 1), some (.inr (-1))], [.inr ((cel c (0 + (k : Int) * 6 + 1)) + (-1)), .inr 0, .inl 21, .inl 21, .inr 1, .inr v], (zr τ 21 (zu (τ 21) 10 e25)))) rfl trivial ?_
                    refine exq_c (m_there (τ := (zr τ 21 (zu (τ 21) 10 e25))) (r := 0) (p := (cel c (0 + (k : Int) * 6 + 1)) + (-1)) hI hR (by omega) (by omega)) (is := cod m8_mostPoints 55) (L := [some (.inl 21), some (.inr x), some (.inr v), some (.inr (k : Int)), some (.inr 1), some (.inr (-1))]) (st := [.inl 21, .inr 1, .inr v]) rfl rfl rfl ?_
                    show Exq _ _ (cod m8_mostPoints 55, [some (.inl 21), some (.inr x), some (.inr v), some (.inr (k : Int)), some (.inr 1), some (.inr (-1))], [.inr (whz c 0 ((cel c (0 + (k : Int) * 6 + 1)) + (-1))), .inl 21, .inr 1, .inr v], (zr τ 21 (zu (τ 21) 10 e25))) _ _
                    refine exq_k 1 (P := none) (g := (cod m8_mostPoints 56, [some (.inl 21), some (.inr x), some (.inr v), some (.inr (k : Int)), some (.inr 1), some (.inr (-1))], [.inr 3, .inr (whz c 0 ((cel c (0 + (k : Int) * 6 + 1)) + (-1))), .inl 21, .inr 1, .inr v], (zr τ 21 (zu (τ 21) 10 e25)))) rfl trivial ?_
                    refine exq_c (m_of (τ := (zr τ 21 (zu (τ 21) 10 e25))) (f := whz c 0 ((cel c (0 + (k : Int) * 6 + 1)) + (-1))) (w := 3) hI hR (by omega) (by omega)) (is := cod m8_mostPoints 57) (L := [some (.inl 21), some (.inr x), some (.inr v), some (.inr (k : Int)), some (.inr 1), some (.inr (-1))]) (st := [.inr 1, .inr v]) rfl rfl rfl ?_
                    show Exq _ _ (cod m8_mostPoints 57, [some (.inl 21), some (.inr x), some (.inr v), some (.inr (k : Int)), some (.inr 1), some (.inr (-1))], [.inr (cel c (0 + (whz c 0 ((cel c (0 + (k : Int) * 6 + 1)) + (-1))) * 6 + 3)), .inr 1, .inr v], (zr τ 21 (zu (τ 21) 10 e25))) _ _
                    refine exq_k 2 (P := some (Rng v ∧ Rng (1 + (cel c (0 + (whz c 0 ((cel c (0 + (k : Int) * 6 + 1)) + (-1))) * 6 + 3))))) (g := (cod m8_mostPoints 59, [some (.inl 21), some (.inr x), some (.inr v), some (.inr (k : Int)), some (.inr 1), some (.inr (-1))], [.inr (if v < (1 + (cel c (0 + (whz c 0 ((cel c (0 + (k : Int) * 6 + 1)) + (-1))) * 6 + 3))) then (1 + (cel c (0 + (whz c 0 ((cel c (0 + (k : Int) * 6 + 1)) + (-1))) * 6 + 3))) else v)], (zr τ 21 (zu (τ 21) 10 e25)))) rfl ⟨⟨by omega, by omega⟩, ⟨by omega, by omega⟩⟩ ?_
                    refine exq_k 3 (P := none) (g := (cod m8_mostPoints 12, [some (.inl 21), some (.inr x), some (.inr (if v < (1 + (cel c (0 + (whz c 0 ((cel c (0 + (k : Int) * 6 + 1)) + (-1))) * 6 + 3))) then (1 + (cel c (0 + (whz c 0 ((cel c (0 + (k : Int) * 6 + 1)) + (-1))) * 6 + 3))) else v)), some (.inr (k : Int)), some (.inr 2), some (.inr (-1))], [], (zr τ 21 (zu (τ 21) 10 e25)))) rfl trivial ?_
                    exact q2 hsx _ _ _ ⟨by rw [← hv1]; exact hst.symm, by first | omega | (split <;> omega)⟩))
      · have hst : stq c (k : Int) 0 (-1) (stq c (k : Int) 0 1 (mpv c x k)) = stq c (k : Int) 0 1 (mpv c x k) := stq_f (m := stq c (k : Int) 0 1 (mpv c x k)) hcap
        rw [← hv1] at hst
        refine exq_k 2 (P := none) (g := (cod m8_mostPoints 14, [some (.inl 21), some (.inr x), some (.inr v), some (.inr (k : Int)), some (.inr 1), o5], [.inr 4, .inr 1], (zr τ 21 (zu (τ 21) 10 e)))) rfl trivial ?_
        refine exq_b (P := 4 ≤ 1) (ct := (cod m8_mostPoints 62, [some (.inl 21), some (.inr x), some (.inr v), some (.inr (k : Int)), some (.inr 1), o5], [], (zr τ 21 (zu (τ 21) 10 e)))) (cf := (cod m8_mostPoints 15, [some (.inl 21), some (.inr x), some (.inr v), some (.inr (k : Int)), some (.inr 1), o5], [], (zr τ 21 (zu (τ 21) 10 e)))) rfl ⟨⟨by decide, by decide⟩, ⟨by decide, by decide⟩⟩ (fun hh => absurd hh (by decide)) (fun _ => ?_)
        refine exq_k 3 (P := none) (g := (cod m8_mostPoints 18, [some (.inl 21), some (.inr x), some (.inr v), some (.inr (k : Int)), some (.inr 1), o5], [.inr 0, .inr (k : Int), .inl 21], (zr τ 21 (zu (τ 21) 10 e)))) rfl trivial ?_
        refine exq_c (m_of (τ := (zr τ 21 (zu (τ 21) 10 e))) (f := (k : Int)) (w := 0) hI hR (by omega) (by omega)) (is := cod m8_mostPoints 19) (L := [some (.inl 21), some (.inr x), some (.inr v), some (.inr (k : Int)), some (.inr 1), o5]) (st := []) rfl rfl rfl ?_
        show Exq _ _ (cod m8_mostPoints 19, [some (.inl 21), some (.inr x), some (.inr v), some (.inr (k : Int)), some (.inr 1), o5], [.inr (cel c (0 + (k : Int) * 6 + 0))], (zr τ 21 (zu (τ 21) 10 e))) _ _
        refine exq_k 1 (P := none) (g := (cod m8_mostPoints 20, [some (.inl 21), some (.inr x), some (.inr v), some (.inr (k : Int)), some (.inr 1), o5], [.inr x, .inr (cel c (0 + (k : Int) * 6 + 0))], (zr τ 21 (zu (τ 21) 10 e)))) rfl trivial ?_
        refine exq_b (P := ¬ (cel c (0 + (k : Int) * 6 + 0)) = x) (ct := (cod m8_mostPoints 62, [some (.inl 21), some (.inr x), some (.inr v), some (.inr (k : Int)), some (.inr 1), o5], [], (zr τ 21 (zu (τ 21) 10 e)))) (cf := (cod m8_mostPoints 21, [some (.inl 21), some (.inr x), some (.inr v), some (.inr (k : Int)), some (.inr 1), o5], [], (zr τ 21 (zu (τ 21) 10 e)))) rfl ⟨⟨by omega, by omega⟩, ⟨by omega, by omega⟩⟩ (fun h2 => ?_) (fun h2 => ?_)
        · first
          | (exfalso; omega)
          | (
              refine exq_k 2 (P := none) (g := (cod m8_mostPoints 4, [some (.inl 21), some (.inr x), some (.inr v), some (.inr ((k : Int) + 1)), some (.inr 1), o5], [], (zr τ 21 (zu (τ 21) 10 e)))) rfl trivial ?_
              exact ih (k + 1) (by omega) _ _ _ _ ⟨by show _ = ite _ _ _; rw [if_pos hsx, ← hv1]; exact hst.symm, by first | omega | (split <;> omega)⟩)
        · first
          | (exfalso; omega)
          | (
              refine exq_k 3 (P := some (0 ≤ 1 ∧ 1 < 2147483648 ∧ 0 < 2 ∧ 2 < 2147483648)) (g := (cod m8_mostPoints 24, [some (.inl 21), some (.inr x), some (.inr v), some (.inr (k : Int)), some (.inr 1), o5], [.inr 1], (zr τ 21 (zu (τ 21) 10 e)))) rfl (by show 0 ≤ 1 ∧ 1 < 2147483648 ∧ 0 < 2 ∧ 2 < 2147483648; omega) ?_
              refine exq_b (P := ¬ 1 = 0) (ct := (cod m8_mostPoints 27, [some (.inl 21), some (.inr x), some (.inr v), some (.inr (k : Int)), some (.inr 1), o5], [], (zr τ 21 (zu (τ 21) 10 e)))) (cf := (cod m8_mostPoints 25, [some (.inl 21), some (.inr x), some (.inr v), some (.inr (k : Int)), some (.inr 1), o5], [], (zr τ 21 (zu (τ 21) 10 e)))) rfl ⟨by decide, by decide⟩ (fun _ => ?_) (fun hh => absurd (by decide) hh)
              refine exq_k 7 (P := some (0 ≤ 1 ∧ 1 < 2147483648 ∧ 0 < 2 ∧ 2 < 2147483648)) (g := (cod m8_mostPoints 34, [some (.inl 21), some (.inr x), some (.inr v), some (.inr (k : Int)), some (.inr 1), some (.inr (-1))], [.inr 0, .inr (k : Int), .inl 21], (zr τ 21 (zu (τ 21) 10 e)))) rfl (by show 0 ≤ 1 ∧ 1 < 2147483648 ∧ 0 < 2 ∧ 2 < 2147483648; omega) ?_
              refine exq_k 1 (P := none) (g := (cod m8_mostPoints 35, [some (.inl 21), some (.inr x), some (.inr v), some (.inr (k : Int)), some (.inr 1), some (.inr (-1))], [.inr (-1), .inr 0, .inr (k : Int), .inl 21], (zr τ 21 (zu (τ 21) 10 e)))) rfl trivial ?_
              obtain ⟨e26, hc26⟩ := m_isCapture (τ := (zr τ 21 (zu (τ 21) 10 e))) (f := (k : Int)) (r := 0) (s := (-1)) hI hR (by omega) (by omega) (by omega)
              refine exq_c hc26 (is := cod m8_mostPoints 36) (L := [some (.inl 21), some (.inr x), some (.inr v), some (.inr (k : Int)), some (.inr 1), some (.inr (-1))]) (st := []) rfl rfl rfl ?_
              show Exq _ _ (cod m8_mostPoints 36, [some (.inl 21), some (.inr x), some (.inr v), some (.inr (k : Int)), some (.inr 1), some (.inr (-1))], [.inr (b2 (oco c (k : Int) 0 (-1) = 3))], (zr (zr τ 21 (zu (τ 21) 10 e)) 21 (zu (zu (τ 21) 10 e) 10 e26))) _ _
              rw [zr_zr, zu_zu]
              refine exq_b (P := (b2 (oco c (k : Int) 0 (-1) = 3)) = 0) (ct := (cod m8_mostPoints 60, [some (.inl 21), some (.inr x), some (.inr v), some (.inr (k : Int)), some (.inr 1), some (.inr (-1))], [], (zr τ 21 (zu (τ 21) 10 e26)))) (cf := (cod m8_mostPoints 37, [some (.inl 21), some (.inr x), some (.inr v), some (.inr (k : Int)), some (.inr 1), some (.inr (-1))], [], (zr τ 21 (zu (τ 21) 10 e26)))) rfl b2_rng (fun h4 => ?_) (fun h4 => ?_)
              · first
                | (exfalso; have h4 := b2_e0 h4; omega)
                | (
                    have h4 := b2_e0 h4
                    refine exq_k 2 (P := none) (g := (cod m8_mostPoints 12, [some (.inl 21), some (.inr x), some (.inr v), some (.inr (k : Int)), some (.inr 2), some (.inr (-1))], [], (zr τ 21 (zu (τ 21) 10 e26)))) rfl trivial ?_
                    exact q2 hsx _ _ _ ⟨by rw [← hv1]; exact hst.symm, by first | omega | (split <;> omega)⟩)
              · first
                | (exfalso; have h4 := b2_n0 h4; omega)
                | (
                    have h4 := b2_n0 h4
                    refine exq_k 7 (P := some (0 ≤ 1 ∧ 1 < 2147483648 ∧ 0 < 2 ∧ 2 < 2147483648)) (g := (cod m8_mostPoints 44, [some (.inl 21), some (.inr x), some (.inr v), some (.inr (k : Int)), some (.inr 1), some (.inr (-1))], [.inr 0, .inl 21, .inl 21, .inr 1, .inr v], (zr τ 21 (zu (τ 21) 10 e26)))) rfl (by show 0 ≤ 1 ∧ 1 < 2147483648 ∧ 0 < 2 ∧ 2 < 2147483648; omega) ?_
                    refine exq_k 6 (P := some (0 ≤ 1 ∧ 1 < 2147483648 ∧ 0 < 2 ∧ 2 < 2147483648)) (g := (cod m8_mostPoints 50, [some (.inl 21), some (.inr x), some (.inr v), some (.inr (k : Int)), some (.inr 1), some (.inr (-1))], [.inr 0, .inr 1, .inr (k : Int), .inl 21, .inr 0, .inl 21, .inl 21, .inr 1, .inr v], (zr τ 21 (zu (τ 21) 10 e26)))) rfl (by show 0 ≤ 1 ∧ 1 < 2147483648 ∧ 0 < 2 ∧ 2 < 2147483648; omega) ?_
                    refine exq_k 1 (P := none) (g := (cod m8_mostPoints 51, [some (.inl 21), some (.inr x), some (.inr v), some (.inr (k : Int)), some (.inr 1), some (.inr (-1))], [.inr 1, .inr (k : Int), .inl 21, .inr 0, .inl 21, .inl 21, .inr 1, .inr v], (zr τ 21 (zu (τ 21) 10 e26)))) rfl trivial ?_
                    refine exq_c (m_of (τ := (zr τ 21 (zu (τ 21) 10 e26))) (f := (k : Int)) (w := 1) hI hR (by omega) (by omega)) (is := cod m8_mostPoints 52) (L := [some (.inl 21), some (.inr x), some (.inr v), some (.inr (k : Int)), some (.inr 1), some (.inr (-1))]) (st := [.inr 0, .inl 21, .inl 21, .inr 1, .inr v]) rfl rfl rfl ?_
                    show Exq _ _ (cod m8_mostPoints 52, [some (.inl 21), some (.inr x), some (.inr v), some (.inr (k : Int)), some (.inr 1), some (.inr (-1))], [.inr (cel c (0 + (k : Int) * 6 + 1)), .inr 0, .inl 21, .inl 21, .inr 1, .inr v], (zr τ 21 (zu (τ 21) 10 e26))) _ _
                    refine exq_k 2 (P := none) (g := (cod m8_mostPoints 54, [some (.inl 21), some (.inr x), some (.inr v), some (.inr (k : Int)), some (.inr 1), some (.inr (-1))], [.inr ((cel c (0 + (k : Int) * 6 + 1)) + (-1)), .inr 0, .inl 21, .inl 21, .inr 1, .inr v], (zr τ 21 (zu (τ 21) 10 e26)))) rfl trivial ?_
                    refine exq_c (m_there (τ := (zr τ 21 (zu (τ 21) 10 e26))) (r := 0) (p := (cel c (0 + (k : Int) * 6 + 1)) + (-1)) hI hR (by omega) (by omega)) (is := cod m8_mostPoints 55) (L := [some (.inl 21), some (.inr x), some (.inr v), some (.inr (k : Int)), some (.inr 1), some (.inr (-1))]) (st := [.inl 21, .inr 1, .inr v]) rfl rfl rfl ?_
                    show Exq _ _ (cod m8_mostPoints 55, [some (.inl 21), some (.inr x), some (.inr v), some (.inr (k : Int)), some (.inr 1), some (.inr (-1))], [.inr (whz c 0 ((cel c (0 + (k : Int) * 6 + 1)) + (-1))), .inl 21, .inr 1, .inr v], (zr τ 21 (zu (τ 21) 10 e26))) _ _
                    refine exq_k 1 (P := none) (g := (cod m8_mostPoints 56, [some (.inl 21), some (.inr x), some (.inr v), some (.inr (k : Int)), some (.inr 1), some (.inr (-1))], [.inr 3, .inr (whz c 0 ((cel c (0 + (k : Int) * 6 + 1)) + (-1))), .inl 21, .inr 1, .inr v], (zr τ 21 (zu (τ 21) 10 e26)))) rfl trivial ?_
                    refine exq_c (m_of (τ := (zr τ 21 (zu (τ 21) 10 e26))) (f := whz c 0 ((cel c (0 + (k : Int) * 6 + 1)) + (-1))) (w := 3) hI hR (by omega) (by omega)) (is := cod m8_mostPoints 57) (L := [some (.inl 21), some (.inr x), some (.inr v), some (.inr (k : Int)), some (.inr 1), some (.inr (-1))]) (st := [.inr 1, .inr v]) rfl rfl rfl ?_
                    show Exq _ _ (cod m8_mostPoints 57, [some (.inl 21), some (.inr x), some (.inr v), some (.inr (k : Int)), some (.inr 1), some (.inr (-1))], [.inr (cel c (0 + (whz c 0 ((cel c (0 + (k : Int) * 6 + 1)) + (-1))) * 6 + 3)), .inr 1, .inr v], (zr τ 21 (zu (τ 21) 10 e26))) _ _
                    refine exq_k 2 (P := some (Rng v ∧ Rng (1 + (cel c (0 + (whz c 0 ((cel c (0 + (k : Int) * 6 + 1)) + (-1))) * 6 + 3))))) (g := (cod m8_mostPoints 59, [some (.inl 21), some (.inr x), some (.inr v), some (.inr (k : Int)), some (.inr 1), some (.inr (-1))], [.inr (if v < (1 + (cel c (0 + (whz c 0 ((cel c (0 + (k : Int) * 6 + 1)) + (-1))) * 6 + 3))) then (1 + (cel c (0 + (whz c 0 ((cel c (0 + (k : Int) * 6 + 1)) + (-1))) * 6 + 3))) else v)], (zr τ 21 (zu (τ 21) 10 e26)))) rfl ⟨⟨by omega, by omega⟩, ⟨by omega, by omega⟩⟩ ?_
                    refine exq_k 3 (P := none) (g := (cod m8_mostPoints 12, [some (.inl 21), some (.inr x), some (.inr (if v < (1 + (cel c (0 + (whz c 0 ((cel c (0 + (k : Int) * 6 + 1)) + (-1))) * 6 + 3))) then (1 + (cel c (0 + (whz c 0 ((cel c (0 + (k : Int) * 6 + 1)) + (-1))) * 6 + 3))) else v)), some (.inr (k : Int)), some (.inr 2), some (.inr (-1))], [], (zr τ 21 (zu (τ 21) 10 e26)))) rfl trivial ?_
                    exact q2 hsx _ _ _ ⟨by rw [← hv1]; exact hst.symm, by first | omega | (split <;> omega)⟩))
    have q0 : cel c (0 + (k : Int) * 6 + 0) = x → ∀ (v e : Int) (o5 : Option VZ), (v = mpv c x k ∧ 0 ≤ v ∧ v ≤ 2) → Exq 5 m8_mostPoints (cod m8_mostPoints 12, [some (.inl 21), some (.inr x), some (.inr v), some (.inr (k : Int)), some (.inr 0), o5], [], (zr τ 21 (zu (τ 21) 10 e))) 0 (fun q => ∃ e, q = .inl (some (.inr (mpv c x (cel c 107).toNat)), dt τ e)) := by
      intro hsx v e o5 hv
      have hv1 := hv.1
      by_cases hcap : oco c (k : Int) 0 1 = 3
      · have hst : stq c (k : Int) 0 1 (mpv c x k) = (if mpv c x k < 1 + cel c (0 + whz c 0 (cel c (0 + (k : Int) * 6 + 1) + 1) * 6 + 3) then 1 + cel c (0 + whz c 0 (cel c (0 + (k : Int) * 6 + 1) + 1) * 6 + 3) else mpv c x k) := stq_t (m := mpv c x k) hcap
        have hqq := hq0 hcap
        rw [← hv1] at hst
        refine exq_k 2 (P := none) (g := (cod m8_mostPoints 14, [some (.inl 21), some (.inr x), some (.inr v), some (.inr (k : Int)), some (.inr 0), o5], [.inr 4, .inr 0], (zr τ 21 (zu (τ 21) 10 e)))) rfl trivial ?_
        refine exq_b (P := 4 ≤ 0) (ct := (cod m8_mostPoints 62, [some (.inl 21), some (.inr x), some (.inr v), some (.inr (k : Int)), some (.inr 0), o5], [], (zr τ 21 (zu (τ 21) 10 e)))) (cf := (cod m8_mostPoints 15, [some (.inl 21), some (.inr x), some (.inr v), some (.inr (k : Int)), some (.inr 0), o5], [], (zr τ 21 (zu (τ 21) 10 e)))) rfl ⟨⟨by decide, by decide⟩, ⟨by decide, by decide⟩⟩ (fun hh => absurd hh (by decide)) (fun _ => ?_)
        refine exq_k 3 (P := none) (g := (cod m8_mostPoints 18, [some (.inl 21), some (.inr x), some (.inr v), some (.inr (k : Int)), some (.inr 0), o5], [.inr 0, .inr (k : Int), .inl 21], (zr τ 21 (zu (τ 21) 10 e)))) rfl trivial ?_
        refine exq_c (m_of (τ := (zr τ 21 (zu (τ 21) 10 e))) (f := (k : Int)) (w := 0) hI hR (by omega) (by omega)) (is := cod m8_mostPoints 19) (L := [some (.inl 21), some (.inr x), some (.inr v), some (.inr (k : Int)), some (.inr 0), o5]) (st := []) rfl rfl rfl ?_
        show Exq _ _ (cod m8_mostPoints 19, [some (.inl 21), some (.inr x), some (.inr v), some (.inr (k : Int)), some (.inr 0), o5], [.inr (cel c (0 + (k : Int) * 6 + 0))], (zr τ 21 (zu (τ 21) 10 e))) _ _
        refine exq_k 1 (P := none) (g := (cod m8_mostPoints 20, [some (.inl 21), some (.inr x), some (.inr v), some (.inr (k : Int)), some (.inr 0), o5], [.inr x, .inr (cel c (0 + (k : Int) * 6 + 0))], (zr τ 21 (zu (τ 21) 10 e)))) rfl trivial ?_
        refine exq_b (P := ¬ (cel c (0 + (k : Int) * 6 + 0)) = x) (ct := (cod m8_mostPoints 62, [some (.inl 21), some (.inr x), some (.inr v), some (.inr (k : Int)), some (.inr 0), o5], [], (zr τ 21 (zu (τ 21) 10 e)))) (cf := (cod m8_mostPoints 21, [some (.inl 21), some (.inr x), some (.inr v), some (.inr (k : Int)), some (.inr 0), o5], [], (zr τ 21 (zu (τ 21) 10 e)))) rfl ⟨⟨by omega, by omega⟩, ⟨by omega, by omega⟩⟩ (fun h2 => ?_) (fun h2 => ?_)
        · first
          | (exfalso; omega)
          | (
              refine exq_k 2 (P := none) (g := (cod m8_mostPoints 4, [some (.inl 21), some (.inr x), some (.inr v), some (.inr ((k : Int) + 1)), some (.inr 0), o5], [], (zr τ 21 (zu (τ 21) 10 e)))) rfl trivial ?_
              exact ih (k + 1) (by omega) _ _ _ _ ⟨by show _ = ite _ _ _; rw [if_pos hsx, ← hv1]; exact hst.symm, by first | omega | (split <;> omega)⟩)
        · first
          | (exfalso; omega)
          | (
              refine exq_k 3 (P := some (0 ≤ 0 ∧ 0 < 2147483648 ∧ 0 < 2 ∧ 2 < 2147483648)) (g := (cod m8_mostPoints 24, [some (.inl 21), some (.inr x), some (.inr v), some (.inr (k : Int)), some (.inr 0), o5], [.inr 0], (zr τ 21 (zu (τ 21) 10 e)))) rfl (by show 0 ≤ 0 ∧ 0 < 2147483648 ∧ 0 < 2 ∧ 2 < 2147483648; omega) ?_
              refine exq_b (P := ¬ 0 = 0) (ct := (cod m8_mostPoints 27, [some (.inl 21), some (.inr x), some (.inr v), some (.inr (k : Int)), some (.inr 0), o5], [], (zr τ 21 (zu (τ 21) 10 e)))) (cf := (cod m8_mostPoints 25, [some (.inl 21), some (.inr x), some (.inr v), some (.inr (k : Int)), some (.inr 0), o5], [], (zr τ 21 (zu (τ 21) 10 e)))) rfl ⟨by decide, by decide⟩ (fun hh => absurd hh (by decide)) (fun _ => ?_)
              refine exq_k 8 (P := some (0 ≤ 0 ∧ 0 < 2147483648 ∧ 0 < 2 ∧ 2 < 2147483648)) (g := (cod m8_mostPoints 34, [some (.inl 21), some (.inr x), some (.inr v), some (.inr (k : Int)), some (.inr 0), some (.inr 1)], [.inr 0, .inr (k : Int), .inl 21], (zr τ 21 (zu (τ 21) 10 e)))) rfl (by show 0 ≤ 0 ∧ 0 < 2147483648 ∧ 0 < 2 ∧ 2 < 2147483648; omega) ?_
              refine exq_k 1 (P := none) (g := (cod m8_mostPoints 35, [some (.inl 21), some (.inr x), some (.inr v), some (.inr (k : Int)), some (.inr 0), some (.inr 1)], [.inr 1, .inr 0, .inr (k : Int), .inl 21], (zr τ 21 (zu (τ 21) 10 e)))) rfl trivial ?_
              obtain ⟨e27, hc27⟩ := m_isCapture (τ := (zr τ 21 (zu (τ 21) 10 e))) (f := (k : Int)) (r := 0) (s := 1) hI hR (by omega) (by omega) (by omega)
              refine exq_c hc27 (is := cod m8_mostPoints 36) (L := [some (.inl 21), some (.inr x), some (.inr v), some (.inr (k : Int)), some (.inr 0), some (.inr 1)]) (st := []) rfl rfl rfl ?_
              show Exq _ _ (cod m8_mostPoints 36, [some (.inl 21), some (.inr x), some (.inr v), some (.inr (k : Int)), some (.inr 0), some (.inr 1)], [.inr (b2 (oco c (k : Int) 0 1 = 3))], (zr (zr τ 21 (zu (τ 21) 10 e)) 21 (zu (zu (τ 21) 10 e) 10 e27))) _ _
              rw [zr_zr, zu_zu]
              refine exq_b (P := (b2 (oco c (k : Int) 0 1 = 3)) = 0) (ct := (cod m8_mostPoints 60, [some (.inl 21), some (.inr x), some (.inr v), some (.inr (k : Int)), some (.inr 0), some (.inr 1)], [], (zr τ 21 (zu (τ 21) 10 e27)))) (cf := (cod m8_mostPoints 37, [some (.inl 21), some (.inr x), some (.inr v), some (.inr (k : Int)), some (.inr 0), some (.inr 1)], [], (zr τ 21 (zu (τ 21) 10 e27)))) rfl b2_rng (fun h4 => ?_) (fun h4 => ?_)
              · first
                | (exfalso; have h4 := b2_e0 h4; omega)
                | (
                    have h4 := b2_e0 h4
                    refine exq_k 2 (P := none) (g := (cod m8_mostPoints 12, [some (.inl 21), some (.inr x), some (.inr v), some (.inr (k : Int)), some (.inr 1), some (.inr 1)], [], (zr τ 21 (zu (τ 21) 10 e27)))) rfl trivial ?_
                    exact q1 hsx _ _ _ ⟨by rw [← hv1]; exact hst.symm, by first | omega | (split <;> omega)⟩)
              · first
                | (exfalso; have h4 := b2_n0 h4; omega)
                | (
                    have h4 := b2_n0 h4
                    refine exq_k 7 (P := some (0 ≤ 0 ∧ 0 < 2147483648 ∧ 0 < 2 ∧ 2 < 2147483648)) (g := (cod m8_mostPoints 44, [some (.inl 21), some (.inr x), some (.inr v), some (.inr (k : Int)), some (.inr 0), some (.inr 1)], [.inr 0, .inl 21, .inl 21, .inr 1, .inr v], (zr τ 21 (zu (τ 21) 10 e27)))) rfl (by show 0 ≤ 0 ∧ 0 < 2147483648 ∧ 0 < 2 ∧ 2 < 2147483648; omega) ?_
                    refine exq_k 6 (P := some (0 ≤ 0 ∧ 0 < 2147483648 ∧ 0 < 2 ∧ 2 < 2147483648)) (g := (cod m8_mostPoints 50, [some (.inl 21), some (.inr x), some (.inr v), some (.inr (k : Int)), some (.inr 0), some (.inr 1)], [.inr 0, .inr 1, .inr (k : Int), .inl 21, .inr 0, .inl 21, .inl 21, .inr 1, .inr v], (zr τ 21 (zu (τ 21) 10 e27)))) rfl (by show 0 ≤ 0 ∧ 0 < 2147483648 ∧ 0 < 2 ∧ 2 < 2147483648; omega) ?_
                    refine exq_k 1 (P := none) (g := (cod m8_mostPoints 51, [some (.inl 21), some (.inr x), some (.inr v), some (.inr (k : Int)), some (.inr 0), some (.inr 1)], [.inr 1, .inr (k : Int), .inl 21, .inr 0, .inl 21, .inl 21, .inr 1, .inr v], (zr τ 21 (zu (τ 21) 10 e27)))) rfl trivial ?_
                    refine exq_c (m_of (τ := (zr τ 21 (zu (τ 21) 10 e27))) (f := (k : Int)) (w := 1) hI hR (by omega) (by omega)) (is := cod m8_mostPoints 52) (L := [some (.inl 21), some (.inr x), some (.inr v), some (.inr (k : Int)), some (.inr 0), some (.inr 1)]) (st := [.inr 0, .inl 21, .inl 21, .inr 1, .inr v]) rfl rfl rfl ?_
                    show Exq _ _ (cod m8_mostPoints 52, [some (.inl 21), some (.inr x), some (.inr v), some (.inr (k : Int)), some (.inr 0), some (.inr 1)], [.inr (cel c (0 + (k : Int) * 6 + 1)), .inr 0, .inl 21, .inl 21, .inr 1, .inr v], (zr τ 21 (zu (τ 21) 10 e27))) _ _
                    refine exq_k 2 (P := none) (g := (cod m8_mostPoints 54, [some (.inl 21), some (.inr x), some (.inr v), some (.inr (k : Int)), some (.inr 0), some (.inr 1)], [.inr ((cel c (0 + (k : Int) * 6 + 1)) + 1), .inr 0, .inl 21, .inl 21, .inr 1, .inr v], (zr τ 21 (zu (τ 21) 10 e27)))) rfl trivial ?_
                    refine exq_c (m_there (τ := (zr τ 21 (zu (τ 21) 10 e27))) (r := 0) (p := (cel c (0 + (k : Int) * 6 + 1)) + 1) hI hR (by omega) (by omega)) (is := cod m8_mostPoints 55) (L := [some (.inl 21), some (.inr x), some (.inr v), some (.inr (k : Int)), some (.inr 0), some (.inr 1)]) (st := [.inl 21, .inr 1, .inr v]) rfl rfl rfl ?_
                    show Exq _ _ (cod m8_mostPoints 55, [some (.inl 21), some (.inr x), some (.inr v), some (.inr (k : Int)), some (.inr 0), some (.inr 1)], [.inr (whz c 0 ((cel c (0 + (k : Int) * 6 + 1)) + 1)), .inl 21, .inr 1, .inr v], (zr τ 21 (zu (τ 21) 10 e27))) _ _
                    refine exq_k 1 (P := none) (g := (cod m8_mostPoints 56, [some (.inl 21), some (.inr x), some (.inr v), some (.inr (k : Int)), some (.inr 0), some (.inr 1)], [.inr 3, .inr (whz c 0 ((cel c (0 + (k : Int) * 6 + 1)) + 1)), .inl 21, .inr 1, .inr v], (zr τ 21 (zu (τ 21) 10 e27)))) rfl trivial ?_
                    refine exq_c (m_of (τ := (zr τ 21 (zu (τ 21) 10 e27))) (f := whz c 0 ((cel c (0 + (k : Int) * 6 + 1)) + 1)) (w := 3) hI hR (by omega) (by omega)) (is := cod m8_mostPoints 57) (L := [some (.inl 21), some (.inr x), some (.inr v), some (.inr (k : Int)), some (.inr 0), some (.inr 1)]) (st := [.inr 1, .inr v]) rfl rfl rfl ?_
                    show Exq _ _ (cod m8_mostPoints 57, [some (.inl 21), some (.inr x), some (.inr v), some (.inr (k : Int)), some (.inr 0), some (.inr 1)], [.inr (cel c (0 + (whz c 0 ((cel c (0 + (k : Int) * 6 + 1)) + 1)) * 6 + 3)), .inr 1, .inr v], (zr τ 21 (zu (τ 21) 10 e27))) _ _
                    refine exq_k 2 (P := some (Rng v ∧ Rng (1 + (cel c (0 + (whz c 0 ((cel c (0 + (k : Int) * 6 + 1)) + 1)) * 6 + 3))))) (g := (cod m8_mostPoints 59, [some (.inl 21), some (.inr x), some (.inr v), some (.inr (k : Int)), some (.inr 0), some (.inr 1)], [.inr (if v < (1 + (cel c (0 + (whz c 0 ((cel c (0 + (k : Int) * 6 + 1)) + 1)) * 6 + 3))) then (1 + (cel c (0 + (whz c 0 ((cel c (0 + (k : Int) * 6 + 1)) + 1)) * 6 + 3))) else v)], (zr τ 21 (zu (τ 21) 10 e27)))) rfl ⟨⟨by omega, by omega⟩, ⟨by omega, by omega⟩⟩ ?_
                    refine exq_k 3 (P := none) (g := (cod m8_mostPoints 12, [some (.inl 21), some (.inr x), some (.inr (if v < (1 + (cel c (0 + (whz c 0 ((cel c (0 + (k : Int) * 6 + 1)) + 1)) * 6 + 3))) then (1 + (cel c (0 + (whz c 0 ((cel c (0 + (k : Int) * 6 + 1)) + 1)) * 6 + 3))) else v)), some (.inr (k : Int)), some (.inr 1), some (.inr 1)], [], (zr τ 21 (zu (τ 21) 10 e27)))) rfl trivial ?_
                    exact q1 hsx _ _ _ ⟨by rw [← hv1]; exact hst.symm, by first | omega | (split <;> omega)⟩))
      · have hst : stq c (k : Int) 0 1 (mpv c x k) = mpv c x k := stq_f (m := mpv c x k) hcap
        rw [← hv1] at hst
        refine exq_k 2 (P := none) (g := (cod m8_mostPoints 14, [some (.inl 21), some (.inr x), some (.inr v), some (.inr (k : Int)), some (.inr 0), o5], [.inr 4, .inr 0], (zr τ 21 (zu (τ 21) 10 e)))) rfl trivial ?_
        refine exq_b (P := 4 ≤ 0) (ct := (cod m8_mostPoints 62, [some (.inl 21), some (.inr x), some (.inr v), some (.inr (k : Int)), some (.inr 0), o5], [], (zr τ 21 (zu (τ 21) 10 e)))) (cf := (cod m8_mostPoints 15, [some (.inl 21), some (.inr x), some (.inr v), some (.inr (k : Int)), some (.inr 0), o5], [], (zr τ 21 (zu (τ 21) 10 e)))) rfl ⟨⟨by decide, by decide⟩, ⟨by decide, by decide⟩⟩ (fun hh => absurd hh (by decide)) (fun _ => ?_)
        refine exq_k 3 (P := none) (g := (cod m8_mostPoints 18, [some (.inl 21), some (.inr x), some (.inr v), some (.inr (k : Int)), some (.inr 0), o5], [.inr 0, .inr (k : Int), .inl 21], (zr τ 21 (zu (τ 21) 10 e)))) rfl trivial ?_
        refine exq_c (m_of (τ := (zr τ 21 (zu (τ 21) 10 e))) (f := (k : Int)) (w := 0) hI hR (by omega) (by omega)) (is := cod m8_mostPoints 19) (L := [some (.inl 21), some (.inr x), some (.inr v), some (.inr (k : Int)), some (.inr 0), o5]) (st := []) rfl rfl rfl ?_
        show Exq _ _ (cod m8_mostPoints 19, [some (.inl 21), some (.inr x), some (.inr v), some (.inr (k : Int)), some (.inr 0), o5], [.inr (cel c (0 + (k : Int) * 6 + 0))], (zr τ 21 (zu (τ 21) 10 e))) _ _
        refine exq_k 1 (P := none) (g := (cod m8_mostPoints 20, [some (.inl 21), some (.inr x), some (.inr v), some (.inr (k : Int)), some (.inr 0), o5], [.inr x, .inr (cel c (0 + (k : Int) * 6 + 0))], (zr τ 21 (zu (τ 21) 10 e)))) rfl trivial ?_
        refine exq_b (P := ¬ (cel c (0 + (k : Int) * 6 + 0)) = x) (ct := (cod m8_mostPoints 62, [some (.inl 21), some (.inr x), some (.inr v), some (.inr (k : Int)), some (.inr 0), o5], [], (zr τ 21 (zu (τ 21) 10 e)))) (cf := (cod m8_mostPoints 21, [some (.inl 21), some (.inr x), some (.inr v), some (.inr (k : Int)), some (.inr 0), o5], [], (zr τ 21 (zu (τ 21) 10 e)))) rfl ⟨⟨by omega, by omega⟩, ⟨by omega, by omega⟩⟩ (fun h2 => ?_) (fun h2 => ?_)
        · first
          | (exfalso; omega)
          | (
              refine exq_k 2 (P := none) (g := (cod m8_mostPoints 4, [some (.inl 21), some (.inr x), some (.inr v), some (.inr ((k : Int) + 1)), some (.inr 0), o5], [], (zr τ 21 (zu (τ 21) 10 e)))) rfl trivial ?_
              exact ih (k + 1) (by omega) _ _ _ _ ⟨by show _ = ite _ _ _; rw [if_pos hsx, ← hv1]; exact hst.symm, by first | omega | (split <;> omega)⟩)
        · first
          | (exfalso; omega)
          | (
              refine exq_k 3 (P := some (0 ≤ 0 ∧ 0 < 2147483648 ∧ 0 < 2 ∧ 2 < 2147483648)) (g := (cod m8_mostPoints 24, [some (.inl 21), some (.inr x), some (.inr v), some (.inr (k : Int)), some (.inr 0), o5], [.inr 0], (zr τ 21 (zu (τ 21) 10 e)))) rfl (by show 0 ≤ 0 ∧ 0 < 2147483648 ∧ 0 < 2 ∧ 2 < 2147483648; omega) ?_
              refine exq_b (P := ¬ 0 = 0) (ct := (cod m8_mostPoints 27, [some (.inl 21), some (.inr x), some (.inr v), some (.inr (k : Int)), some (.inr 0), o5], [], (zr τ 21 (zu (τ 21) 10 e)))) (cf := (cod m8_mostPoints 25, [some (.inl 21), some (.inr x), some (.inr v), some (.inr (k : Int)), some (.inr 0), o5], [], (zr τ 21 (zu (τ 21) 10 e)))) rfl ⟨by decide, by decide⟩ (fun hh => absurd hh (by decide)) (fun _ => ?_)
              refine exq_k 8 (P := some (0 ≤ 0 ∧ 0 < 2147483648 ∧ 0 < 2 ∧ 2 < 2147483648)) (g := (cod m8_mostPoints 34, [some (.inl 21), some (.inr x), some (.inr v), some (.inr (k : Int)), some (.inr 0), some (.inr 1)], [.inr 0, .inr (k : Int), .inl 21], (zr τ 21 (zu (τ 21) 10 e)))) rfl (by show 0 ≤ 0 ∧ 0 < 2147483648 ∧ 0 < 2 ∧ 2 < 2147483648; omega) ?_
              refine exq_k 1 (P := none) (g := (cod m8_mostPoints 35, [some (.inl 21), some (.inr x), some (.inr v), some (.inr (k : Int)), some (.inr 0), some (.inr 1)], [.inr 1, .inr 0, .inr (k : Int), .inl 21], (zr τ 21 (zu (τ 21) 10 e)))) rfl trivial ?_
              obtain ⟨e28, hc28⟩ := m_isCapture (τ := (zr τ 21 (zu (τ 21) 10 e))) (f := (k : Int)) (r := 0) (s := 1) hI hR (by omega) (by omega) (by omega)
              refine exq_c hc28 (is := cod m8_mostPoints 36) (L := [some (.inl 21), some (.inr x), some (.inr v), some (.inr (k : Int)), some (.inr 0), some (.inr 1)]) (st := []) rfl rfl rfl ?_
              show Exq _ _ (cod m8_mostPoints 36, [some (.inl 21), some (.inr x), some (.inr v), some (.inr (k : Int)), some (.inr 0), some (.inr 1)], [.inr (b2 (oco c (k : Int) 0 1 = 3))], (zr (zr τ 21 (zu (τ 21) 10 e)) 21 (zu (zu (τ 21) 10 e) 10 e28))) _ _
              rw [zr_zr, zu_zu]
              refine exq_b (P := (b2 (oco c (k : Int) 0 1 = 3)) = 0) (ct := (cod m8_mostPoints 60, [some (.inl 21), some (.inr x), some (.inr v), some (.inr (k : Int)), some (.inr 0), some (.inr 1)], [], (zr τ 21 (zu (τ 21) 10 e28)))) (cf := (cod m8_mostPoints 37, [some (.inl 21), some (.inr x), some (.inr v), some (.inr (k : Int)), some (.inr 0), some (.inr 1)], [], (zr τ 21 (zu (τ 21) 10 e28)))) rfl b2_rng (fun h4 => ?_) (fun h4 => ?_)
              · first
                | (exfalso; have h4 := b2_e0 h4; omega)
                | (
                    have h4 := b2_e0 h4
                    refine exq_k 2 (P := none) (g := (cod m8_mostPoints 12, [some (.inl 21), some (.inr x), some (.inr v), some (.inr (k : Int)), some (.inr 1), some (.inr 1)], [], (zr τ 21 (zu (τ 21) 10 e28)))) rfl trivial ?_
                    exact q1 hsx _ _ _ ⟨by rw [← hv1]; exact hst.symm, by first | omega | (split <;> omega)⟩)
              · first
                | (exfalso; have h4 := b2_n0 h4; omega)
                | (
                    have h4 := b2_n0 h4
                    refine exq_k 7 (P := some (0 ≤ 0 ∧ 0 < 2147483648 ∧ 0 < 2 ∧ 2 < 2147483648)) (g := (cod m8_mostPoints 44, [some (.inl 21), some (.inr x), some (.inr v), some (.inr (k : Int)), some (.inr 0), some (.inr 1)], [.inr 0, .inl 21, .inl 21, .inr 1, .inr v], (zr τ 21 (zu (τ 21) 10 e28)))) rfl (by show 0 ≤ 0 ∧ 0 < 2147483648 ∧ 0 < 2 ∧ 2 < 2147483648; omega) ?_
                    refine exq_k 6 (P := some (0 ≤ 0 ∧ 0 < 2147483648 ∧ 0 < 2 ∧ 2 < 2147483648)) (g := (cod m8_mostPoints 50, [some (.inl 21), some (.inr x), some (.inr v), some (.inr (k : Int)), some (.inr 0), some (.inr 1)], [.inr 0, .inr 1, .inr (k : Int), .inl 21, .inr 0, .inl 21, .inl 21, .inr 1, .inr v], (zr τ 21 (zu (τ 21) 10 e28)))) rfl (by show 0 ≤ 0 ∧ 0 < 2147483648 ∧ 0 < 2 ∧ 2 < 2147483648; omega) ?_
                    refine exq_k 1 (P := none) (g := (cod m8_mostPoints 51, [some (.inl 21), some (.inr x), some (.inr v), some (.inr (k : Int)), some (.inr 0), some (.inr 1)], [.inr 1, .inr (k : Int), .inl 21, .inr 0, .inl 21, .inl 21, .inr 1, .inr v], (zr τ 21 (zu (τ 21) 10 e28)))) rfl trivial ?_
                    refine exq_c (m_of (τ := (zr τ 21 (zu (τ 21) 10 e28))) (f := (k : Int)) (w := 1) hI hR (by omega) (by omega)) (is := cod m8_mostPoints 52) (L := [some (.inl 21), some (.inr x), some (.inr v), some (.inr (k : Int)), some (.inr 0), some (.inr 1)]) (st := [.inr 0, .inl 21, .inl 21, .inr 1, .inr v]) rfl rfl rfl ?_
                    show Exq _ _ (cod m8_mostPoints 52, [some (.inl 21), some (.inr x), some (.inr v), some (.inr (k : Int)), some (.inr 0), some (.inr 1)], [.inr (cel c (0 + (k : Int) * 6 + 1)), .inr 0, .inl 21, .inl 21, .inr 1, .inr v], (zr τ 21 (zu (τ 21) 10 e28))) _ _
                    refine exq_k 2 (P := none) (g := (cod m8_mostPoints 54, [some (.inl 21), some (.inr x), some (.inr v), some (.inr (k : Int)), some (.inr 0), some (.inr 1)], [.inr ((cel c (0 + (k : Int) * 6 + 1)) + 1), .inr 0, .inl 21, .inl 21, .inr 1, .inr v], (zr τ 21 (zu (τ 21) 10 e28)))) rfl trivial ?_
                    refine exq_c (m_there (τ := (zr τ 21 (zu (τ 21) 10 e28))) (r := 0) (p := (cel c (0 + (k : Int) * 6 + 1)) + 1) hI hR (by omega) (by omega)) (is := cod m8_mostPoints 55) (L := [some (.inl 21), some (.inr x), some (.inr v), some (.inr (k : Int)), some (.inr 0), some (.inr 1)]) (st := [.inl 21, .inr 1, .inr v]) rfl rfl rfl ?_
                    show Exq _ _ (cod m8_mostPoints 55, [some (.inl 21), some (.inr x), some (.inr v), some (.inr (k : Int)), some (.inr 0), some (.inr 1)], [.inr (whz c 0 ((cel c (0 + (k : Int) * 6 + 1)) + 1)), .inl 21, .inr 1, .inr v], (zr τ 21 (zu (τ 21) 10 e28))) _ _
                    refine exq_k 1 (P := none) (g := (cod m8_mostPoints 56, [some (.inl 21), some (.inr x), some (.inr v), some (.inr (k : Int)), some (.inr 0), some (.inr 1)], [.inr 3, .inr (whz c 0 ((cel c (0 + (k : Int) * 6 + 1)) + 1)), .inl 21, .inr 1, .inr v], (zr τ 21 (zu (τ 21) 10 e28)))) rfl trivial ?_
                    refine exq_c (m_of (τ := (zr τ 21 (zu (τ 21) 10 e28))) (f := whz c 0 ((cel c (0 + (k : Int) * 6 + 1)) + 1)) (w := 3) hI hR (by omega) (by omega)) (is := cod m8_mostPoints 57) (L := [some (.inl 21), some (.inr x), some (.inr v), some (.inr (k : Int)), some (.inr 0), some (.inr 1)]) (st := [.inr 1, .inr v]) rfl rfl rfl ?_
                    show Exq _ _ (cod m8_mostPoints 57, [some (.inl 21), some (.inr x), some (.inr v), some (.inr (k : Int)), some (.inr 0), some (.inr 1)], [.inr (cel c (0 + (whz c 0 ((cel c (0 + (k : Int) * 6 + 1)) + 1)) * 6 + 3)), .inr 1, .inr v], (zr τ 21 (zu (τ 21) 10 e28))) _ _
                    refine exq_k 2 (P := some (Rng v ∧ Rng (1 + (cel c (0 + (whz c 0 ((cel c (0 + (k : Int) * 6 + 1)) + 1)) * 6 + 3))))) (g := (cod m8_mostPoints 59, [some (.inl 21), some (.inr x), some (.inr v), some (.inr (k : Int)), some (.inr 0), some (.inr 1)], [.inr (if v < (1 + (cel c (0 + (whz c 0 ((cel c (0 + (k : Int) * 6 + 1)) + 1)) * 6 + 3))) then (1 + (cel c (0 + (whz c 0 ((cel c (0 + (k : Int) * 6 + 1)) + 1)) * 6 + 3))) else v)], (zr τ 21 (zu (τ 21) 10 e28)))) rfl ⟨⟨by omega, by omega⟩, ⟨by omega, by omega⟩⟩ ?_
                    refine exq_k 3 (P := none) (g := (cod m8_mostPoints 12, [some (.inl 21), some (.inr x), some (.inr (if v < (1 + (cel c (0 + (whz c 0 ((cel c (0 + (k : Int) * 6 + 1)) + 1)) * 6 + 3))) then (1 + (cel c (0 + (whz c 0 ((cel c (0 + (k : Int) * 6 + 1)) + 1)) * 6 + 3))) else v)), some (.inr (k : Int)), some (.inr 1), some (.inr 1)], [], (zr τ 21 (zu (τ 21) 10 e28)))) rfl trivial ?_
                    exact q1 hsx _ _ _ ⟨by rw [← hv1]; exact hst.symm, by first | omega | (split <;> omega)⟩))
    by_cases hsx : cel c (0 + (k : Int) * 6 + 0) = x
    · refine exq_k 5 (P := some (0 ≤ 0 ∧ 0 < ((109 : Nat) : Int))) (g := (cod m8_mostPoints 9, [some (.inl 21), some (.inr x), some (.inr v), some (.inr (k : Int)), o4, o5], [.inr ((τ 22) 0), .inr (k : Int)], (zr τ 21 (zu (τ 21) 10 e)))) rfl (by show 0 ≤ 0 ∧ 0 < ((109 : Nat) : Int); omega) ?_
      refine exq_b (P := ((τ 22) 0) ≤ (k : Int)) (ct := (cod m8_mostPoints 64, [some (.inl 21), some (.inr x), some (.inr v), some (.inr (k : Int)), o4, o5], [], (zr τ 21 (zu (τ 21) 10 e)))) (cf := (cod m8_mostPoints 10, [some (.inl 21), some (.inr x), some (.inr v), some (.inr (k : Int)), o4, o5], [], (zr τ 21 (zu (τ 21) 10 e)))) rfl ⟨⟨by omega, by omega⟩, ⟨by omega, by omega⟩⟩ (fun hh => absurd hh (by omega)) (fun _ => ?_)
      refine exq_k 2 (P := none) (g := (cod m8_mostPoints 12, [some (.inl 21), some (.inr x), some (.inr v), some (.inr (k : Int)), some (.inr 0), o5], [], (zr τ 21 (zu (τ 21) 10 e)))) rfl trivial ?_
      exact q0 hsx _ _ _ hv
    · refine exq_k 5 (P := some (0 ≤ 0 ∧ 0 < ((109 : Nat) : Int))) (g := (cod m8_mostPoints 9, [some (.inl 21), some (.inr x), some (.inr v), some (.inr (k : Int)), o4, o5], [.inr ((τ 22) 0), .inr (k : Int)], (zr τ 21 (zu (τ 21) 10 e)))) rfl (by show 0 ≤ 0 ∧ 0 < ((109 : Nat) : Int); omega) ?_
      refine exq_b (P := ((τ 22) 0) ≤ (k : Int)) (ct := (cod m8_mostPoints 64, [some (.inl 21), some (.inr x), some (.inr v), some (.inr (k : Int)), o4, o5], [], (zr τ 21 (zu (τ 21) 10 e)))) (cf := (cod m8_mostPoints 10, [some (.inl 21), some (.inr x), some (.inr v), some (.inr (k : Int)), o4, o5], [], (zr τ 21 (zu (τ 21) 10 e)))) rfl ⟨⟨by omega, by omega⟩, ⟨by omega, by omega⟩⟩ (fun hh => absurd hh (by omega)) (fun _ => ?_)
      refine exq_k 4 (P := none) (g := (cod m8_mostPoints 14, [some (.inl 21), some (.inr x), some (.inr v), some (.inr (k : Int)), some (.inr 0), o5], [.inr 4, .inr 0], (zr τ 21 (zu (τ 21) 10 e)))) rfl trivial ?_
      refine exq_b (P := 4 ≤ 0) (ct := (cod m8_mostPoints 62, [some (.inl 21), some (.inr x), some (.inr v), some (.inr (k : Int)), some (.inr 0), o5], [], (zr τ 21 (zu (τ 21) 10 e)))) (cf := (cod m8_mostPoints 15, [some (.inl 21), some (.inr x), some (.inr v), some (.inr (k : Int)), some (.inr 0), o5], [], (zr τ 21 (zu (τ 21) 10 e)))) rfl ⟨⟨by decide, by decide⟩, ⟨by decide, by decide⟩⟩ (fun hh => absurd hh (by decide)) (fun _ => ?_)
      refine exq_k 3 (P := none) (g := (cod m8_mostPoints 18, [some (.inl 21), some (.inr x), some (.inr v), some (.inr (k : Int)), some (.inr 0), o5], [.inr 0, .inr (k : Int), .inl 21], (zr τ 21 (zu (τ 21) 10 e)))) rfl trivial ?_
      refine exq_c (m_of (τ := (zr τ 21 (zu (τ 21) 10 e))) (f := (k : Int)) (w := 0) hI hR (by omega) (by omega)) (is := cod m8_mostPoints 19) (L := [some (.inl 21), some (.inr x), some (.inr v), some (.inr (k : Int)), some (.inr 0), o5]) (st := []) rfl rfl rfl ?_
      show Exq _ _ (cod m8_mostPoints 19, [some (.inl 21), some (.inr x), some (.inr v), some (.inr (k : Int)), some (.inr 0), o5], [.inr (cel c (0 + (k : Int) * 6 + 0))], (zr τ 21 (zu (τ 21) 10 e))) _ _
      refine exq_k 1 (P := none) (g := (cod m8_mostPoints 20, [some (.inl 21), some (.inr x), some (.inr v), some (.inr (k : Int)), some (.inr 0), o5], [.inr x, .inr (cel c (0 + (k : Int) * 6 + 0))], (zr τ 21 (zu (τ 21) 10 e)))) rfl trivial ?_
      refine exq_b (P := ¬ (cel c (0 + (k : Int) * 6 + 0)) = x) (ct := (cod m8_mostPoints 62, [some (.inl 21), some (.inr x), some (.inr v), some (.inr (k : Int)), some (.inr 0), o5], [], (zr τ 21 (zu (τ 21) 10 e)))) (cf := (cod m8_mostPoints 21, [some (.inl 21), some (.inr x), some (.inr v), some (.inr (k : Int)), some (.inr 0), o5], [], (zr τ 21 (zu (τ 21) 10 e)))) rfl ⟨⟨by omega, by omega⟩, ⟨by omega, by omega⟩⟩ (fun _ => ?_) (fun hh => absurd (by omega) hh)
      refine exq_k 2 (P := none) (g := (cod m8_mostPoints 4, [some (.inl 21), some (.inr x), some (.inr v), some (.inr ((k : Int) + 1)), some (.inr 0), o5], [], (zr τ 21 (zu (τ 21) 10 e)))) rfl trivial ?_
      exact ih (k + 1) (by omega) _ _ _ _ ⟨by show _ = ite _ _ _; rw [if_neg (by omega)]; exact hv.1, by omega⟩
theorem m_mostPoints {x : Int} {τ : SZ} {c : Nat → Int} {B : Int} (hI : Iv B c) (hR : Rs c (τ 22)) (hx : 0 ≤ x ∧ x < 2) : ∃ e, RZ 6 m8_mostPoints [.inl 21, .inr x] τ (.inl (some (.inr (mpv c x (cel c 107).toNat)), dt τ e)) := by
  have hS := hI.1
  have hC := hI.2.1
  have hN := hS.n
  have h0 := hR.n hN.1
  have q : RZq 6 m8_mostPoints [.inl 21, .inr x] τ (fun q => ∃ e, q = .inl (some (.inr (mpv c x (cel c 107).toNat)), dt τ e)) := by
    refine Exq.call ?_ rfl rfl
    show Exq _ _ (cod m8_mostPoints 0, [some (.inl 21), some (.inr x), none, none, none, none], [], τ) _ _
    refine exq_k 4 (P := none) (g := (cod m8_mostPoints 4, [some (.inl 21), some (.inr x), some (.inr 0), some (.inr 0), none, none], [], τ)) rfl trivial ?_
    have q := lp_mostPts (τ := τ) hI hR hx (cel c 107).toNat 0 (by omega) 0 (τ 21 10) none none ⟨rfl, by omega⟩
    rw [show zr τ 21 (zu (τ 21) 10 (τ 21 10)) = τ from dt_self] at q
    exact q
  obtain ⟨q, ⟨e, rfl⟩, h⟩ := q
  exact ⟨e, h⟩
end MR3
