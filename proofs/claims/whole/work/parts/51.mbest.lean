/-! contracts of the second implementation: the best move: printed by wip/whole/db28.py -/
section MBE
theorem stp_p {k : Int} (h : k % 2 = 0) : stp k = 1 := by unfold stp; rw [if_pos (by omega)]
theorem stp_n {k : Int} (h : ¬ k % 2 = 0) : stp k = -1 := by unfold stp; rw [if_neg (by omega)]
set_option maxHeartbeats 1000000 in
theorem lp_best_m0 {τ : SZ} {c : Nat → Int} {B : Int} (hI : Iv B c) (hR : Rs c (τ 22)) {M : Nat} (hM : (M : Int) = 4 * cel c 107) (hB : B + 9 ≤ 100000000) : ∀ (j k : Nat), k + j = M → ∀ (b mm e : Int) (x : Nat → Int) (o5 o6 : Option VZ), Tz x → b = (bsb c k).1 → mm = (bsb c k).2 → Exq 8 m8_best (cod m8_best 15, [some (.inl 21), some (.inr 0), some (.inr b), some (.inr mm), some (.inr (k : Int)), o5, o6], [], (zr (zr τ 21 (zu (τ 21) 10 e)) 24 x)) 0 (Qb τ (if (bsb c M).1 < 0 then 0 else if (0 : Int) = 0 then (bsb c M).1 / 4 else if (0 : Int) = 1 then (bsb c M).1 / 2 % 2 else 1 - (bsb c M).1 % 2) (if (bsb c M).1 < 0 then 2 else 0)) := by
  have hS := hI.1
  have hC := hI.2.1
  have hN := hS.n
  have h22 := hR.tz
  have h0 := hR.n hN.1
  intro j
  induction j with
  | zero =>
    intro k hk b mm e x o5 o6 hx hb hmm
    have hbi := bsb_in hI (by omega) k (by omega)
    have hkM : k = M := by omega
    subst hkM
    refine exq_k 6 (P := some (0 ≤ 0 ∧ 0 < ((109 : Nat) : Int))) (g := (cod m8_best 21, [some (.inl 21), some (.inr 0), some (.inr b), some (.inr mm), some (.inr (k : Int)), o5, o6], [.inr ((τ 22) 0), .inr 4, .inr (k : Int)], (zr (zr τ 21 (zu (τ 21) 10 e)) 24 x))) rfl (by show 0 ≤ 0 ∧ 0 < ((109 : Nat) : Int); omega) ?_
    refine exq_k 1 (P := none) (g := (cod m8_best 22, [some (.inl 21), some (.inr 0), some (.inr b), some (.inr mm), some (.inr (k : Int)), o5, o6], [.inr (4 * ((τ 22) 0)), .inr (k : Int)], (zr (zr τ 21 (zu (τ 21) 10 e)) 24 x))) rfl trivial ?_
    refine exq_b (P := (4 * ((τ 22) 0)) ≤ (k : Int)) (ct := (cod m8_best 73, [some (.inl 21), some (.inr 0), some (.inr b), some (.inr mm), some (.inr (k : Int)), o5, o6], [], (zr (zr τ 21 (zu (τ 21) 10 e)) 24 x))) (cf := (cod m8_best 23, [some (.inl 21), some (.inr 0), some (.inr b), some (.inr mm), some (.inr (k : Int)), o5, o6], [], (zr (zr τ 21 (zu (τ 21) 10 e)) 24 x))) rfl ⟨⟨by omega, by omega⟩, ⟨by omega, by omega⟩⟩ (fun _ => ?_) (fun hh => absurd (by omega) hh)
    refine exq_k 2 (P := none) (g := (cod m8_best 75, [some (.inl 21), some (.inr 0), some (.inr b), some (.inr mm), some (.inr (k : Int)), o5, o6], [.inr b, .inl 21], (zr (zr τ 21 (zu (τ 21) 10 e)) 24 x))) rfl trivial ?_
    refine exq_b (P := 0 ≤ b) (ct := (cod m8_best 78, [some (.inl 21), some (.inr 0), some (.inr b), some (.inr mm), some (.inr (k : Int)), o5, o6], [.inl 21], (zr (zr τ 21 (zu (τ 21) 10 e)) 24 x))) (cf := (cod m8_best 76, [some (.inl 21), some (.inr 0), some (.inr b), some (.inr mm), some (.inr (k : Int)), o5, o6], [.inl 21], (zr (zr τ 21 (zu (τ 21) 10 e)) 24 x))) rfl ⟨by omega, by omega⟩ (fun h2 => ?_) (fun h2 => ?_)
    · first
      | (exfalso; omega)
      | (
          refine exq_k 2 (P := none) (g := (cod m8_best 80, [some (.inl 21), some (.inr 0), some (.inr b), some (.inr mm), some (.inr (k : Int)), o5, o6], [], (zr (zr (zr τ 21 (zu (τ 21) 10 e)) 24 x) 21 (zu (zu (τ 21) 10 e) 7 0)))) rfl trivial ?_
          rw [zr_sw (a := 24) (b := 21) (by decide), zr_zr]
          refine exq_k 2 (P := none) (g := (cod m8_best 82, [some (.inl 21), some (.inr 0), some (.inr b), some (.inr mm), some (.inr (k : Int)), o5, o6], [.inr 0], (zr (zr τ 21 (zu (zu (τ 21) 10 e) 7 0)) 24 x))) rfl trivial ?_
          refine exq_b (P := 0 ≤ 0) (ct := (cod m8_best 85, [some (.inl 21), some (.inr 0), some (.inr b), some (.inr mm), some (.inr (k : Int)), o5, o6], [], (zr (zr τ 21 (zu (zu (τ 21) 10 e) 7 0)) 24 x))) (cf := (cod m8_best 83, [some (.inl 21), some (.inr 0), some (.inr b), some (.inr mm), some (.inr (k : Int)), o5, o6], [], (zr (zr τ 21 (zu (zu (τ 21) 10 e) 7 0)) 24 x))) rfl ⟨by decide, by decide⟩ (fun _ => ?_) (fun hh => absurd (by decide) hh)
          refine exq_k 1 (P := none) (g := (cod m8_best 86, [some (.inl 21), some (.inr 0), some (.inr b), some (.inr mm), some (.inr (k : Int)), o5, o6], [.inr 0], (zr (zr τ 21 (zu (zu (τ 21) 10 e) 7 0)) 24 x))) rfl trivial ?_
          refine exq_b (P := ¬ 0 = 0) (ct := (cod m8_best 91, [some (.inl 21), some (.inr 0), some (.inr b), some (.inr mm), some (.inr (k : Int)), o5, o6], [], (zr (zr τ 21 (zu (zu (τ 21) 10 e) 7 0)) 24 x))) (cf := (cod m8_best 87, [some (.inl 21), some (.inr 0), some (.inr b), some (.inr mm), some (.inr (k : Int)), o5, o6], [], (zr (zr τ 21 (zu (zu (τ 21) 10 e) 7 0)) 24 x))) rfl ⟨by decide, by decide⟩ (fun hh => absurd hh (by decide)) (fun _ => ?_)
          refine exq_k 3 (P := some (0 ≤ b ∧ b < 2147483648 ∧ 0 < 4 ∧ 4 < 2147483648)) (g := (cod m8_best 90, [some (.inl 21), some (.inr 0), some (.inr b), some (.inr mm), some (.inr (k : Int)), o5, o6], [.inr (b / 4)], (zr (zr τ 21 (zu (zu (τ 21) 10 e) 7 0)) 24 x))) rfl (by show 0 ≤ b ∧ b < 2147483648 ∧ 0 < 4 ∧ 4 < 2147483648; omega) ?_
          refine exq_k 1 (P := none) (g := (cod m8_best 105, [some (.inl 21), some (.inr 0), some (.inr b), some (.inr mm), some (.inr (k : Int)), o5, o6], [.inr (b / 4)], (zr (zr τ 21 (zu (zu (τ 21) 10 e) 7 0)) 24 x))) rfl trivial ?_
          exact exq_r rfl trivial rfl (qb4 hx (by (repeat (first | rw [if_pos (by omega)] | rw [if_neg (by omega)])); first | done | rfl | (rw [← hb]; done) | (rw [← hb]; (repeat (first | rw [if_pos (by omega)] | rw [if_neg (by omega)])); first | done | rfl)) (by (repeat (first | rw [if_pos (by omega)] | rw [if_neg (by omega)])); first | done | rfl)))
    · first
      | (exfalso; omega)
      | (
          refine exq_k 3 (P := none) (g := (cod m8_best 80, [some (.inl 21), some (.inr 0), some (.inr b), some (.inr mm), some (.inr (k : Int)), o5, o6], [], (zr (zr (zr τ 21 (zu (τ 21) 10 e)) 24 x) 21 (zu (zu (τ 21) 10 e) 7 2)))) rfl trivial ?_
          rw [zr_sw (a := 24) (b := 21) (by decide), zr_zr]
          refine exq_k 2 (P := none) (g := (cod m8_best 82, [some (.inl 21), some (.inr 0), some (.inr b), some (.inr mm), some (.inr (k : Int)), o5, o6], [.inr 2], (zr (zr τ 21 (zu (zu (τ 21) 10 e) 7 2)) 24 x))) rfl trivial ?_
          refine exq_b (P := 2 ≤ 0) (ct := (cod m8_best 85, [some (.inl 21), some (.inr 0), some (.inr b), some (.inr mm), some (.inr (k : Int)), o5, o6], [], (zr (zr τ 21 (zu (zu (τ 21) 10 e) 7 2)) 24 x))) (cf := (cod m8_best 83, [some (.inl 21), some (.inr 0), some (.inr b), some (.inr mm), some (.inr (k : Int)), o5, o6], [], (zr (zr τ 21 (zu (zu (τ 21) 10 e) 7 2)) 24 x))) rfl ⟨by decide, by decide⟩ (fun hh => absurd hh (by decide)) (fun _ => ?_)
          refine exq_k 2 (P := none) (g := (cod m8_best 105, [some (.inl 21), some (.inr 0), some (.inr b), some (.inr mm), some (.inr (k : Int)), o5, o6], [.inr 0], (zr (zr τ 21 (zu (zu (τ 21) 10 e) 7 2)) 24 x))) rfl trivial ?_
          exact exq_r rfl trivial rfl (qb4 hx (by (repeat (first | rw [if_pos (by omega)] | rw [if_neg (by omega)])); first | done | rfl | (rw [← hb]; done) | (rw [← hb]; (repeat (first | rw [if_pos (by omega)] | rw [if_neg (by omega)])); first | done | rfl)) (by (repeat (first | rw [if_pos (by omega)] | rw [if_neg (by omega)])); first | done | rfl)))
  | succ j ih =>
    intro k hk b mm e x o5 o6 hx hb hmm
    have hbi := bsb_in hI (by omega) k (by omega)
    refine exq_k 6 (P := some (0 ≤ 0 ∧ 0 < ((109 : Nat) : Int))) (g := (cod m8_best 21, [some (.inl 21), some (.inr 0), some (.inr b), some (.inr mm), some (.inr (k : Int)), o5, o6], [.inr ((τ 22) 0), .inr 4, .inr (k : Int)], (zr (zr τ 21 (zu (τ 21) 10 e)) 24 x))) rfl (by show 0 ≤ 0 ∧ 0 < ((109 : Nat) : Int); omega) ?_
    refine exq_k 1 (P := none) (g := (cod m8_best 22, [some (.inl 21), some (.inr 0), some (.inr b), some (.inr mm), some (.inr (k : Int)), o5, o6], [.inr (4 * ((τ 22) 0)), .inr (k : Int)], (zr (zr τ 21 (zu (τ 21) 10 e)) 24 x))) rfl trivial ?_
    refine exq_b (P := (4 * ((τ 22) 0)) ≤ (k : Int)) (ct := (cod m8_best 73, [some (.inl 21), some (.inr 0), some (.inr b), some (.inr mm), some (.inr (k : Int)), o5, o6], [], (zr (zr τ 21 (zu (τ 21) 10 e)) 24 x))) (cf := (cod m8_best 23, [some (.inl 21), some (.inr 0), some (.inr b), some (.inr mm), some (.inr (k : Int)), o5, o6], [], (zr (zr τ 21 (zu (τ 21) 10 e)) 24 x))) rfl ⟨⟨by omega, by omega⟩, ⟨by omega, by omega⟩⟩ (fun hh => absurd hh (by omega)) (fun _ => ?_)
    refine exq_k 3 (P := some (0 ≤ (k : Int) ∧ (k : Int) < 2147483648 ∧ 0 < 2 ∧ 2 < 2147483648)) (g := (cod m8_best 26, [some (.inl 21), some (.inr 0), some (.inr b), some (.inr mm), some (.inr (k : Int)), o5, o6], [.inr ((k : Int) % 2)], (zr (zr τ 21 (zu (τ 21) 10 e)) 24 x))) rfl (by show 0 ≤ (k : Int) ∧ (k : Int) < 2147483648 ∧ 0 < 2 ∧ 2 < 2147483648; omega) ?_
    refine exq_b (P := ¬ ((k : Int) % 2) = 0) (ct := (cod m8_best 29, [some (.inl 21), some (.inr 0), some (.inr b), some (.inr mm), some (.inr (k : Int)), o5, o6], [], (zr (zr τ 21 (zu (τ 21) 10 e)) 24 x))) (cf := (cod m8_best 27, [some (.inl 21), some (.inr 0), some (.inr b), some (.inr mm), some (.inr (k : Int)), o5, o6], [], (zr (zr τ 21 (zu (τ 21) 10 e)) 24 x))) rfl ⟨by omega, by omega⟩ (fun h2 => ?_) (fun h2 => ?_)
    · first
      | (exfalso; omega)
      | (
          refine exq_k 6 (P := some (0 ≤ (k : Int) ∧ (k : Int) < 2147483648 ∧ 0 < 4 ∧ 4 < 2147483648)) (g := (cod m8_best 35, [some (.inl 21), some (.inr 0), some (.inr b), some (.inr mm), some (.inr (k : Int)), some (.inr (-1)), o6], [.inr ((k : Int) / 4), .inl 21], (zr (zr τ 21 (zu (τ 21) 10 e)) 24 x))) rfl (by show 0 ≤ (k : Int) ∧ (k : Int) < 2147483648 ∧ 0 < 4 ∧ 4 < 2147483648; omega) ?_
          refine exq_k 3 (P := some (0 ≤ (k : Int) ∧ (k : Int) < 2147483648 ∧ 0 < 2 ∧ 2 < 2147483648)) (g := (cod m8_best 38, [some (.inl 21), some (.inr 0), some (.inr b), some (.inr mm), some (.inr (k : Int)), some (.inr (-1)), o6], [.inr ((k : Int) / 2), .inr ((k : Int) / 4), .inl 21], (zr (zr τ 21 (zu (τ 21) 10 e)) 24 x))) rfl (by show 0 ≤ (k : Int) ∧ (k : Int) < 2147483648 ∧ 0 < 2 ∧ 2 < 2147483648; omega) ?_
          refine exq_k 2 (P := some (0 ≤ ((k : Int) / 2) ∧ ((k : Int) / 2) < 2147483648 ∧ 0 < 2 ∧ 2 < 2147483648)) (g := (cod m8_best 40, [some (.inl 21), some (.inr 0), some (.inr b), some (.inr mm), some (.inr (k : Int)), some (.inr (-1)), o6], [.inr (((k : Int) / 2) % 2), .inr ((k : Int) / 4), .inl 21], (zr (zr τ 21 (zu (τ 21) 10 e)) 24 x))) rfl (by show 0 ≤ ((k : Int) / 2) ∧ ((k : Int) / 2) < 2147483648 ∧ 0 < 2 ∧ 2 < 2147483648; omega) ?_
          refine exq_k 1 (P := none) (g := (cod m8_best 41, [some (.inl 21), some (.inr 0), some (.inr b), some (.inr mm), some (.inr (k : Int)), some (.inr (-1)), o6], [.inr (-1), .inr (((k : Int) / 2) % 2), .inr ((k : Int) / 4), .inl 21], (zr (zr τ 21 (zu (τ 21) 10 e)) 24 x))) rfl trivial ?_
          obtain ⟨e47, he47, hc47⟩ := m_hindersInTurn (τ := (zr (zr τ 21 (zu (τ 21) 10 e)) 24 x)) (f := (k : Int) / 4) (r := ((k : Int) / 2) % 2) (s := (-1)) hI hR (by omega) (by omega) (by omega)
          have hh := hnt_in c ((k : Int) / 4) (((k : Int) / 2) % 2) (-1)
          refine exq_c hc47 (is := cod m8_best 42) (L := [some (.inl 21), some (.inr 0), some (.inr b), some (.inr mm), some (.inr (k : Int)), some (.inr (-1)), o6]) (st := []) rfl rfl rfl ?_
          show Exq _ _ (cod m8_best 42, [some (.inl 21), some (.inr 0), some (.inr b), some (.inr mm), some (.inr (k : Int)), some (.inr (-1)), o6], [.inr (hnt c ((k : Int) / 4) (((k : Int) / 2) % 2) (-1))], (zr (zr (zr τ 21 (zu (τ 21) 10 e)) 24 x) 21 (zu (zu (τ 21) 10 e) 10 e47))) _ _
          rw [zr_sw (a := 24) (b := 21) (by decide), zr_zr, zu_zu]
          refine exq_b (P := ¬ (hnt c ((k : Int) / 4) (((k : Int) / 2) % 2) (-1)) = 0) (ct := (cod m8_best 71, [some (.inl 21), some (.inr 0), some (.inr b), some (.inr mm), some (.inr (k : Int)), some (.inr (-1)), o6], [], (zr (zr τ 21 (zu (τ 21) 10 e47)) 24 x))) (cf := (cod m8_best 43, [some (.inl 21), some (.inr 0), some (.inr b), some (.inr mm), some (.inr (k : Int)), some (.inr (-1)), o6], [], (zr (zr τ 21 (zu (τ 21) 10 e47)) 24 x))) rfl ⟨by omega, by omega⟩ (fun h3 => ?_) (fun h3 => ?_)
          · first
            | (exfalso; omega)
            | (
                refine exq_k 2 (P := none) (g := (cod m8_best 15, [some (.inl 21), some (.inr 0), some (.inr b), some (.inr mm), some (.inr ((k : Int) + 1)), some (.inr (-1)), o6], [], (zr (zr τ 21 (zu (τ 21) 10 e47)) 24 x))) rfl trivial ?_
                exact ih (k + 1) (by omega) _ _ _ _ _ _ hx (by rw [bsb_n (stp_n (show ¬ (k : Int) % 2 = 0 from by omega)) (by omega)]; assumption) (by rw [bsb_n (stp_n (show ¬ (k : Int) % 2 = 0 from by omega)) (by omega)]; assumption))
          · first
            | (exfalso; omega)
            | (
                refine exq_k 4 (P := some (0 ≤ (k : Int) ∧ (k : Int) < 2147483648 ∧ 0 < 4 ∧ 4 < 2147483648)) (g := (cod m8_best 47, [some (.inl 21), some (.inr 0), some (.inr b), some (.inr mm), some (.inr (k : Int)), some (.inr (-1)), o6], [.inr ((k : Int) / 4), .inl 21], (zr (zr τ 21 (zu (τ 21) 10 e47)) 24 x))) rfl (by show 0 ≤ (k : Int) ∧ (k : Int) < 2147483648 ∧ 0 < 4 ∧ 4 < 2147483648; omega) ?_
                refine exq_k 3 (P := some (0 ≤ (k : Int) ∧ (k : Int) < 2147483648 ∧ 0 < 2 ∧ 2 < 2147483648)) (g := (cod m8_best 50, [some (.inl 21), some (.inr 0), some (.inr b), some (.inr mm), some (.inr (k : Int)), some (.inr (-1)), o6], [.inr ((k : Int) / 2), .inr ((k : Int) / 4), .inl 21], (zr (zr τ 21 (zu (τ 21) 10 e47)) 24 x))) rfl (by show 0 ≤ (k : Int) ∧ (k : Int) < 2147483648 ∧ 0 < 2 ∧ 2 < 2147483648; omega) ?_
                refine exq_k 2 (P := some (0 ≤ ((k : Int) / 2) ∧ ((k : Int) / 2) < 2147483648 ∧ 0 < 2 ∧ 2 < 2147483648)) (g := (cod m8_best 52, [some (.inl 21), some (.inr 0), some (.inr b), some (.inr mm), some (.inr (k : Int)), some (.inr (-1)), o6], [.inr (((k : Int) / 2) % 2), .inr ((k : Int) / 4), .inl 21], (zr (zr τ 21 (zu (τ 21) 10 e47)) 24 x))) rfl (by show 0 ≤ ((k : Int) / 2) ∧ ((k : Int) / 2) < 2147483648 ∧ 0 < 2 ∧ 2 < 2147483648; omega) ?_
                refine exq_k 1 (P := none) (g := (cod m8_best 53, [some (.inl 21), some (.inr 0), some (.inr b), some (.inr mm), some (.inr (k : Int)), some (.inr (-1)), o6], [.inr (-1), .inr (((k : Int) / 2) % 2), .inr ((k : Int) / 4), .inl 21], (zr (zr τ 21 (zu (τ 21) 10 e47)) 24 x))) rfl trivial ?_
                have hmv : ocn c ((k : Int) / 4) (((k : Int) / 2) % 2) (-1) = 1 ∨ ocn c ((k : Int) / 4) (((k : Int) / 2) % 2) (-1) = 2 ∨ ocn c ((k : Int) / 4) (((k : Int) / 2) % 2) (-1) = 3 := by omega
                obtain ⟨g3, hg3⟩ := m_gainBy (τ := (zr (zr τ 21 (zu (τ 21) 10 e47)) 24 x)) (f := (k : Int) / 4) (r := ((k : Int) / 2) % 2) (s := (-1)) hI hR hx (by omega) (by omega) (by omega) (ocn_mv hmv) hB
                have hgq := gnb_in hI (f := (k : Int) / 4) (r := ((k : Int) / 2) % 2) (s := (-1)) (by omega) (by omega) (by omega) (ocn_mv hmv) (by omega)
                clear hh
                refine exq_c hg3 (is := cod m8_best 54) (L := [some (.inl 21), some (.inr 0), some (.inr b), some (.inr mm), some (.inr (k : Int)), some (.inr (-1)), o6]) (st := []) rfl rfl rfl ?_
                show Exq _ _ (cod m8_best 54, [some (.inl 21), some (.inr 0), some (.inr b), some (.inr mm), some (.inr (k : Int)), some (.inr (-1)), o6], [.inr (gnb c ((k : Int) / 4) (((k : Int) / 2) % 2) (-1))], (zr (zr (zr (zr τ 21 (zu (τ 21) 10 e47)) 24 x) 21 (zu (zu (τ 21) 10 e47) 10 g3)) 24 (τ 22))) _ _
                rw [zr_sw (a := 24) (b := 21) (by decide), zr_zr, zr_zr, zu_zu]
                refine exq_k 2 (P := none) (g := (cod m8_best 56, [some (.inl 21), some (.inr 0), some (.inr b), some (.inr mm), some (.inr (k : Int)), some (.inr (-1)), some (.inr (gnb c ((k : Int) / 4) (((k : Int) / 2) % 2) (-1)))], [.inr b], (zr (zr τ 21 (zu (τ 21) 10 g3)) 24 (τ 22)))) rfl trivial ?_
                refine exq_b (P := b < 0) (ct := (cod m8_best 60, [some (.inl 21), some (.inr 0), some (.inr b), some (.inr mm), some (.inr (k : Int)), some (.inr (-1)), some (.inr (gnb c ((k : Int) / 4) (((k : Int) / 2) % 2) (-1)))], [], (zr (zr τ 21 (zu (τ 21) 10 g3)) 24 (τ 22)))) (cf := (cod m8_best 57, [some (.inl 21), some (.inr 0), some (.inr b), some (.inr mm), some (.inr (k : Int)), some (.inr (-1)), some (.inr (gnb c ((k : Int) / 4) (((k : Int) / 2) % 2) (-1)))], [], (zr (zr τ 21 (zu (τ 21) 10 g3)) 24 (τ 22)))) rfl ⟨by omega, by omega⟩ (fun h4 => ?_) (fun h4 => ?_)
                · first
                  | (exfalso; omega)
                  | (
                      refine exq_k 5 (P := none) (g := (cod m8_best 66, [some (.inl 21), some (.inr 0), some (.inr (k : Int)), some (.inr mm), some (.inr (k : Int)), some (.inr (-1)), some (.inr (gnb c ((k : Int) / 4) (((k : Int) / 2) % 2) (-1)))], [.inr (k : Int), .inr (k : Int)], (zr (zr τ 21 (zu (τ 21) 10 g3)) 24 (τ 22)))) rfl trivial ?_
                      refine exq_b (P := ¬ (k : Int) = (k : Int)) (ct := (cod m8_best 69, [some (.inl 21), some (.inr 0), some (.inr (k : Int)), some (.inr mm), some (.inr (k : Int)), some (.inr (-1)), some (.inr (gnb c ((k : Int) / 4) (((k : Int) / 2) % 2) (-1)))], [], (zr (zr τ 21 (zu (τ 21) 10 g3)) 24 (τ 22)))) (cf := (cod m8_best 67, [some (.inl 21), some (.inr 0), some (.inr (k : Int)), some (.inr mm), some (.inr (k : Int)), some (.inr (-1)), some (.inr (gnb c ((k : Int) / 4) (((k : Int) / 2) % 2) (-1)))], [], (zr (zr τ 21 (zu (τ 21) 10 g3)) 24 (τ 22)))) rfl ⟨⟨by omega, by omega⟩, ⟨by omega, by omega⟩⟩ (fun h5 => ?_) (fun h5 => ?_)
                      · first
                        | (exfalso; omega)
                        | (
                            refine exq_k 4 (P := none) (g := (cod m8_best 15, [some (.inl 21), some (.inr 0), some (.inr (k : Int)), some (.inr mm), some (.inr ((k : Int) + 1)), some (.inr (-1)), some (.inr (gnb c ((k : Int) / 4) (((k : Int) / 2) % 2) (-1)))], [], (zr (zr τ 21 (zu (τ 21) 10 g3)) 24 (τ 22)))) rfl trivial ?_
                            exact ih (k + 1) (by omega) _ _ _ _ _ _ h22 (by rw [bsb_t (stp_n (show ¬ (k : Int) % 2 = 0 from by omega)) hmv (by rw [← hb, ← hmm]; omega)]) (by rw [bsb_t (stp_n (show ¬ (k : Int) % 2 = 0 from by omega)) hmv (by rw [← hb, ← hmm]; omega)]))
                      · first
                        | (exfalso; omega)
                        | (
                            refine exq_k 5 (P := none) (g := (cod m8_best 15, [some (.inl 21), some (.inr 0), some (.inr (k : Int)), some (.inr (gnb c ((k : Int) / 4) (((k : Int) / 2) % 2) (-1))), some (.inr ((k : Int) + 1)), some (.inr (-1)), some (.inr (gnb c ((k : Int) / 4) (((k : Int) / 2) % 2) (-1)))], [], (zr (zr τ 21 (zu (τ 21) 10 g3)) 24 (τ 22)))) rfl trivial ?_
                            exact ih (k + 1) (by omega) _ _ _ _ _ _ h22 (by rw [bsb_t (stp_n (show ¬ (k : Int) % 2 = 0 from by omega)) hmv (by rw [← hb, ← hmm]; omega)]) (by rw [bsb_t (stp_n (show ¬ (k : Int) % 2 = 0 from by omega)) hmv (by rw [← hb, ← hmm]; omega)])))
                · first
                  | (exfalso; omega)
                  | (
                      refine exq_k 2 (P := none) (g := (cod m8_best 59, [some (.inl 21), some (.inr 0), some (.inr b), some (.inr mm), some (.inr (k : Int)), some (.inr (-1)), some (.inr (gnb c ((k : Int) / 4) (((k : Int) / 2) % 2) (-1)))], [.inr mm, .inr (gnb c ((k : Int) / 4) (((k : Int) / 2) % 2) (-1))], (zr (zr τ 21 (zu (τ 21) 10 g3)) 24 (τ 22)))) rfl trivial ?_
                      refine exq_b (P := (gnb c ((k : Int) / 4) (((k : Int) / 2) % 2) (-1)) ≤ mm) (ct := (cod m8_best 62, [some (.inl 21), some (.inr 0), some (.inr b), some (.inr mm), some (.inr (k : Int)), some (.inr (-1)), some (.inr (gnb c ((k : Int) / 4) (((k : Int) / 2) % 2) (-1)))], [], (zr (zr τ 21 (zu (τ 21) 10 g3)) 24 (τ 22)))) (cf := (cod m8_best 60, [some (.inl 21), some (.inr 0), some (.inr b), some (.inr mm), some (.inr (k : Int)), some (.inr (-1)), some (.inr (gnb c ((k : Int) / 4) (((k : Int) / 2) % 2) (-1)))], [], (zr (zr τ 21 (zu (τ 21) 10 g3)) 24 (τ 22)))) rfl ⟨⟨by omega, by omega⟩, ⟨by omega, by omega⟩⟩ (fun h6 => ?_) (fun h6 => ?_)
                      · first
                        | (exfalso; omega)
                        | (
                            refine exq_k 4 (P := none) (g := (cod m8_best 66, [some (.inl 21), some (.inr 0), some (.inr b), some (.inr mm), some (.inr (k : Int)), some (.inr (-1)), some (.inr (gnb c ((k : Int) / 4) (((k : Int) / 2) % 2) (-1)))], [.inr (k : Int), .inr b], (zr (zr τ 21 (zu (τ 21) 10 g3)) 24 (τ 22)))) rfl trivial ?_
                            refine exq_b (P := ¬ b = (k : Int)) (ct := (cod m8_best 69, [some (.inl 21), some (.inr 0), some (.inr b), some (.inr mm), some (.inr (k : Int)), some (.inr (-1)), some (.inr (gnb c ((k : Int) / 4) (((k : Int) / 2) % 2) (-1)))], [], (zr (zr τ 21 (zu (τ 21) 10 g3)) 24 (τ 22)))) (cf := (cod m8_best 67, [some (.inl 21), some (.inr 0), some (.inr b), some (.inr mm), some (.inr (k : Int)), some (.inr (-1)), some (.inr (gnb c ((k : Int) / 4) (((k : Int) / 2) % 2) (-1)))], [], (zr (zr τ 21 (zu (τ 21) 10 g3)) 24 (τ 22)))) rfl ⟨⟨by omega, by omega⟩, ⟨by omega, by omega⟩⟩ (fun h7 => ?_) (fun h7 => ?_)
                            · first
                              | (exfalso; omega)
                              | (
                                  refine exq_k 4 (P := none) (g := (cod m8_best 15, [some (.inl 21), some (.inr 0), some (.inr b), some (.inr mm), some (.inr ((k : Int) + 1)), some (.inr (-1)), some (.inr (gnb c ((k : Int) / 4) (((k : Int) / 2) % 2) (-1)))], [], (zr (zr τ 21 (zu (τ 21) 10 g3)) 24 (τ 22)))) rfl trivial ?_
                                  exact ih (k + 1) (by omega) _ _ _ _ _ _ h22 (by rw [bsb_f (stp_n (show ¬ (k : Int) % 2 = 0 from by omega)) hmv (by rw [← hb, ← hmm]; omega)]; assumption) (by rw [bsb_f (stp_n (show ¬ (k : Int) % 2 = 0 from by omega)) hmv (by rw [← hb, ← hmm]; omega)]; assumption))
                            · first
                              | (exfalso; omega)
                              | (
                                  refine exq_k 5 (P := none) (g := (cod m8_best 15, [some (.inl 21), some (.inr 0), some (.inr b), some (.inr (gnb c ((k : Int) / 4) (((k : Int) / 2) % 2) (-1))), some (.inr ((k : Int) + 1)), some (.inr (-1)), some (.inr (gnb c ((k : Int) / 4) (((k : Int) / 2) % 2) (-1)))], [], (zr (zr τ 21 (zu (τ 21) 10 g3)) 24 (τ 22)))) rfl trivial ?_
                                  exact ih (k + 1) (by omega) _ _ _ _ _ _ h22 (by rw [bsb_t (stp_n (show ¬ (k : Int) % 2 = 0 from by omega)) hmv (by rw [← hb, ← hmm]; omega)]) (by rw [bsb_t (stp_n (show ¬ (k : Int) % 2 = 0 from by omega)) hmv (by rw [← hb, ← hmm]; omega)])))
                      · first
                        | (exfalso; omega)
                        | (
                            refine exq_k 5 (P := none) (g := (cod m8_best 66, [some (.inl 21), some (.inr 0), some (.inr (k : Int)), some (.inr mm), some (.inr (k : Int)), some (.inr (-1)), some (.inr (gnb c ((k : Int) / 4) (((k : Int) / 2) % 2) (-1)))], [.inr (k : Int), .inr (k : Int)], (zr (zr τ 21 (zu (τ 21) 10 g3)) 24 (τ 22)))) rfl trivial ?_
                            refine exq_b (P := ¬ (k : Int) = (k : Int)) (ct := (cod m8_best 69, [some (.inl 21), some (.inr 0), some (.inr (k : Int)), some (.inr mm), some (.inr (k : Int)), some (.inr (-1)), some (.inr (gnb c ((k : Int) / 4) (((k : Int) / 2) % 2) (-1)))], [], (zr (zr τ 21 (zu (τ 21) 10 g3)) 24 (τ 22)))) (cf := (cod m8_best 67, [some (.inl 21), some (.inr 0), some (.inr (k : Int)), some (.inr mm), some (.inr (k : Int)), some (.inr (-1)), some (.inr (gnb c ((k : Int) / 4) (((k : Int) / 2) % 2) (-1)))], [], (zr (zr τ 21 (zu (τ 21) 10 g3)) 24 (τ 22)))) rfl ⟨⟨by omega, by omega⟩, ⟨by omega, by omega⟩⟩ (fun h8 => ?_) (fun h8 => ?_)
                            · first
                              | (exfalso; omega)
                              | (
                                  refine exq_k 4 (P := none) (g := (cod m8_best 15, [some (.inl 21), some (.inr 0), some (.inr (k : Int)), some (.inr mm), some (.inr ((k : Int) + 1)), some (.inr (-1)), some (.inr (gnb c ((k : Int) / 4) (((k : Int) / 2) % 2) (-1)))], [], (zr (zr τ 21 (zu (τ 21) 10 g3)) 24 (τ 22)))) rfl trivial ?_
                                  exact ih (k + 1) (by omega) _ _ _ _ _ _ h22 (by rw [bsb_t (stp_n (show ¬ (k : Int) % 2 = 0 from by omega)) hmv (by rw [← hb, ← hmm]; omega)]) (by rw [bsb_t (stp_n (show ¬ (k : Int) % 2 = 0 from by omega)) hmv (by rw [← hb, ← hmm]; omega)]))
                            · first
                              | (exfalso; omega)
                              | (
                                  refine exq_k 5 (P := none) (g := (cod m8_best 15, [some (.inl 21), some (.inr 0), some (.inr (k : Int)), some (.inr (gnb c ((k : Int) / 4) (((k : Int) / 2) % 2) (-1))), some (.inr ((k : Int) + 1)), some (.inr (-1)), some (.inr (gnb c ((k : Int) / 4) (((k : Int) / 2) % 2) (-1)))], [], (zr (zr τ 21 (zu (τ 21) 10 g3)) 24 (τ 22)))) rfl trivial ?_
                                  exact ih (k + 1) (by omega) _ _ _ _ _ _ h22 (by rw [bsb_t (stp_n (show ¬ (k : Int) % 2 = 0 from by omega)) hmv (by rw [← hb, ← hmm]; omega)]) (by rw [bsb_t (stp_n (show ¬ (k : Int) % 2 = 0 from by omega)) hmv (by rw [← hb, ← hmm]; omega)]))))))
    · first
      | (exfalso; omega)
      | (
          refine exq_k 7 (P := some (0 ≤ (k : Int) ∧ (k : Int) < 2147483648 ∧ 0 < 4 ∧ 4 < 2147483648)) (g := (cod m8_best 35, [some (.inl 21), some (.inr 0), some (.inr b), some (.inr mm), some (.inr (k : Int)), some (.inr 1), o6], [.inr ((k : Int) / 4), .inl 21], (zr (zr τ 21 (zu (τ 21) 10 e)) 24 x))) rfl (by show 0 ≤ (k : Int) ∧ (k : Int) < 2147483648 ∧ 0 < 4 ∧ 4 < 2147483648; omega) ?_
          refine exq_k 3 (P := some (0 ≤ (k : Int) ∧ (k : Int) < 2147483648 ∧ 0 < 2 ∧ 2 < 2147483648)) (g := (cod m8_best 38, [some (.inl 21), some (.inr 0), some (.inr b), some (.inr mm), some (.inr (k : Int)), some (.inr 1), o6], [.inr ((k : Int) / 2), .inr ((k : Int) / 4), .inl 21], (zr (zr τ 21 (zu (τ 21) 10 e)) 24 x))) rfl (by show 0 ≤ (k : Int) ∧ (k : Int) < 2147483648 ∧ 0 < 2 ∧ 2 < 2147483648; omega) ?_
          refine exq_k 2 (P := some (0 ≤ ((k : Int) / 2) ∧ ((k : Int) / 2) < 2147483648 ∧ 0 < 2 ∧ 2 < 2147483648)) (g := (cod m8_best 40, [some (.inl 21), some (.inr 0), some (.inr b), some (.inr mm), some (.inr (k : Int)), some (.inr 1), o6], [.inr (((k : Int) / 2) % 2), .inr ((k : Int) / 4), .inl 21], (zr (zr τ 21 (zu (τ 21) 10 e)) 24 x))) rfl (by show 0 ≤ ((k : Int) / 2) ∧ ((k : Int) / 2) < 2147483648 ∧ 0 < 2 ∧ 2 < 2147483648; omega) ?_
          refine exq_k 1 (P := none) (g := (cod m8_best 41, [some (.inl 21), some (.inr 0), some (.inr b), some (.inr mm), some (.inr (k : Int)), some (.inr 1), o6], [.inr 1, .inr (((k : Int) / 2) % 2), .inr ((k : Int) / 4), .inl 21], (zr (zr τ 21 (zu (τ 21) 10 e)) 24 x))) rfl trivial ?_
          obtain ⟨e48, he48, hc48⟩ := m_hindersInTurn (τ := (zr (zr τ 21 (zu (τ 21) 10 e)) 24 x)) (f := (k : Int) / 4) (r := ((k : Int) / 2) % 2) (s := 1) hI hR (by omega) (by omega) (by omega)
          have hh := hnt_in c ((k : Int) / 4) (((k : Int) / 2) % 2) 1
          refine exq_c hc48 (is := cod m8_best 42) (L := [some (.inl 21), some (.inr 0), some (.inr b), some (.inr mm), some (.inr (k : Int)), some (.inr 1), o6]) (st := []) rfl rfl rfl ?_
          show Exq _ _ (cod m8_best 42, [some (.inl 21), some (.inr 0), some (.inr b), some (.inr mm), some (.inr (k : Int)), some (.inr 1), o6], [.inr (hnt c ((k : Int) / 4) (((k : Int) / 2) % 2) 1)], (zr (zr (zr τ 21 (zu (τ 21) 10 e)) 24 x) 21 (zu (zu (τ 21) 10 e) 10 e48))) _ _
          rw [zr_sw (a := 24) (b := 21) (by decide), zr_zr, zu_zu]
          refine exq_b (P := ¬ (hnt c ((k : Int) / 4) (((k : Int) / 2) % 2) 1) = 0) (ct := (cod m8_best 71, [some (.inl 21), some (.inr 0), some (.inr b), some (.inr mm), some (.inr (k : Int)), some (.inr 1), o6], [], (zr (zr τ 21 (zu (τ 21) 10 e48)) 24 x))) (cf := (cod m8_best 43, [some (.inl 21), some (.inr 0), some (.inr b), some (.inr mm), some (.inr (k : Int)), some (.inr 1), o6], [], (zr (zr τ 21 (zu (τ 21) 10 e48)) 24 x))) rfl ⟨by omega, by omega⟩ (fun h9 => ?_) (fun h9 => ?_)
          · first
            | (exfalso; omega)
            | (
                refine exq_k 2 (P := none) (g := (cod m8_best 15, [some (.inl 21), some (.inr 0), some (.inr b), some (.inr mm), some (.inr ((k : Int) + 1)), some (.inr 1), o6], [], (zr (zr τ 21 (zu (τ 21) 10 e48)) 24 x))) rfl trivial ?_
                exact ih (k + 1) (by omega) _ _ _ _ _ _ hx (by rw [bsb_n (stp_p (show (k : Int) % 2 = 0 from by omega)) (by omega)]; assumption) (by rw [bsb_n (stp_p (show (k : Int) % 2 = 0 from by omega)) (by omega)]; assumption))
          · first
            | (exfalso; omega)
            | (
                refine exq_k 4 (P := some (0 ≤ (k : Int) ∧ (k : Int) < 2147483648 ∧ 0 < 4 ∧ 4 < 2147483648)) (g := (cod m8_best 47, [some (.inl 21), some (.inr 0), some (.inr b), some (.inr mm), some (.inr (k : Int)), some (.inr 1), o6], [.inr ((k : Int) / 4), .inl 21], (zr (zr τ 21 (zu (τ 21) 10 e48)) 24 x))) rfl (by show 0 ≤ (k : Int) ∧ (k : Int) < 2147483648 ∧ 0 < 4 ∧ 4 < 2147483648; omega) ?_
                refine exq_k 3 (P := some (0 ≤ (k : Int) ∧ (k : Int) < 2147483648 ∧ 0 < 2 ∧ 2 < 2147483648)) (g := (cod m8_best 50, [some (.inl 21), some (.inr 0), some (.inr b), some (.inr mm), some (.inr (k : Int)), some (.inr 1), o6], [.inr ((k : Int) / 2), .inr ((k : Int) / 4), .inl 21], (zr (zr τ 21 (zu (τ 21) 10 e48)) 24 x))) rfl (by show 0 ≤ (k : Int) ∧ (k : Int) < 2147483648 ∧ 0 < 2 ∧ 2 < 2147483648; omega) ?_
                refine exq_k 2 (P := some (0 ≤ ((k : Int) / 2) ∧ ((k : Int) / 2) < 2147483648 ∧ 0 < 2 ∧ 2 < 2147483648)) (g := (cod m8_best 52, [some (.inl 21), some (.inr 0), some (.inr b), some (.inr mm), some (.inr (k : Int)), some (.inr 1), o6], [.inr (((k : Int) / 2) % 2), .inr ((k : Int) / 4), .inl 21], (zr (zr τ 21 (zu (τ 21) 10 e48)) 24 x))) rfl (by show 0 ≤ ((k : Int) / 2) ∧ ((k : Int) / 2) < 2147483648 ∧ 0 < 2 ∧ 2 < 2147483648; omega) ?_
                refine exq_k 1 (P := none) (g := (cod m8_best 53, [some (.inl 21), some (.inr 0), some (.inr b), some (.inr mm), some (.inr (k : Int)), some (.inr 1), o6], [.inr 1, .inr (((k : Int) / 2) % 2), .inr ((k : Int) / 4), .inl 21], (zr (zr τ 21 (zu (τ 21) 10 e48)) 24 x))) rfl trivial ?_
                have hmv : ocn c ((k : Int) / 4) (((k : Int) / 2) % 2) 1 = 1 ∨ ocn c ((k : Int) / 4) (((k : Int) / 2) % 2) 1 = 2 ∨ ocn c ((k : Int) / 4) (((k : Int) / 2) % 2) 1 = 3 := by omega
                obtain ⟨g4, hg4⟩ := m_gainBy (τ := (zr (zr τ 21 (zu (τ 21) 10 e48)) 24 x)) (f := (k : Int) / 4) (r := ((k : Int) / 2) % 2) (s := 1) hI hR hx (by omega) (by omega) (by omega) (ocn_mv hmv) hB
                have hgq := gnb_in hI (f := (k : Int) / 4) (r := ((k : Int) / 2) % 2) (s := 1) (by omega) (by omega) (by omega) (ocn_mv hmv) (by omega)
                clear hh
                refine exq_c hg4 (is := cod m8_best 54) (L := [some (.inl 21), some (.inr 0), some (.inr b), some (.inr mm), some (.inr (k : Int)), some (.inr 1), o6]) (st := []) rfl rfl rfl ?_
                show Exq _ _ (cod m8_best 54, [some (.inl 21), some (.inr 0), some (.inr b), some (.inr mm), some (.inr (k : Int)), some (.inr 1), o6], [.inr (gnb c ((k : Int) / 4) (((k : Int) / 2) % 2) 1)], (zr (zr (zr (zr τ 21 (zu (τ 21) 10 e48)) 24 x) 21 (zu (zu (τ 21) 10 e48) 10 g4)) 24 (τ 22))) _ _
                rw [zr_sw (a := 24) (b := 21) (by decide), zr_zr, zr_zr, zu_zu]
                refine exq_k 2 (P := none) (g := (cod m8_best 56, [some (.inl 21), some (.inr 0), some (.inr b), some (.inr mm), some (.inr (k : Int)), some (.inr 1), some (.inr (gnb c ((k : Int) / 4) (((k : Int) / 2) % 2) 1))], [.inr b], (zr (zr τ 21 (zu (τ 21) 10 g4)) 24 (τ 22)))) rfl trivial ?_
                refine exq_b (P := b < 0) (ct := (cod m8_best 60, [some (.inl 21), some (.inr 0), some (.inr b), some (.inr mm), some (.inr (k : Int)), some (.inr 1), some (.inr (gnb c ((k : Int) / 4) (((k : Int) / 2) % 2) 1))], [], (zr (zr τ 21 (zu (τ 21) 10 g4)) 24 (τ 22)))) (cf := (cod m8_best 57, [some (.inl 21), some (.inr 0), some (.inr b), some (.inr mm), some (.inr (k : Int)), some (.inr 1), some (.inr (gnb c ((k : Int) / 4) (((k : Int) / 2) % 2) 1))], [], (zr (zr τ 21 (zu (τ 21) 10 g4)) 24 (τ 22)))) rfl ⟨by omega, by omega⟩ (fun h10 => ?_) (fun h10 => ?_)
                · first
                  | (exfalso; omega)
                  | (
                      refine exq_k 5 (P := none) (g := (cod m8_best 66, [some (.inl 21), some (.inr 0), some (.inr (k : Int)), some (.inr mm), some (.inr (k : Int)), some (.inr 1), some (.inr (gnb c ((k : Int) / 4) (((k : Int) / 2) % 2) 1))], [.inr (k : Int), .inr (k : Int)], (zr (zr τ 21 (zu (τ 21) 10 g4)) 24 (τ 22)))) rfl trivial ?_
                      refine exq_b (P := ¬ (k : Int) = (k : Int)) (ct := (cod m8_best 69, [some (.inl 21), some (.inr 0), some (.inr (k : Int)), some (.inr mm), some (.inr (k : Int)), some (.inr 1), some (.inr (gnb c ((k : Int) / 4) (((k : Int) / 2) % 2) 1))], [], (zr (zr τ 21 (zu (τ 21) 10 g4)) 24 (τ 22)))) (cf := (cod m8_best 67, [some (.inl 21), some (.inr 0), some (.inr (k : Int)), some (.inr mm), some (.inr (k : Int)), some (.inr 1), some (.inr (gnb c ((k : Int) / 4) (((k : Int) / 2) % 2) 1))], [], (zr (zr τ 21 (zu (τ 21) 10 g4)) 24 (τ 22)))) rfl ⟨⟨by omega, by omega⟩, ⟨by omega, by omega⟩⟩ (fun h11 => ?_) (fun h11 => ?_)
                      · first
                        | (exfalso; omega)
                        | (
                            refine exq_k 4 (P := none) (g := (cod m8_best 15, [some (.inl 21), some (.inr 0), some (.inr (k : Int)), some (.inr mm), some (.inr ((k : Int) + 1)), some (.inr 1), some (.inr (gnb c ((k : Int) / 4) (((k : Int) / 2) % 2) 1))], [], (zr (zr τ 21 (zu (τ 21) 10 g4)) 24 (τ 22)))) rfl trivial ?_
                            exact ih (k + 1) (by omega) _ _ _ _ _ _ h22 (by rw [bsb_t (stp_p (show (k : Int) % 2 = 0 from by omega)) hmv (by rw [← hb, ← hmm]; omega)]) (by rw [bsb_t (stp_p (show (k : Int) % 2 = 0 from by omega)) hmv (by rw [← hb, ← hmm]; omega)]))
                      · first
                        | (exfalso; omega)
                        | (
                            refine exq_k 5 (P := none) (g := (cod m8_best 15, [some (.inl 21), some (.inr 0), some (.inr (k : Int)), some (.inr (gnb c ((k : Int) / 4) (((k : Int) / 2) % 2) 1)), some (.inr ((k : Int) + 1)), some (.inr 1), some (.inr (gnb c ((k : Int) / 4) (((k : Int) / 2) % 2) 1))], [], (zr (zr τ 21 (zu (τ 21) 10 g4)) 24 (τ 22)))) rfl trivial ?_
                            exact ih (k + 1) (by omega) _ _ _ _ _ _ h22 (by rw [bsb_t (stp_p (show (k : Int) % 2 = 0 from by omega)) hmv (by rw [← hb, ← hmm]; omega)]) (by rw [bsb_t (stp_p (show (k : Int) % 2 = 0 from by omega)) hmv (by rw [← hb, ← hmm]; omega)])))
                · first
                  | (exfalso; omega)
                  | (
                      refine exq_k 2 (P := none) (g := (cod m8_best 59, [some (.inl 21), some (.inr 0), some (.inr b), some (.inr mm), some (.inr (k : Int)), some (.inr 1), some (.inr (gnb c ((k : Int) / 4) (((k : Int) / 2) % 2) 1))], [.inr mm, .inr (gnb c ((k : Int) / 4) (((k : Int) / 2) % 2) 1)], (zr (zr τ 21 (zu (τ 21) 10 g4)) 24 (τ 22)))) rfl trivial ?_
                      refine exq_b (P := (gnb c ((k : Int) / 4) (((k : Int) / 2) % 2) 1) ≤ mm) (ct := (cod m8_best 62, [some (.inl 21), some (.inr 0), some (.inr b), some (.inr mm), some (.inr (k : Int)), some (.inr 1), some (.inr (gnb c ((k : Int) / 4) (((k : Int) / 2) % 2) 1))], [], (zr (zr τ 21 (zu (τ 21) 10 g4)) 24 (τ 22)))) (cf := (cod m8_best 60, [some (.inl 21), some (.inr 0), some (.inr b), some (.inr mm), some (.inr (k : Int)), some (.inr 1), some (.inr (gnb c ((k : Int) / 4) (((k : Int) / 2) % 2) 1))], [], (zr (zr τ 21 (zu (τ 21) 10 g4)) 24 (τ 22)))) rfl ⟨⟨by omega, by omega⟩, ⟨by omega, by omega⟩⟩ (fun h12 => ?_) (fun h12 => ?_)
                      · first
                        | (exfalso; omega)
                        | (
                            refine exq_k 4 (P := none) (g := (cod m8_best 66, [some (.inl 21), some (.inr 0), some (.inr b), some (.inr mm), some (.inr (k : Int)), some (.inr 1), some (.inr (gnb c ((k : Int) / 4) (((k : Int) / 2) % 2) 1))], [.inr (k : Int), .inr b], (zr (zr τ 21 (zu (τ 21) 10 g4)) 24 (τ 22)))) rfl trivial ?_
                            refine exq_b (P := ¬ b = (k : Int)) (ct := (cod m8_best 69, [some (.inl 21), some (.inr 0), some (.inr b), some (.inr mm), some (.inr (k : Int)), some (.inr 1), some (.inr (gnb c ((k : Int) / 4) (((k : Int) / 2) % 2) 1))], [], (zr (zr τ 21 (zu (τ 21) 10 g4)) 24 (τ 22)))) (cf := (cod m8_best 67, [some (.inl 21), some (.inr 0), some (.inr b), some (.inr mm), some (.inr (k : Int)), some (.inr 1), some (.inr (gnb c ((k : Int) / 4) (((k : Int) / 2) % 2) 1))], [], (zr (zr τ 21 (zu (τ 21) 10 g4)) 24 (τ 22)))) rfl ⟨⟨by omega, by omega⟩, ⟨by omega, by omega⟩⟩ (fun h13 => ?_) (fun h13 => ?_)
                            · first
                              | (exfalso; omega)
                              | (
                                  refine exq_k 4 (P := none) (g := (cod m8_best 15, [some (.inl 21), some (.inr 0), some (.inr b), some (.inr mm), some (.inr ((k : Int) + 1)), some (.inr 1), some (.inr (gnb c ((k : Int) / 4) (((k : Int) / 2) % 2) 1))], [], (zr (zr τ 21 (zu (τ 21) 10 g4)) 24 (τ 22)))) rfl trivial ?_
                                  exact ih (k + 1) (by omega) _ _ _ _ _ _ h22 (by rw [bsb_f (stp_p (show (k : Int) % 2 = 0 from by omega)) hmv (by rw [← hb, ← hmm]; omega)]; assumption) (by rw [bsb_f (stp_p (show (k : Int) % 2 = 0 from by omega)) hmv (by rw [← hb, ← hmm]; omega)]; assumption))
                            · first
                              | (exfalso; omega)
                              | (
                                  refine exq_k 5 (P := none) (g := (cod m8_best 15, [some (.inl 21), some (.inr 0), some (.inr b), some (.inr (gnb c ((k : Int) / 4) (((k : Int) / 2) % 2) 1)), some (.inr ((k : Int) + 1)), some (.inr 1), some (.inr (gnb c ((k : Int) / 4) (((k : Int) / 2) % 2) 1))], [], (zr (zr τ 21 (zu (τ 21) 10 g4)) 24 (τ 22)))) rfl trivial ?_
                                  exact ih (k + 1) (by omega) _ _ _ _ _ _ h22 (by rw [bsb_t (stp_p (show (k : Int) % 2 = 0 from by omega)) hmv (by rw [← hb, ← hmm]; omega)]) (by rw [bsb_t (stp_p (show (k : Int) % 2 = 0 from by omega)) hmv (by rw [← hb, ← hmm]; omega)])))
                      · first
                        | (exfalso; omega)
                        | (
                            refine exq_k 5 (P := none) (g := (cod m8_best 66, [some (.inl 21), some (.inr 0), some (.inr (k : Int)), some (.inr mm), some (.inr (k : Int)), some (.inr 1), some (.inr (gnb c ((k : Int) / 4) (((k : Int) / 2) % 2) 1))], [.inr (k : Int), .inr (k : Int)], (zr (zr τ 21 (zu (τ 21) 10 g4)) 24 (τ 22)))) rfl trivial ?_
                            refine exq_b (P := ¬ (k : Int) = (k : Int)) (ct := (cod m8_best 69, [some (.inl 21), some (.inr 0), some (.inr (k : Int)), some (.inr mm), some (.inr (k : Int)), some (.inr 1), some (.inr (gnb c ((k : Int) / 4) (((k : Int) / 2) % 2) 1))], [], (zr (zr τ 21 (zu (τ 21) 10 g4)) 24 (τ 22)))) (cf := (cod m8_best 67, [some (.inl 21), some (.inr 0), some (.inr (k : Int)), some (.inr mm), some (.inr (k : Int)), some (.inr 1), some (.inr (gnb c ((k : Int) / 4) (((k : Int) / 2) % 2) 1))], [], (zr (zr τ 21 (zu (τ 21) 10 g4)) 24 (τ 22)))) rfl ⟨⟨by omega, by omega⟩, ⟨by omega, by omega⟩⟩ (fun h14 => ?_) (fun h14 => ?_)
                            · first
                              | (exfalso; omega)
                              | (
                                  refine exq_k 4 (P := none) (g := (cod m8_best 15, [some (.inl 21), some (.inr 0), some (.inr (k : Int)), some (.inr mm), some (.inr ((k : Int) + 1)), some (.inr 1), some (.inr (gnb c ((k : Int) / 4) (((k : Int) / 2) % 2) 1))], [], (zr (zr τ 21 (zu (τ 21) 10 g4)) 24 (τ 22)))) rfl trivial ?_
                                  exact ih (k + 1) (by omega) _ _ _ _ _ _ h22 (by rw [bsb_t (stp_p (show (k : Int) % 2 = 0 from by omega)) hmv (by rw [← hb, ← hmm]; omega)]) (by rw [bsb_t (stp_p (show (k : Int) % 2 = 0 from by omega)) hmv (by rw [← hb, ← hmm]; omega)]))
                            · first
                              | (exfalso; omega)
                              | (
                                  refine exq_k 5 (P := none) (g := (cod m8_best 15, [some (.inl 21), some (.inr 0), some (.inr (k : Int)), some (.inr (gnb c ((k : Int) / 4) (((k : Int) / 2) % 2) 1)), some (.inr ((k : Int) + 1)), some (.inr 1), some (.inr (gnb c ((k : Int) / 4) (((k : Int) / 2) % 2) 1))], [], (zr (zr τ 21 (zu (τ 21) 10 g4)) 24 (τ 22)))) rfl trivial ?_
                                  exact ih (k + 1) (by omega) _ _ _ _ _ _ h22 (by rw [bsb_t (stp_p (show (k : Int) % 2 = 0 from by omega)) hmv (by rw [← hb, ← hmm]; omega)]) (by rw [bsb_t (stp_p (show (k : Int) % 2 = 0 from by omega)) hmv (by rw [← hb, ← hmm]; omega)]))))))
theorem d_best_0 {τ : SZ} {c : Nat → Int} {B : Int} (hI : Iv B c) (hR : Rs c (τ 22)) {M : Nat} (hM : (M : Int) = 4 * cel c 107) (h24 : Tz (τ 24)) (hB : B + 9 ≤ 100000000) : RZq 9 m8_best [.inl 21, .inr 0] τ (Qb τ (if (bsb c M).1 < 0 then 0 else if (0 : Int) = 0 then (bsb c M).1 / 4 else if (0 : Int) = 1 then (bsb c M).1 / 2 % 2 else 1 - (bsb c M).1 % 2) (if (bsb c M).1 < 0 then 2 else 0)) := by
  have ein : b2 ((0 : Int) ≤ 0 ∧ (0 : Int) ≤ 2) = 1 := b2_t ⟨by decide, by decide⟩
  refine Exq.call ?_ rfl rfl
  show Exq _ _ (cod m8_best 0, [some (.inl 21), some (.inr 0), none, none, none, none, none], [], τ) _ _
  refine exq_k 3 (P := none) (g := (cod m8_best 3, [some (.inl 21), some (.inr 0), none, none, none, none, none], [.inr 2, .inr 0, .inr 0], τ)) rfl trivial ?_
  refine exq_c (m_in (τ := τ) (v := 0) (a := 0) (b := 2) ⟨by omega, by omega⟩ ⟨by omega, by omega⟩ ⟨by omega, by omega⟩) (is := cod m8_best 4) (L := [some (.inl 21), some (.inr 0), none, none, none, none, none]) (st := []) rfl rfl rfl ?_
  show Exq _ _ (cod m8_best 4, [some (.inl 21), some (.inr 0), none, none, none, none, none], [.inr (b2 (0 ≤ 0 ∧ 0 ≤ 2))], τ) _ _
  refine exq_b (P := ¬ (b2 (0 ≤ 0 ∧ 0 ≤ 2)) = 0) (ct := (cod m8_best 9, [some (.inl 21), some (.inr 0), none, none, none, none, none], [], τ)) (cf := (cod m8_best 5, [some (.inl 21), some (.inr 0), none, none, none, none, none], [], τ)) rfl b2_rng (fun _ => ?_) (fun hh => absurd (by omega) hh)
  refine exq_k 6 (P := none) (g := (cod m8_best 15, [some (.inl 21), some (.inr 0), some (.inr (-1)), some (.inr 0), some (.inr 0), none, none], [], τ)) rfl trivial ?_
  have q := lp_best_m0 (τ := τ) hI hR hM hB M 0 (by omega) (-1) 0 (τ 21 10) (τ 24) none none h24 rfl rfl
  rw [show zr (zr τ 21 (zu (τ 21) 10 (τ 21 10))) 24 (τ 24) = τ from by rw [zu_self, zr_self, zr_self]] at q
  exact q
set_option maxHeartbeats 1000000 in
theorem lp_best_m1 {τ : SZ} {c : Nat → Int} {B : Int} (hI : Iv B c) (hR : Rs c (τ 22)) {M : Nat} (hM : (M : Int) = 4 * cel c 107) (hB : B + 9 ≤ 100000000) : ∀ (j k : Nat), k + j = M → ∀ (b mm e : Int) (x : Nat → Int) (o5 o6 : Option VZ), Tz x → b = (bsb c k).1 → mm = (bsb c k).2 → Exq 8 m8_best (cod m8_best 15, [some (.inl 21), some (.inr 1), some (.inr b), some (.inr mm), some (.inr (k : Int)), o5, o6], [], (zr (zr τ 21 (zu (τ 21) 10 e)) 24 x)) 0 (Qb τ (if (bsb c M).1 < 0 then 0 else if (1 : Int) = 0 then (bsb c M).1 / 4 else if (1 : Int) = 1 then (bsb c M).1 / 2 % 2 else 1 - (bsb c M).1 % 2) (if (bsb c M).1 < 0 then 2 else 0)) := by
  have hS := hI.1
  have hC := hI.2.1
  have hN := hS.n
  have h22 := hR.tz
  have h0 := hR.n hN.1
  intro j
  induction j with
  | zero =>
    intro k hk b mm e x o5 o6 hx hb hmm
    have hbi := bsb_in hI (by omega) k (by omega)
    have hkM : k = M := by omega
    subst hkM
    refine exq_k 6 (P := some (0 ≤ 0 ∧ 0 < ((109 : Nat) : Int))) (g := (cod m8_best 21, [some (.inl 21), some (.inr 1), some (.inr b), some (.inr mm), some (.inr (k : Int)), o5, o6], [.inr ((τ 22) 0), .inr 4, .inr (k : Int)], (zr (zr τ 21 (zu (τ 21) 10 e)) 24 x))) rfl (by show 0 ≤ 0 ∧ 0 < ((109 : Nat) : Int); omega) ?_
    refine exq_k 1 (P := none) (g := (cod m8_best 22, [some (.inl 21), some (.inr 1), some (.inr b), some (.inr mm), some (.inr (k : Int)), o5, o6], [.inr (4 * ((τ 22) 0)), .inr (k : Int)], (zr (zr τ 21 (zu (τ 21) 10 e)) 24 x))) rfl trivial ?_
    refine exq_b (P := (4 * ((τ 22) 0)) ≤ (k : Int)) (ct := (cod m8_best 73, [some (.inl 21), some (.inr 1), some (.inr b), some (.inr mm), some (.inr (k : Int)), o5, o6], [], (zr (zr τ 21 (zu (τ 21) 10 e)) 24 x))) (cf := (cod m8_best 23, [some (.inl 21), some (.inr 1), some (.inr b), some (.inr mm), some (.inr (k : Int)), o5, o6], [], (zr (zr τ 21 (zu (τ 21) 10 e)) 24 x))) rfl ⟨⟨by omega, by omega⟩, ⟨by omega, by omega⟩⟩ (fun _ => ?_) (fun hh => absurd (by omega) hh)
    refine exq_k 2 (P := none) (g := (cod m8_best 75, [some (.inl 21), some (.inr 1), some (.inr b), some (.inr mm), some (.inr (k : Int)), o5, o6], [.inr b, .inl 21], (zr (zr τ 21 (zu (τ 21) 10 e)) 24 x))) rfl trivial ?_
    refine exq_b (P := 0 ≤ b) (ct := (cod m8_best 78, [some (.inl 21), some (.inr 1), some (.inr b), some (.inr mm), some (.inr (k : Int)), o5, o6], [.inl 21], (zr (zr τ 21 (zu (τ 21) 10 e)) 24 x))) (cf := (cod m8_best 76, [some (.inl 21), some (.inr 1), some (.inr b), some (.inr mm), some (.inr (k : Int)), o5, o6], [.inl 21], (zr (zr τ 21 (zu (τ 21) 10 e)) 24 x))) rfl ⟨by omega, by omega⟩ (fun h2 => ?_) (fun h2 => ?_)
    · first
      | (exfalso; omega)
      | (
          refine exq_k 2 (P := none) (g := (cod m8_best 80, [some (.inl 21), some (.inr 1), some (.inr b), some (.inr mm), some (.inr (k : Int)), o5, o6], [], (zr (zr (zr τ 21 (zu (τ 21) 10 e)) 24 x) 21 (zu (zu (τ 21) 10 e) 7 0)))) rfl trivial ?_
          rw [zr_sw (a := 24) (b := 21) (by decide), zr_zr]
          refine exq_k 2 (P := none) (g := (cod m8_best 82, [some (.inl 21), some (.inr 1), some (.inr b), some (.inr mm), some (.inr (k : Int)), o5, o6], [.inr 0], (zr (zr τ 21 (zu (zu (τ 21) 10 e) 7 0)) 24 x))) rfl trivial ?_
          refine exq_b (P := 0 ≤ 0) (ct := (cod m8_best 85, [some (.inl 21), some (.inr 1), some (.inr b), some (.inr mm), some (.inr (k : Int)), o5, o6], [], (zr (zr τ 21 (zu (zu (τ 21) 10 e) 7 0)) 24 x))) (cf := (cod m8_best 83, [some (.inl 21), some (.inr 1), some (.inr b), some (.inr mm), some (.inr (k : Int)), o5, o6], [], (zr (zr τ 21 (zu (zu (τ 21) 10 e) 7 0)) 24 x))) rfl ⟨by decide, by decide⟩ (fun _ => ?_) (fun hh => absurd (by decide) hh)
          refine exq_k 1 (P := none) (g := (cod m8_best 86, [some (.inl 21), some (.inr 1), some (.inr b), some (.inr mm), some (.inr (k : Int)), o5, o6], [.inr 1], (zr (zr τ 21 (zu (zu (τ 21) 10 e) 7 0)) 24 x))) rfl trivial ?_
          refine exq_b (P := ¬ 1 = 0) (ct := (cod m8_best 91, [some (.inl 21), some (.inr 1), some (.inr b), some (.inr mm), some (.inr (k : Int)), o5, o6], [], (zr (zr τ 21 (zu (zu (τ 21) 10 e) 7 0)) 24 x))) (cf := (cod m8_best 87, [some (.inl 21), some (.inr 1), some (.inr b), some (.inr mm), some (.inr (k : Int)), o5, o6], [], (zr (zr τ 21 (zu (zu (τ 21) 10 e) 7 0)) 24 x))) rfl ⟨by decide, by decide⟩ (fun _ => ?_) (fun hh => absurd (by decide) hh)
          refine exq_k 2 (P := none) (g := (cod m8_best 93, [some (.inl 21), some (.inr 1), some (.inr b), some (.inr mm), some (.inr (k : Int)), o5, o6], [.inr 1, .inr 1], (zr (zr τ 21 (zu (zu (τ 21) 10 e) 7 0)) 24 x))) rfl trivial ?_
          refine exq_b (P := ¬ 1 = 1) (ct := (cod m8_best 100, [some (.inl 21), some (.inr 1), some (.inr b), some (.inr mm), some (.inr (k : Int)), o5, o6], [], (zr (zr τ 21 (zu (zu (τ 21) 10 e) 7 0)) 24 x))) (cf := (cod m8_best 94, [some (.inl 21), some (.inr 1), some (.inr b), some (.inr mm), some (.inr (k : Int)), o5, o6], [], (zr (zr τ 21 (zu (zu (τ 21) 10 e) 7 0)) 24 x))) rfl ⟨⟨by decide, by decide⟩, ⟨by decide, by decide⟩⟩ (fun hh => absurd hh (by decide)) (fun _ => ?_)
          refine exq_k 3 (P := some (0 ≤ b ∧ b < 2147483648 ∧ 0 < 2 ∧ 2 < 2147483648)) (g := (cod m8_best 97, [some (.inl 21), some (.inr 1), some (.inr b), some (.inr mm), some (.inr (k : Int)), o5, o6], [.inr (b / 2)], (zr (zr τ 21 (zu (zu (τ 21) 10 e) 7 0)) 24 x))) rfl (by show 0 ≤ b ∧ b < 2147483648 ∧ 0 < 2 ∧ 2 < 2147483648; omega) ?_
          refine exq_k 2 (P := some (0 ≤ (b / 2) ∧ (b / 2) < 2147483648 ∧ 0 < 2 ∧ 2 < 2147483648)) (g := (cod m8_best 99, [some (.inl 21), some (.inr 1), some (.inr b), some (.inr mm), some (.inr (k : Int)), o5, o6], [.inr ((b / 2) % 2)], (zr (zr τ 21 (zu (zu (τ 21) 10 e) 7 0)) 24 x))) rfl (by show 0 ≤ (b / 2) ∧ (b / 2) < 2147483648 ∧ 0 < 2 ∧ 2 < 2147483648; omega) ?_
          refine exq_k 1 (P := none) (g := (cod m8_best 105, [some (.inl 21), some (.inr 1), some (.inr b), some (.inr mm), some (.inr (k : Int)), o5, o6], [.inr ((b / 2) % 2)], (zr (zr τ 21 (zu (zu (τ 21) 10 e) 7 0)) 24 x))) rfl trivial ?_
          exact exq_r rfl trivial rfl (qb4 hx (by (repeat (first | rw [if_pos (by omega)] | rw [if_neg (by omega)])); first | done | rfl | (rw [← hb]; done) | (rw [← hb]; (repeat (first | rw [if_pos (by omega)] | rw [if_neg (by omega)])); first | done | rfl)) (by (repeat (first | rw [if_pos (by omega)] | rw [if_neg (by omega)])); first | done | rfl)))
    · first
      | (exfalso; omega)
      | (
          refine exq_k 3 (P := none) (g := (cod m8_best 80, [some (.inl 21), some (.inr 1), some (.inr b), some (.inr mm), some (.inr (k : Int)), o5, o6], [], (zr (zr (zr τ 21 (zu (τ 21) 10 e)) 24 x) 21 (zu (zu (τ 21) 10 e) 7 2)))) rfl trivial ?_
          rw [zr_sw (a := 24) (b := 21) (by decide), zr_zr]
          refine exq_k 2 (P := none) (g := (cod m8_best 82, [some (.inl 21), some (.inr 1), some (.inr b), some (.inr mm), some (.inr (k : Int)), o5, o6], [.inr 2], (zr (zr τ 21 (zu (zu (τ 21) 10 e) 7 2)) 24 x))) rfl trivial ?_
          refine exq_b (P := 2 ≤ 0) (ct := (cod m8_best 85, [some (.inl 21), some (.inr 1), some (.inr b), some (.inr mm), some (.inr (k : Int)), o5, o6], [], (zr (zr τ 21 (zu (zu (τ 21) 10 e) 7 2)) 24 x))) (cf := (cod m8_best 83, [some (.inl 21), some (.inr 1), some (.inr b), some (.inr mm), some (.inr (k : Int)), o5, o6], [], (zr (zr τ 21 (zu (zu (τ 21) 10 e) 7 2)) 24 x))) rfl ⟨by decide, by decide⟩ (fun hh => absurd hh (by decide)) (fun _ => ?_)
          refine exq_k 2 (P := none) (g := (cod m8_best 105, [some (.inl 21), some (.inr 1), some (.inr b), some (.inr mm), some (.inr (k : Int)), o5, o6], [.inr 0], (zr (zr τ 21 (zu (zu (τ 21) 10 e) 7 2)) 24 x))) rfl trivial ?_
          exact exq_r rfl trivial rfl (qb4 hx (by (repeat (first | rw [if_pos (by omega)] | rw [if_neg (by omega)])); first | done | rfl | (rw [← hb]; done) | (rw [← hb]; (repeat (first | rw [if_pos (by omega)] | rw [if_neg (by omega)])); first | done | rfl)) (by (repeat (first | rw [if_pos (by omega)] | rw [if_neg (by omega)])); first | done | rfl)))
  | succ j ih =>
    intro k hk b mm e x o5 o6 hx hb hmm
    have hbi := bsb_in hI (by omega) k (by omega)
    refine exq_k 6 (P := some (0 ≤ 0 ∧ 0 < ((109 : Nat) : Int))) (g := (cod m8_best 21, [some (.inl 21), some (.inr 1), some (.inr b), some (.inr mm), some (.inr (k : Int)), o5, o6], [.inr ((τ 22) 0), .inr 4, .inr (k : Int)], (zr (zr τ 21 (zu (τ 21) 10 e)) 24 x))) rfl (by show 0 ≤ 0 ∧ 0 < ((109 : Nat) : Int); omega) ?_
    refine exq_k 1 (P := none) (g := (cod m8_best 22, [some (.inl 21), some (.inr 1), some (.inr b), some (.inr mm), some (.inr (k : Int)), o5, o6], [.inr (4 * ((τ 22) 0)), .inr (k : Int)], (zr (zr τ 21 (zu (τ 21) 10 e)) 24 x))) rfl trivial ?_
    refine exq_b (P := (4 * ((τ 22) 0)) ≤ (k : Int)) (ct := (cod m8_best 73, [some (.inl 21), some (.inr 1), some (.inr b), some (.inr mm), some (.inr (k : Int)), o5, o6], [], (zr (zr τ 21 (zu (τ 21) 10 e)) 24 x))) (cf := (cod m8_best 23, [some (.inl 21), some (.inr 1), some (.inr b), some (.inr mm), some (.inr (k : Int)), o5, o6], [], (zr (zr τ 21 (zu (τ 21) 10 e)) 24 x))) rfl ⟨⟨by omega, by omega⟩, ⟨by omega, by omega⟩⟩ (fun hh => absurd hh (by omega)) (fun _ => ?_)
    refine exq_k 3 (P := some (0 ≤ (k : Int) ∧ (k : Int) < 2147483648 ∧ 0 < 2 ∧ 2 < 2147483648)) (g := (cod m8_best 26, [some (.inl 21), some (.inr 1), some (.inr b), some (.inr mm), some (.inr (k : Int)), o5, o6], [.inr ((k : Int) % 2)], (zr (zr τ 21 (zu (τ 21) 10 e)) 24 x))) rfl (by show 0 ≤ (k : Int) ∧ (k : Int) < 2147483648 ∧ 0 < 2 ∧ 2 < 2147483648; omega) ?_
    refine exq_b (P := ¬ ((k : Int) % 2) = 0) (ct := (cod m8_best 29, [some (.inl 21), some (.inr 1), some (.inr b), some (.inr mm), some (.inr (k : Int)), o5, o6], [], (zr (zr τ 21 (zu (τ 21) 10 e)) 24 x))) (cf := (cod m8_best 27, [some (.inl 21), some (.inr 1), some (.inr b), some (.inr mm), some (.inr (k : Int)), o5, o6], [], (zr (zr τ 21 (zu (τ 21) 10 e)) 24 x))) rfl ⟨by omega, by omega⟩ (fun h2 => ?_) (fun h2 => ?_)
    · first
      | (exfalso; omega)
      | (
          refine exq_k 6 (P := some (0 ≤ (k : Int) ∧ (k : Int) < 2147483648 ∧ 0 < 4 ∧ 4 < 2147483648)) (g := (cod m8_best 35, [some (.inl 21), some (.inr 1), some (.inr b), some (.inr mm), some (.inr (k : Int)), some (.inr (-1)), o6], [.inr ((k : Int) / 4), .inl 21], (zr (zr τ 21 (zu (τ 21) 10 e)) 24 x))) rfl (by show 0 ≤ (k : Int) ∧ (k : Int) < 2147483648 ∧ 0 < 4 ∧ 4 < 2147483648; omega) ?_
          refine exq_k 3 (P := some (0 ≤ (k : Int) ∧ (k : Int) < 2147483648 ∧ 0 < 2 ∧ 2 < 2147483648)) (g := (cod m8_best 38, [some (.inl 21), some (.inr 1), some (.inr b), some (.inr mm), some (.inr (k : Int)), some (.inr (-1)), o6], [.inr ((k : Int) / 2), .inr ((k : Int) / 4), .inl 21], (zr (zr τ 21 (zu (τ 21) 10 e)) 24 x))) rfl (by show 0 ≤ (k : Int) ∧ (k : Int) < 2147483648 ∧ 0 < 2 ∧ 2 < 2147483648; omega) ?_
          refine exq_k 2 (P := some (0 ≤ ((k : Int) / 2) ∧ ((k : Int) / 2) < 2147483648 ∧ 0 < 2 ∧ 2 < 2147483648)) (g := (cod m8_best 40, [some (.inl 21), some (.inr 1), some (.inr b), some (.inr mm), some (.inr (k : Int)), some (.inr (-1)), o6], [.inr (((k : Int) / 2) % 2), .inr ((k : Int) / 4), .inl 21], (zr (zr τ 21 (zu (τ 21) 10 e)) 24 x))) rfl (by show 0 ≤ ((k : Int) / 2) ∧ ((k : Int) / 2) < 2147483648 ∧ 0 < 2 ∧ 2 < 2147483648; omega) ?_
          refine exq_k 1 (P := none) (g := (cod m8_best 41, [some (.inl 21), some (.inr 1), some (.inr b), some (.inr mm), some (.inr (k : Int)), some (.inr (-1)), o6], [.inr (-1), .inr (((k : Int) / 2) % 2), .inr ((k : Int) / 4), .inl 21], (zr (zr τ 21 (zu (τ 21) 10 e)) 24 x))) rfl trivial ?_
          obtain ⟨e49, he49, hc49⟩ := m_hindersInTurn (τ := (zr (zr τ 21 (zu (τ 21) 10 e)) 24 x)) (f := (k : Int) / 4) (r := ((k : Int) / 2) % 2) (s := (-1)) hI hR (by omega) (by omega) (by omega)
          have hh := hnt_in c ((k : Int) / 4) (((k : Int) / 2) % 2) (-1)
          refine exq_c hc49 (is := cod m8_best 42) (L := [some (.inl 21), some (.inr 1), some (.inr b), some (.inr mm), some (.inr (k : Int)), some (.inr (-1)), o6]) (st := []) rfl rfl rfl ?_
          show Exq _ _ (cod m8_best 42, [some (.inl 21), some (.inr 1), some (.inr b), some (.inr mm), some (.inr (k : Int)), some (.inr (-1)), o6], [.inr (hnt c ((k : Int) / 4) (((k : Int) / 2) % 2) (-1))], (zr (zr (zr τ 21 (zu (τ 21) 10 e)) 24 x) 21 (zu (zu (τ 21) 10 e) 10 e49))) _ _
          rw [zr_sw (a := 24) (b := 21) (by decide), zr_zr, zu_zu]
          refine exq_b (P := ¬ (hnt c ((k : Int) / 4) (((k : Int) / 2) % 2) (-1)) = 0) (ct := (cod m8_best 71, [some (.inl 21), some (.inr 1), some (.inr b), some (.inr mm), some (.inr (k : Int)), some (.inr (-1)), o6], [], (zr (zr τ 21 (zu (τ 21) 10 e49)) 24 x))) (cf := (cod m8_best 43, [some (.inl 21), some (.inr 1), some (.inr b), some (.inr mm), some (.inr (k : Int)), some (.inr (-1)), o6], [], (zr (zr τ 21 (zu (τ 21) 10 e49)) 24 x))) rfl ⟨by omega, by omega⟩ (fun h3 => ?_) (fun h3 => ?_)
          · first
            | (exfalso; omega)
            | (
                refine exq_k 2 (P := none) (g := (cod m8_best 15, [some (.inl 21), some (.inr 1), some (.inr b), some (.inr mm), some (.inr ((k : Int) + 1)), some (.inr (-1)), o6], [], (zr (zr τ 21 (zu (τ 21) 10 e49)) 24 x))) rfl trivial ?_
                exact ih (k + 1) (by omega) _ _ _ _ _ _ hx (by rw [bsb_n (stp_n (show ¬ (k : Int) % 2 = 0 from by omega)) (by omega)]; assumption) (by rw [bsb_n (stp_n (show ¬ (k : Int) % 2 = 0 from by omega)) (by omega)]; assumption))
          · first
            | (exfalso; omega)
            | (
                refine exq_k 4 (P := some (0 ≤ (k : Int) ∧ (k : Int) < 2147483648 ∧ 0 < 4 ∧ 4 < 2147483648)) (g := (cod m8_best 47, [some (.inl 21), some (.inr 1), some (.inr b), some (.inr mm), some (.inr (k : Int)), some (.inr (-1)), o6], [.inr ((k : Int) / 4), .inl 21], (zr (zr τ 21 (zu (τ 21) 10 e49)) 24 x))) rfl (by show 0 ≤ (k : Int) ∧ (k : Int) < 2147483648 ∧ 0 < 4 ∧ 4 < 2147483648; omega) ?_
                refine exq_k 3 (P := some (0 ≤ (k : Int) ∧ (k : Int) < 2147483648 ∧ 0 < 2 ∧ 2 < 2147483648)) (g := (cod m8_best 50, [some (.inl 21), some (.inr 1), some (.inr b), some (.inr mm), some (.inr (k : Int)), some (.inr (-1)), o6], [.inr ((k : Int) / 2), .inr ((k : Int) / 4), .inl 21], (zr (zr τ 21 (zu (τ 21) 10 e49)) 24 x))) rfl (by show 0 ≤ (k : Int) ∧ (k : Int) < 2147483648 ∧ 0 < 2 ∧ 2 < 2147483648; omega) ?_
                refine exq_k 2 (P := some (0 ≤ ((k : Int) / 2) ∧ ((k : Int) / 2) < 2147483648 ∧ 0 < 2 ∧ 2 < 2147483648)) (g := (cod m8_best 52, [some (.inl 21), some (.inr 1), some (.inr b), some (.inr mm), some (.inr (k : Int)), some (.inr (-1)), o6], [.inr (((k : Int) / 2) % 2), .inr ((k : Int) / 4), .inl 21], (zr (zr τ 21 (zu (τ 21) 10 e49)) 24 x))) rfl (by show 0 ≤ ((k : Int) / 2) ∧ ((k : Int) / 2) < 2147483648 ∧ 0 < 2 ∧ 2 < 2147483648; omega) ?_
                refine exq_k 1 (P := none) (g := (cod m8_best 53, [some (.inl 21), some (.inr 1), some (.inr b), some (.inr mm), some (.inr (k : Int)), some (.inr (-1)), o6], [.inr (-1), .inr (((k : Int) / 2) % 2), .inr ((k : Int) / 4), .inl 21], (zr (zr τ 21 (zu (τ 21) 10 e49)) 24 x))) rfl trivial ?_
                have hmv : ocn c ((k : Int) / 4) (((k : Int) / 2) % 2) (-1) = 1 ∨ ocn c ((k : Int) / 4) (((k : Int) / 2) % 2) (-1) = 2 ∨ ocn c ((k : Int) / 4) (((k : Int) / 2) % 2) (-1) = 3 := by omega
                obtain ⟨g5, hg5⟩ := m_gainBy (τ := (zr (zr τ 21 (zu (τ 21) 10 e49)) 24 x)) (f := (k : Int) / 4) (r := ((k : Int) / 2) % 2) (s := (-1)) hI hR hx (by omega) (by omega) (by omega) (ocn_mv hmv) hB
                have hgq := gnb_in hI (f := (k : Int) / 4) (r := ((k : Int) / 2) % 2) (s := (-1)) (by omega) (by omega) (by omega) (ocn_mv hmv) (by omega)
                clear hh
                refine exq_c hg5 (is := cod m8_best 54) (L := [some (.inl 21), some (.inr 1), some (.inr b), some (.inr mm), some (.inr (k : Int)), some (.inr (-1)), o6]) (st := []) rfl rfl rfl ?_
                show Exq _ _ (cod m8_best 54, [some (.inl 21), some (.inr 1), some (.inr b), some (.inr mm), some (.inr (k : Int)), some (.inr (-1)), o6], [.inr (gnb c ((k : Int) / 4) (((k : Int) / 2) % 2) (-1))], (zr (zr (zr (zr τ 21 (zu (τ 21) 10 e49)) 24 x) 21 (zu (zu (τ 21) 10 e49) 10 g5)) 24 (τ 22))) _ _
                rw [zr_sw (a := 24) (b := 21) (by decide), zr_zr, zr_zr, zu_zu]
                refine exq_k 2 (P := none) (g := (cod m8_best 56, [some (.inl 21), some (.inr 1), some (.inr b), some (.inr mm), some (.inr (k : Int)), some (.inr (-1)), some (.inr (gnb c ((k : Int) / 4) (((k : Int) / 2) % 2) (-1)))], [.inr b], (zr (zr τ 21 (zu (τ 21) 10 g5)) 24 (τ 22)))) rfl trivial ?_
                refine exq_b (P := b < 0) (ct := (cod m8_best 60, [some (.inl 21), some (.inr 1), some (.inr b), some (.inr mm), some (.inr (k : Int)), some (.inr (-1)), some (.inr (gnb c ((k : Int) / 4) (((k : Int) / 2) % 2) (-1)))], [], (zr (zr τ 21 (zu (τ 21) 10 g5)) 24 (τ 22)))) (cf := (cod m8_best 57, [some (.inl 21), some (.inr 1), some (.inr b), some (.inr mm), some (.inr (k : Int)), some (.inr (-1)), some (.inr (gnb c ((k : Int) / 4) (((k : Int) / 2) % 2) (-1)))], [], (zr (zr τ 21 (zu (τ 21) 10 g5)) 24 (τ 22)))) rfl ⟨by omega, by omega⟩ (fun h4 => ?_) (fun h4 => ?_)
                · first
                  | (exfalso; omega)
                  | (
                      refine exq_k 5 (P := none) (g := (cod m8_best 66, [some (.inl 21), some (.inr 1), some (.inr (k : Int)), some (.inr mm), some (.inr (k : Int)), some (.inr (-1)), some (.inr (gnb c ((k : Int) / 4) (((k : Int) / 2) % 2) (-1)))], [.inr (k : Int), .inr (k : Int)], (zr (zr τ 21 (zu (τ 21) 10 g5)) 24 (τ 22)))) rfl trivial ?_
                      refine exq_b (P := ¬ (k : Int) = (k : Int)) (ct := (cod m8_best 69, [some (.inl 21), some (.inr 1), some (.inr (k : Int)), some (.inr mm), some (.inr (k : Int)), some (.inr (-1)), some (.inr (gnb c ((k : Int) / 4) (((k : Int) / 2) % 2) (-1)))], [], (zr (zr τ 21 (zu (τ 21) 10 g5)) 24 (τ 22)))) (cf := (cod m8_best 67, [some (.inl 21), some (.inr 1), some (.inr (k : Int)), some (.inr mm), some (.inr (k : Int)), some (.inr (-1)), some (.inr (gnb c ((k : Int) / 4) (((k : Int) / 2) % 2) (-1)))], [], (zr (zr τ 21 (zu (τ 21) 10 g5)) 24 (τ 22)))) rfl ⟨⟨by omega, by omega⟩, ⟨by omega, by omega⟩⟩ (fun h5 => ?_) (fun h5 => ?_)
                      · first
                        | (exfalso; omega)
                        | (
                            refine exq_k 4 (P := none) (g := (cod m8_best 15, [some (.inl 21), some (.inr 1), some (.inr (k : Int)), some (.inr mm), some (.inr ((k : Int) + 1)), some (.inr (-1)), some (.inr (gnb c ((k : Int) / 4) (((k : Int) / 2) % 2) (-1)))], [], (zr (zr τ 21 (zu (τ 21) 10 g5)) 24 (τ 22)))) rfl trivial ?_
                            exact ih (k + 1) (by omega) _ _ _ _ _ _ h22 (by rw [bsb_t (stp_n (show ¬ (k : Int) % 2 = 0 from by omega)) hmv (by rw [← hb, ← hmm]; omega)]) (by rw [bsb_t (stp_n (show ¬ (k : Int) % 2 = 0 from by omega)) hmv (by rw [← hb, ← hmm]; omega)]))
                      · first
                        | (exfalso; omega)
                        | (
                            refine exq_k 5 (P := none) (g := (cod m8_best 15, [some (.inl 21), some (.inr 1), some (.inr (k : Int)), some (.inr (gnb c ((k : Int) / 4) (((k : Int) / 2) % 2) (-1))), some (.inr ((k : Int) + 1)), some (.inr (-1)), some (.inr (gnb c ((k : Int) / 4) (((k : Int) / 2) % 2) (-1)))], [], (zr (zr τ 21 (zu (τ 21) 10 g5)) 24 (τ 22)))) rfl trivial ?_
                            exact ih (k + 1) (by omega) _ _ _ _ _ _ h22 (by rw [bsb_t (stp_n (show ¬ (k : Int) % 2 = 0 from by omega)) hmv (by rw [← hb, ← hmm]; omega)]) (by rw [bsb_t (stp_n (show ¬ (k : Int) % 2 = 0 from by omega)) hmv (by rw [← hb, ← hmm]; omega)])))
                · first
                  | (exfalso; omega)
                  | (
                      refine exq_k 2 (P := none) (g := (cod m8_best 59, [some (.inl 21), some (.inr 1), some (.inr b), some (.inr mm), some (.inr (k : Int)), some (.inr (-1)), some (.inr (gnb c ((k : Int) / 4) (((k : Int) / 2) % 2) (-1)))], [.inr mm, .inr (gnb c ((k : Int) / 4) (((k : Int) / 2) % 2) (-1))], (zr (zr τ 21 (zu (τ 21) 10 g5)) 24 (τ 22)))) rfl trivial ?_
                      refine exq_b (P := (gnb c ((k : Int) / 4) (((k : Int) / 2) % 2) (-1)) ≤ mm) (ct := (cod m8_best 62, [some (.inl 21), some (.inr 1), some (.inr b), some (.inr mm), some (.inr (k : Int)), some (.inr (-1)), some (.inr (gnb c ((k : Int) / 4) (((k : Int) / 2) % 2) (-1)))], [], (zr (zr τ 21 (zu (τ 21) 10 g5)) 24 (τ 22)))) (cf := (cod m8_best 60, [some (.inl 21), some (.inr 1), some (.inr b), some (.inr mm), some (.inr (k : Int)), some (.inr (-1)), some (.inr (gnb c ((k : Int) / 4) (((k : Int) / 2) % 2) (-1)))], [], (zr (zr τ 21 (zu (τ 21) 10 g5)) 24 (τ 22)))) rfl ⟨⟨by omega, by omega⟩, ⟨by omega, by omega⟩⟩ (fun h6 => ?_) (fun h6 => ?_)
                      · first
                        | (exfalso; omega)
                        | (
                            refine exq_k 4 (P := none) (g := (cod m8_best 66, [some (.inl 21), some (.inr 1), some (.inr b), some (.inr mm), some (.inr (k : Int)), some (.inr (-1)), some (.inr (gnb c ((k : Int) / 4) (((k : Int) / 2) % 2) (-1)))], [.inr (k : Int), .inr b], (zr (zr τ 21 (zu (τ 21) 10 g5)) 24 (τ 22)))) rfl trivial ?_
                            refine exq_b (P := ¬ b = (k : Int)) (ct := (cod m8_best 69, [some (.inl 21), some (.inr 1), some (.inr b), some (.inr mm), some (.inr (k : Int)), some (.inr (-1)), some (.inr (gnb c ((k : Int) / 4) (((k : Int) / 2) % 2) (-1)))], [], (zr (zr τ 21 (zu (τ 21) 10 g5)) 24 (τ 22)))) (cf := (cod m8_best 67, [some (.inl 21), some (.inr 1), some (.inr b), some (.inr mm), some (.inr (k : Int)), some (.inr (-1)), some (.inr (gnb c ((k : Int) / 4) (((k : Int) / 2) % 2) (-1)))], [], (zr (zr τ 21 (zu (τ 21) 10 g5)) 24 (τ 22)))) rfl ⟨⟨by omega, by omega⟩, ⟨by omega, by omega⟩⟩ (fun h7 => ?_) (fun h7 => ?_)
                            · first
                              | (exfalso; omega)
                              | (
                                  refine exq_k 4 (P := none) (g := (cod m8_best 15, [some (.inl 21), some (.inr 1), some (.inr b), some (.inr mm), some (.inr ((k : Int) + 1)), some (.inr (-1)), some (.inr (gnb c ((k : Int) / 4) (((k : Int) / 2) % 2) (-1)))], [], (zr (zr τ 21 (zu (τ 21) 10 g5)) 24 (τ 22)))) rfl trivial ?_
                                  exact ih (k + 1) (by omega) _ _ _ _ _ _ h22 (by rw [bsb_f (stp_n (show ¬ (k : Int) % 2 = 0 from by omega)) hmv (by rw [← hb, ← hmm]; omega)]; assumption) (by rw [bsb_f (stp_n (show ¬ (k : Int) % 2 = 0 from by omega)) hmv (by rw [← hb, ← hmm]; omega)]; assumption))
                            · first
                              | (exfalso; omega)
                              | (
                                  refine exq_k 5 (P := none) (g := (cod m8_best 15, [some (.inl 21), some (.inr 1), some (.inr b), some (.inr (gnb c ((k : Int) / 4) (((k : Int) / 2) % 2) (-1))), some (.inr ((k : Int) + 1)), some (.inr (-1)), some (.inr (gnb c ((k : Int) / 4) (((k : Int) / 2) % 2) (-1)))], [], (zr (zr τ 21 (zu (τ 21) 10 g5)) 24 (τ 22)))) rfl trivial ?_
                                  exact ih (k + 1) (by omega) _ _ _ _ _ _ h22 (by rw [bsb_t (stp_n (show ¬ (k : Int) % 2 = 0 from by omega)) hmv (by rw [← hb, ← hmm]; omega)]) (by rw [bsb_t (stp_n (show ¬ (k : Int) % 2 = 0 from by omega)) hmv (by rw [← hb, ← hmm]; omega)])))
                      · first
                        | (exfalso; omega)
                        | (
                            refine exq_k 5 (P := none) (g := (cod m8_best 66, [some (.inl 21), some (.inr 1), some (.inr (k : Int)), some (.inr mm), some (.inr (k : Int)), some (.inr (-1)), some (.inr (gnb c ((k : Int) / 4) (((k : Int) / 2) % 2) (-1)))], [.inr (k : Int), .inr (k : Int)], (zr (zr τ 21 (zu (τ 21) 10 g5)) 24 (τ 22)))) rfl trivial ?_
                            refine exq_b (P := ¬ (k : Int) = (k : Int)) (ct := (cod m8_best 69, [some (.inl 21), some (.inr 1), some (.inr (k : Int)), some (.inr mm), some (.inr (k : Int)), some (.inr (-1)), some (.inr (gnb c ((k : Int) / 4) (((k : Int) / 2) % 2) (-1)))], [], (zr (zr τ 21 (zu (τ 21) 10 g5)) 24 (τ 22)))) (cf := (cod m8_best 67, [some (.inl 21), some (.inr 1), some (.inr (k : Int)), some (.inr mm), some (.inr (k : Int)), some (.inr (-1)), some (.inr (gnb c ((k : Int) / 4) (((k : Int) / 2) % 2) (-1)))], [], (zr (zr τ 21 (zu (τ 21) 10 g5)) 24 (τ 22)))) rfl ⟨⟨by omega, by omega⟩, ⟨by omega, by omega⟩⟩ (fun h8 => ?_) (fun h8 => ?_)
                            · first
                              | (exfalso; omega)
                              | (
                                  refine exq_k 4 (P := none) (g := (cod m8_best 15, [some (.inl 21), some (.inr 1), some (.inr (k : Int)), some (.inr mm), some (.inr ((k : Int) + 1)), some (.inr (-1)), some (.inr (gnb c ((k : Int) / 4) (((k : Int) / 2) % 2) (-1)))], [], (zr (zr τ 21 (zu (τ 21) 10 g5)) 24 (τ 22)))) rfl trivial ?_
                                  exact ih (k + 1) (by omega) _ _ _ _ _ _ h22 (by rw [bsb_t (stp_n (show ¬ (k : Int) % 2 = 0 from by omega)) hmv (by rw [← hb, ← hmm]; omega)]) (by rw [bsb_t (stp_n (show ¬ (k : Int) % 2 = 0 from by omega)) hmv (by rw [← hb, ← hmm]; omega)]))
                            · first
                              | (exfalso; omega)
                              | (
                                  refine exq_k 5 (P := none) (g := (cod m8_best 15, [some (.inl 21), some (.inr 1), some (.inr (k : Int)), some (.inr (gnb c ((k : Int) / 4) (((k : Int) / 2) % 2) (-1))), some (.inr ((k : Int) + 1)), some (.inr (-1)), some (.inr (gnb c ((k : Int) / 4) (((k : Int) / 2) % 2) (-1)))], [], (zr (zr τ 21 (zu (τ 21) 10 g5)) 24 (τ 22)))) rfl trivial ?_
                                  exact ih (k + 1) (by omega) _ _ _ _ _ _ h22 (by rw [bsb_t (stp_n (show ¬ (k : Int) % 2 = 0 from by omega)) hmv (by rw [← hb, ← hmm]; omega)]) (by rw [bsb_t (stp_n (show ¬ (k : Int) % 2 = 0 from by omega)) hmv (by rw [← hb, ← hmm]; omega)]))))))
    · first
      | (exfalso; omega)
      | (
          refine exq_k 7 (P := some (0 ≤ (k : Int) ∧ (k : Int) < 2147483648 ∧ 0 < 4 ∧ 4 < 2147483648)) (g := (cod m8_best 35, [some (.inl 21), some (.inr 1), some (.inr b), some (.inr mm), some (.inr (k : Int)), some (.inr 1), o6], [.inr ((k : Int) / 4), .inl 21], (zr (zr τ 21 (zu (τ 21) 10 e)) 24 x))) rfl (by show 0 ≤ (k : Int) ∧ (k : Int) < 2147483648 ∧ 0 < 4 ∧ 4 < 2147483648; omega) ?_
          refine exq_k 3 (P := some (0 ≤ (k : Int) ∧ (k : Int) < 2147483648 ∧ 0 < 2 ∧ 2 < 2147483648)) (g := (cod m8_best 38, [some (.inl 21), some (.inr 1), some (.inr b), some (.inr mm), some (.inr (k : Int)), some (.inr 1), o6], [.inr ((k : Int) / 2), .inr ((k : Int) / 4), .inl 21], (zr (zr τ 21 (zu (τ 21) 10 e)) 24 x))) rfl (by show 0 ≤ (k : Int) ∧ (k : Int) < 2147483648 ∧ 0 < 2 ∧ 2 < 2147483648; omega) ?_
          refine exq_k 2 (P := some (0 ≤ ((k : Int) / 2) ∧ ((k : Int) / 2) < 2147483648 ∧ 0 < 2 ∧ 2 < 2147483648)) (g := (cod m8_best 40, [some (.inl 21), some (.inr 1), some (.inr b), some (.inr mm), some (.inr (k : Int)), some (.inr 1), o6], [.inr (((k : Int) / 2) % 2), .inr ((k : Int) / 4), .inl 21], (zr (zr τ 21 (zu (τ 21) 10 e)) 24 x))) rfl (by show 0 ≤ ((k : Int) / 2) ∧ ((k : Int) / 2) < 2147483648 ∧ 0 < 2 ∧ 2 < 2147483648; omega) ?_
          refine exq_k 1 (P := none) (g := (cod m8_best 41, [some (.inl 21), some (.inr 1), some (.inr b), some (.inr mm), some (.inr (k : Int)), some (.inr 1), o6], [.inr 1, .inr (((k : Int) / 2) % 2), .inr ((k : Int) / 4), .inl 21], (zr (zr τ 21 (zu (τ 21) 10 e)) 24 x))) rfl trivial ?_
          obtain ⟨e50, he50, hc50⟩ := m_hindersInTurn (τ := (zr (zr τ 21 (zu (τ 21) 10 e)) 24 x)) (f := (k : Int) / 4) (r := ((k : Int) / 2) % 2) (s := 1) hI hR (by omega) (by omega) (by omega)
          have hh := hnt_in c ((k : Int) / 4) (((k : Int) / 2) % 2) 1
          refine exq_c hc50 (is := cod m8_best 42) (L := [some (.inl 21), some (.inr 1), some (.inr b), some (.inr mm), some (.inr (k : Int)), some (.inr 1), o6]) (st := []) rfl rfl rfl ?_
          show Exq _ _ (cod m8_best 42, [some (.inl 21), some (.inr 1), some (.inr b), some (.inr mm), some (.inr (k : Int)), some (.inr 1), o6], [.inr (hnt c ((k : Int) / 4) (((k : Int) / 2) % 2) 1)], (zr (zr (zr τ 21 (zu (τ 21) 10 e)) 24 x) 21 (zu (zu (τ 21) 10 e) 10 e50))) _ _
          rw [zr_sw (a := 24) (b := 21) (by decide), zr_zr, zu_zu]
          refine exq_b (P := ¬ (hnt c ((k : Int) / 4) (((k : Int) / 2) % 2) 1) = 0) (ct := (cod m8_best 71, [some (.inl 21), some (.inr 1), some (.inr b), some (.inr mm), some (.inr (k : Int)), some (.inr 1), o6], [], (zr (zr τ 21 (zu (τ 21) 10 e50)) 24 x))) (cf := (cod m8_best 43, [some (.inl 21), some (.inr 1), some (.inr b), some (.inr mm), some (.inr (k : Int)), some (.inr 1), o6], [], (zr (zr τ 21 (zu (τ 21) 10 e50)) 24 x))) rfl ⟨by omega, by omega⟩ (fun h9 => ?_) (fun h9 => ?_)
          · first
            | (exfalso; omega)
            | (
                refine exq_k 2 (P := none) (g := (cod m8_best 15, [some (.inl 21), some (.inr 1), some (.inr b), some (.inr mm), some (.inr ((k : Int) + 1)), some (.inr 1), o6], [], (zr (zr τ 21 (zu (τ 21) 10 e50)) 24 x))) rfl trivial ?_
                exact ih (k + 1) (by omega) _ _ _ _ _ _ hx (by rw [bsb_n (stp_p (show (k : Int) % 2 = 0 from by omega)) (by omega)]; assumption) (by rw [bsb_n (stp_p (show (k : Int) % 2 = 0 from by omega)) (by omega)]; assumption))
          · first
            | (exfalso; omega)
            | (
                refine exq_k 4 (P := some (0 ≤ (k : Int) ∧ (k : Int) < 2147483648 ∧ 0 < 4 ∧ 4 < 2147483648)) (g := (cod m8_best 47, [some (.inl 21), some (.inr 1), some (.inr b), some (.inr mm), some (.inr (k : Int)), some (.inr 1), o6], [.inr ((k : Int) / 4), .inl 21], (zr (zr τ 21 (zu (τ 21) 10 e50)) 24 x))) rfl (by show 0 ≤ (k : Int) ∧ (k : Int) < 2147483648 ∧ 0 < 4 ∧ 4 < 2147483648; omega) ?_
                refine exq_k 3 (P := some (0 ≤ (k : Int) ∧ (k : Int) < 2147483648 ∧ 0 < 2 ∧ 2 < 2147483648)) (g := (cod m8_best 50, [some (.inl 21), some (.inr 1), some (.inr b), some (.inr mm), some (.inr (k : Int)), some (.inr 1), o6], [.inr ((k : Int) / 2), .inr ((k : Int) / 4), .inl 21], (zr (zr τ 21 (zu (τ 21) 10 e50)) 24 x))) rfl (by show 0 ≤ (k : Int) ∧ (k : Int) < 2147483648 ∧ 0 < 2 ∧ 2 < 2147483648; omega) ?_
                refine exq_k 2 (P := some (0 ≤ ((k : Int) / 2) ∧ ((k : Int) / 2) < 2147483648 ∧ 0 < 2 ∧ 2 < 2147483648)) (g := (cod m8_best 52, [some (.inl 21), some (.inr 1), some (.inr b), some (.inr mm), some (.inr (k : Int)), some (.inr 1), o6], [.inr (((k : Int) / 2) % 2), .inr ((k : Int) / 4), .inl 21], (zr (zr τ 21 (zu (τ 21) 10 e50)) 24 x))) rfl (by show 0 ≤ ((k : Int) / 2) ∧ ((k : Int) / 2) < 2147483648 ∧ 0 < 2 ∧ 2 < 2147483648; omega) ?_
                refine exq_k 1 (P := none) (g := (cod m8_best 53, [some (.inl 21), some (.inr 1), some (.inr b), some (.inr mm), some (.inr (k : Int)), some (.inr 1), o6], [.inr 1, .inr (((k : Int) / 2) % 2), .inr ((k : Int) / 4), .inl 21], (zr (zr τ 21 (zu (τ 21) 10 e50)) 24 x))) rfl trivial ?_
                have hmv : ocn c ((k : Int) / 4) (((k : Int) / 2) % 2) 1 = 1 ∨ ocn c ((k : Int) / 4) (((k : Int) / 2) % 2) 1 = 2 ∨ ocn c ((k : Int) / 4) (((k : Int) / 2) % 2) 1 = 3 := by omega
                obtain ⟨g6, hg6⟩ := m_gainBy (τ := (zr (zr τ 21 (zu (τ 21) 10 e50)) 24 x)) (f := (k : Int) / 4) (r := ((k : Int) / 2) % 2) (s := 1) hI hR hx (by omega) (by omega) (by omega) (ocn_mv hmv) hB
                have hgq := gnb_in hI (f := (k : Int) / 4) (r := ((k : Int) / 2) % 2) (s := 1) (by omega) (by omega) (by omega) (ocn_mv hmv) (by omega)
                clear hh
                refine exq_c hg6 (is := cod m8_best 54) (L := [some (.inl 21), some (.inr 1), some (.inr b), some (.inr mm), some (.inr (k : Int)), some (.inr 1), o6]) (st := []) rfl rfl rfl ?_
                show Exq _ _ (cod m8_best 54, [some (.inl 21), some (.inr 1), some (.inr b), some (.inr mm), some (.inr (k : Int)), some (.inr 1), o6], [.inr (gnb c ((k : Int) / 4) (((k : Int) / 2) % 2) 1)], (zr (zr (zr (zr τ 21 (zu (τ 21) 10 e50)) 24 x) 21 (zu (zu (τ 21) 10 e50) 10 g6)) 24 (τ 22))) _ _
                rw [zr_sw (a := 24) (b := 21) (by decide), zr_zr, zr_zr, zu_zu]
                refine exq_k 2 (P := none) (g := (cod m8_best 56, [some (.inl 21), some (.inr 1), some (.inr b), some (.inr mm), some (.inr (k : Int)), some (.inr 1), some (.inr (gnb c ((k : Int) / 4) (((k : Int) / 2) % 2) 1))], [.inr b], (zr (zr τ 21 (zu (τ 21) 10 g6)) 24 (τ 22)))) rfl trivial ?_
                refine exq_b (P := b < 0) (ct := (cod m8_best 60, [some (.inl 21), some (.inr 1), some (.inr b), some (.inr mm), some (.inr (k : Int)), some (.inr 1), some (.inr (gnb c ((k : Int) / 4) (((k : Int) / 2) % 2) 1))], [], (zr (zr τ 21 (zu (τ 21) 10 g6)) 24 (τ 22)))) (cf := (cod m8_best 57, [some (.inl 21), some (.inr 1), some (.inr b), some (.inr mm), some (.inr (k : Int)), some (.inr 1), some (.inr (gnb c ((k : Int) / 4) (((k : Int) / 2) % 2) 1))], [], (zr (zr τ 21 (zu (τ 21) 10 g6)) 24 (τ 22)))) rfl ⟨by omega, by omega⟩ (fun h10 => ?_) (fun h10 => ?_)
                · first
                  | (exfalso; omega)
                  | (
                      refine exq_k 5 (P := none) (g := (cod m8_best 66, [some (.inl 21), some (.inr 1), some (.inr (k : Int)), some (.inr mm), some (.inr (k : Int)), some (.inr 1), some (.inr (gnb c ((k : Int) / 4) (((k : Int) / 2) % 2) 1))], [.inr (k : Int), .inr (k : Int)], (zr (zr τ 21 (zu (τ 21) 10 g6)) 24 (τ 22)))) rfl trivial ?_
                      refine exq_b (P := ¬ (k : Int) = (k : Int)) (ct := (cod m8_best 69, [some (.inl 21), some (.inr 1), some (.inr (k : Int)), some (.inr mm), some (.inr (k : Int)), some (.inr 1), some (.inr (gnb c ((k : Int) / 4) (((k : Int) / 2) % 2) 1))], [], (zr (zr τ 21 (zu (τ 21) 10 g6)) 24 (τ 22)))) (cf := (cod m8_best 67, [some (.inl 21), some (.inr 1), some (.inr (k : Int)), some (.inr mm), some (.inr (k : Int)), some (.inr 1), some (.inr (gnb c ((k : Int) / 4) (((k : Int) / 2) % 2) 1))], [], (zr (zr τ 21 (zu (τ 21) 10 g6)) 24 (τ 22)))) rfl ⟨⟨by omega, by omega⟩, ⟨by omega, by omega⟩⟩ (fun h11 => ?_) (fun h11 => ?_)
                      · first
                        | (exfalso; omega)
                        | (
                            refine exq_k 4 (P := none) (g := (cod m8_best 15, [some (.inl 21), some (.inr 1), some (.inr (k : Int)), some (.inr mm), some (.inr ((k : Int) + 1)), some (.inr 1), some (.inr (gnb c ((k : Int) / 4) (((k : Int) / 2) % 2) 1))], [], (zr (zr τ 21 (zu (τ 21) 10 g6)) 24 (τ 22)))) rfl trivial ?_
                            exact ih (k + 1) (by omega) _ _ _ _ _ _ h22 (by rw [bsb_t (stp_p (show (k : Int) % 2 = 0 from by omega)) hmv (by rw [← hb, ← hmm]; omega)]) (by rw [bsb_t (stp_p (show (k : Int) % 2 = 0 from by omega)) hmv (by rw [← hb, ← hmm]; omega)]))
                      · first
                        | (exfalso; omega)
                        | (
                            refine exq_k 5 (P := none) (g := (cod m8_best 15, [some (.inl 21), some (.inr 1), some (.inr (k : Int)), some (.inr (gnb c ((k : Int) / 4) (((k : Int) / 2) % 2) 1)), some (.inr ((k : Int) + 1)), some (.inr 1), some (.inr (gnb c ((k : Int) / 4) (((k : Int) / 2) % 2) 1))], [], (zr (zr τ 21 (zu (τ 21) 10 g6)) 24 (τ 22)))) rfl trivial ?_
                            exact ih (k + 1) (by omega) _ _ _ _ _ _ h22 (by rw [bsb_t (stp_p (show (k : Int) % 2 = 0 from by omega)) hmv (by rw [← hb, ← hmm]; omega)]) (by rw [bsb_t (stp_p (show (k : Int) % 2 = 0 from by omega)) hmv (by rw [← hb, ← hmm]; omega)])))
                · first
                  | (exfalso; omega)
                  | (
                      refine exq_k 2 (P := none) (g := (cod m8_best 59, [some (.inl 21), some (.inr 1), some (.inr b), some (.inr mm), some (.inr (k : Int)), some (.inr 1), some (.inr (gnb c ((k : Int) / 4) (((k : Int) / 2) % 2) 1))], [.inr mm, .inr (gnb c ((k : Int) / 4) (((k : Int) / 2) % 2) 1)], (zr (zr τ 21 (zu (τ 21) 10 g6)) 24 (τ 22)))) rfl trivial ?_
                      refine exq_b (P := (gnb c ((k : Int) / 4) (((k : Int) / 2) % 2) 1) ≤ mm) (ct := (cod m8_best 62, [some (.inl 21), some (.inr 1), some (.inr b), some (.inr mm), some (.inr (k : Int)), some (.inr 1), some (.inr (gnb c ((k : Int) / 4) (((k : Int) / 2) % 2) 1))], [], (zr (zr τ 21 (zu (τ 21) 10 g6)) 24 (τ 22)))) (cf := (cod m8_best 60, [some (.inl 21), some (.inr 1), some (.inr b), some (.inr mm), some (.inr (k : Int)), some (.inr 1), some (.inr (gnb c ((k : Int) / 4) (((k : Int) / 2) % 2) 1))], [], (zr (zr τ 21 (zu (τ 21) 10 g6)) 24 (τ 22)))) rfl ⟨⟨by omega, by omega⟩, ⟨by omega, by omega⟩⟩ (fun h12 => ?_) (fun h12 => ?_)
                      · first
                        | (exfalso; omega)
                        | (
                            refine exq_k 4 (P := none) (g := (cod m8_best 66, [some (.inl 21), some (.inr 1), some (.inr b), some (.inr mm), some (.inr (k : Int)), some (.inr 1), some (.inr (gnb c ((k : Int) / 4) (((k : Int) / 2) % 2) 1))], [.inr (k : Int), .inr b], (zr (zr τ 21 (zu (τ 21) 10 g6)) 24 (τ 22)))) rfl trivial ?_
                            refine exq_b (P := ¬ b = (k : Int)) (ct := (cod m8_best 69, [some (.inl 21), some (.inr 1), some (.inr b), some (.inr mm), some (.inr (k : Int)), some (.inr 1), some (.inr (gnb c ((k : Int) / 4) (((k : Int) / 2) % 2) 1))], [], (zr (zr τ 21 (zu (τ 21) 10 g6)) 24 (τ 22)))) (cf := (cod m8_best 67, [some (.inl 21), some (.inr 1), some (.inr b), some (.inr mm), some (.inr (k : Int)), some (.inr 1), some (.inr (gnb c ((k : Int) / 4) (((k : Int) / 2) % 2) 1))], [], (zr (zr τ 21 (zu (τ 21) 10 g6)) 24 (τ 22)))) rfl ⟨⟨by omega, by omega⟩, ⟨by omega, by omega⟩⟩ (fun h13 => ?_) (fun h13 => ?_)
                            · first
                              | (exfalso; omega)
                              | (
                                  refine exq_k 4 (P := none) (g := (cod m8_best 15, [some (.inl 21), some (.inr 1), some (.inr b), some (.inr mm), some (.inr ((k : Int) + 1)), some (.inr 1), some (.inr (gnb c ((k : Int) / 4) (((k : Int) / 2) % 2) 1))], [], (zr (zr τ 21 (zu (τ 21) 10 g6)) 24 (τ 22)))) rfl trivial ?_
                                  exact ih (k + 1) (by omega) _ _ _ _ _ _ h22 (by rw [bsb_f (stp_p (show (k : Int) % 2 = 0 from by omega)) hmv (by rw [← hb, ← hmm]; omega)]; assumption) (by rw [bsb_f (stp_p (show (k : Int) % 2 = 0 from by omega)) hmv (by rw [← hb, ← hmm]; omega)]; assumption))
                            · first
                              | (exfalso; omega)
                              | (
                                  refine exq_k 5 (P := none) (g := (cod m8_best 15, [some (.inl 21), some (.inr 1), some (.inr b), some (.inr (gnb c ((k : Int) / 4) (((k : Int) / 2) % 2) 1)), some (.inr ((k : Int) + 1)), some (.inr 1), some (.inr (gnb c ((k : Int) / 4) (((k : Int) / 2) % 2) 1))], [], (zr (zr τ 21 (zu (τ 21) 10 g6)) 24 (τ 22)))) rfl trivial ?_
                                  exact ih (k + 1) (by omega) _ _ _ _ _ _ h22 (by rw [bsb_t (stp_p (show (k : Int) % 2 = 0 from by omega)) hmv (by rw [← hb, ← hmm]; omega)]) (by rw [bsb_t (stp_p (show (k : Int) % 2 = 0 from by omega)) hmv (by rw [← hb, ← hmm]; omega)])))
                      · first
                        | (exfalso; omega)
                        | (
                            refine exq_k 5 (P := none) (g := (cod m8_best 66, [some (.inl 21), some (.inr 1), some (.inr (k : Int)), some (.inr mm), some (.inr (k : Int)), some (.inr 1), some (.inr (gnb c ((k : Int) / 4) (((k : Int) / 2) % 2) 1))], [.inr (k : Int), .inr (k : Int)], (zr (zr τ 21 (zu (τ 21) 10 g6)) 24 (τ 22)))) rfl trivial ?_
                            refine exq_b (P := ¬ (k : Int) = (k : Int)) (ct := (cod m8_best 69, [some (.inl 21), some (.inr 1), some (.inr (k : Int)), some (.inr mm), some (.inr (k : Int)), some (.inr 1), some (.inr (gnb c ((k : Int) / 4) (((k : Int) / 2) % 2) 1))], [], (zr (zr τ 21 (zu (τ 21) 10 g6)) 24 (τ 22)))) (cf := (cod m8_best 67, [some (.inl 21), some (.inr 1), some (.inr (k : Int)), some (.inr mm), some (.inr (k : Int)), some (.inr 1), some (.inr (gnb c ((k : Int) / 4) (((k : Int) / 2) % 2) 1))], [], (zr (zr τ 21 (zu (τ 21) 10 g6)) 24 (τ 22)))) rfl ⟨⟨by omega, by omega⟩, ⟨by omega, by omega⟩⟩ (fun h14 => ?_) (fun h14 => ?_)
                            · first
                              | (exfalso; omega)
                              | (
                                  refine exq_k 4 (P := none) (g := (cod m8_best 15, [some (.inl 21), some (.inr 1), some (.inr (k : Int)), some (.inr mm), some (.inr ((k : Int) + 1)), some (.inr 1), some (.inr (gnb c ((k : Int) / 4) (((k : Int) / 2) % 2) 1))], [], (zr (zr τ 21 (zu (τ 21) 10 g6)) 24 (τ 22)))) rfl trivial ?_
                                  exact ih (k + 1) (by omega) _ _ _ _ _ _ h22 (by rw [bsb_t (stp_p (show (k : Int) % 2 = 0 from by omega)) hmv (by rw [← hb, ← hmm]; omega)]) (by rw [bsb_t (stp_p (show (k : Int) % 2 = 0 from by omega)) hmv (by rw [← hb, ← hmm]; omega)]))
                            · first
                              | (exfalso; omega)
                              | (
                                  refine exq_k 5 (P := none) (g := (cod m8_best 15, [some (.inl 21), some (.inr 1), some (.inr (k : Int)), some (.inr (gnb c ((k : Int) / 4) (((k : Int) / 2) % 2) 1)), some (.inr ((k : Int) + 1)), some (.inr 1), some (.inr (gnb c ((k : Int) / 4) (((k : Int) / 2) % 2) 1))], [], (zr (zr τ 21 (zu (τ 21) 10 g6)) 24 (τ 22)))) rfl trivial ?_
                                  exact ih (k + 1) (by omega) _ _ _ _ _ _ h22 (by rw [bsb_t (stp_p (show (k : Int) % 2 = 0 from by omega)) hmv (by rw [← hb, ← hmm]; omega)]) (by rw [bsb_t (stp_p (show (k : Int) % 2 = 0 from by omega)) hmv (by rw [← hb, ← hmm]; omega)]))))))
theorem d_best_1 {τ : SZ} {c : Nat → Int} {B : Int} (hI : Iv B c) (hR : Rs c (τ 22)) {M : Nat} (hM : (M : Int) = 4 * cel c 107) (h24 : Tz (τ 24)) (hB : B + 9 ≤ 100000000) : RZq 9 m8_best [.inl 21, .inr 1] τ (Qb τ (if (bsb c M).1 < 0 then 0 else if (1 : Int) = 0 then (bsb c M).1 / 4 else if (1 : Int) = 1 then (bsb c M).1 / 2 % 2 else 1 - (bsb c M).1 % 2) (if (bsb c M).1 < 0 then 2 else 0)) := by
  have ein : b2 ((0 : Int) ≤ 1 ∧ (1 : Int) ≤ 2) = 1 := b2_t ⟨by decide, by decide⟩
  refine Exq.call ?_ rfl rfl
  show Exq _ _ (cod m8_best 0, [some (.inl 21), some (.inr 1), none, none, none, none, none], [], τ) _ _
  refine exq_k 3 (P := none) (g := (cod m8_best 3, [some (.inl 21), some (.inr 1), none, none, none, none, none], [.inr 2, .inr 0, .inr 1], τ)) rfl trivial ?_
  refine exq_c (m_in (τ := τ) (v := 1) (a := 0) (b := 2) ⟨by omega, by omega⟩ ⟨by omega, by omega⟩ ⟨by omega, by omega⟩) (is := cod m8_best 4) (L := [some (.inl 21), some (.inr 1), none, none, none, none, none]) (st := []) rfl rfl rfl ?_
  show Exq _ _ (cod m8_best 4, [some (.inl 21), some (.inr 1), none, none, none, none, none], [.inr (b2 (0 ≤ 1 ∧ 1 ≤ 2))], τ) _ _
  refine exq_b (P := ¬ (b2 (0 ≤ 1 ∧ 1 ≤ 2)) = 0) (ct := (cod m8_best 9, [some (.inl 21), some (.inr 1), none, none, none, none, none], [], τ)) (cf := (cod m8_best 5, [some (.inl 21), some (.inr 1), none, none, none, none, none], [], τ)) rfl b2_rng (fun _ => ?_) (fun hh => absurd (by omega) hh)
  refine exq_k 6 (P := none) (g := (cod m8_best 15, [some (.inl 21), some (.inr 1), some (.inr (-1)), some (.inr 0), some (.inr 0), none, none], [], τ)) rfl trivial ?_
  have q := lp_best_m1 (τ := τ) hI hR hM hB M 0 (by omega) (-1) 0 (τ 21 10) (τ 24) none none h24 rfl rfl
  rw [show zr (zr τ 21 (zu (τ 21) 10 (τ 21 10))) 24 (τ 24) = τ from by rw [zu_self, zr_self, zr_self]] at q
  exact q
set_option maxHeartbeats 1000000 in
theorem lp_best_m2 {τ : SZ} {c : Nat → Int} {B : Int} (hI : Iv B c) (hR : Rs c (τ 22)) {M : Nat} (hM : (M : Int) = 4 * cel c 107) (hB : B + 9 ≤ 100000000) : ∀ (j k : Nat), k + j = M → ∀ (b mm e : Int) (x : Nat → Int) (o5 o6 : Option VZ), Tz x → b = (bsb c k).1 → mm = (bsb c k).2 → Exq 8 m8_best (cod m8_best 15, [some (.inl 21), some (.inr 2), some (.inr b), some (.inr mm), some (.inr (k : Int)), o5, o6], [], (zr (zr τ 21 (zu (τ 21) 10 e)) 24 x)) 0 (Qb τ (if (bsb c M).1 < 0 then 0 else if (2 : Int) = 0 then (bsb c M).1 / 4 else if (2 : Int) = 1 then (bsb c M).1 / 2 % 2 else 1 - (bsb c M).1 % 2) (if (bsb c M).1 < 0 then 2 else 0)) := by
  have hS := hI.1
  have hC := hI.2.1
  have hN := hS.n
  have h22 := hR.tz
  have h0 := hR.n hN.1
  intro j
  induction j with
  | zero =>
    intro k hk b mm e x o5 o6 hx hb hmm
    have hbi := bsb_in hI (by omega) k (by omega)
    have hkM : k = M := by omega
    subst hkM
    refine exq_k 6 (P := some (0 ≤ 0 ∧ 0 < ((109 : Nat) : Int))) (g := (cod m8_best 21, [some (.inl 21), some (.inr 2), some (.inr b), some (.inr mm), some (.inr (k : Int)), o5, o6], [.inr ((τ 22) 0), .inr 4, .inr (k : Int)], (zr (zr τ 21 (zu (τ 21) 10 e)) 24 x))) rfl (by show 0 ≤ 0 ∧ 0 < ((109 : Nat) : Int); omega) ?_
    refine exq_k 1 (P := none) (g := (cod m8_best 22, [some (.inl 21), some (.inr 2), some (.inr b), some (.inr mm), some (.inr (k : Int)), o5, o6], [.inr (4 * ((τ 22) 0)), .inr (k : Int)], (zr (zr τ 21 (zu (τ 21) 10 e)) 24 x))) rfl trivial ?_
    refine exq_b (P := (4 * ((τ 22) 0)) ≤ (k : Int)) (ct := (cod m8_best 73, [some (.inl 21), some (.inr 2), some (.inr b), some (.inr mm), some (.inr (k : Int)), o5, o6], [], (zr (zr τ 21 (zu (τ 21) 10 e)) 24 x))) (cf := (cod m8_best 23, [some (.inl 21), some (.inr 2), some (.inr b), some (.inr mm), some (.inr (k : Int)), o5, o6], [], (zr (zr τ 21 (zu (τ 21) 10 e)) 24 x))) rfl ⟨⟨by omega, by omega⟩, ⟨by omega, by omega⟩⟩ (fun _ => ?_) (fun hh => absurd (by omega) hh)
    refine exq_k 2 (P := none) (g := (cod m8_best 75, [some (.inl 21), some (.inr 2), some (.inr b), some (.inr mm), some (.inr (k : Int)), o5, o6], [.inr b, .inl 21], (zr (zr τ 21 (zu (τ 21) 10 e)) 24 x))) rfl trivial ?_
    refine exq_b (P := 0 ≤ b) (ct := (cod m8_best 78, [some (.inl 21), some (.inr 2), some (.inr b), some (.inr mm), some (.inr (k : Int)), o5, o6], [.inl 21], (zr (zr τ 21 (zu (τ 21) 10 e)) 24 x))) (cf := (cod m8_best 76, [some (.inl 21), some (.inr 2), some (.inr b), some (.inr mm), some (.inr (k : Int)), o5, o6], [.inl 21], (zr (zr τ 21 (zu (τ 21) 10 e)) 24 x))) rfl ⟨by omega, by omega⟩ (fun h2 => ?_) (fun h2 => ?_)
    · first
      | (exfalso; omega)
      | (
          refine exq_k 2 (P := none) (g := (cod m8_best 80, [some (.inl 21), some (.inr 2), some (.inr b), some (.inr mm), some (.inr (k : Int)), o5, o6], [], (zr (zr (zr τ 21 (zu (τ 21) 10 e)) 24 x) 21 (zu (zu (τ 21) 10 e) 7 0)))) rfl trivial ?_
          rw [zr_sw (a := 24) (b := 21) (by decide), zr_zr]
          refine exq_k 2 (P := none) (g := (cod m8_best 82, [some (.inl 21), some (.inr 2), some (.inr b), some (.inr mm), some (.inr (k : Int)), o5, o6], [.inr 0], (zr (zr τ 21 (zu (zu (τ 21) 10 e) 7 0)) 24 x))) rfl trivial ?_
          refine exq_b (P := 0 ≤ 0) (ct := (cod m8_best 85, [some (.inl 21), some (.inr 2), some (.inr b), some (.inr mm), some (.inr (k : Int)), o5, o6], [], (zr (zr τ 21 (zu (zu (τ 21) 10 e) 7 0)) 24 x))) (cf := (cod m8_best 83, [some (.inl 21), some (.inr 2), some (.inr b), some (.inr mm), some (.inr (k : Int)), o5, o6], [], (zr (zr τ 21 (zu (zu (τ 21) 10 e) 7 0)) 24 x))) rfl ⟨by decide, by decide⟩ (fun _ => ?_) (fun hh => absurd (by decide) hh)
          refine exq_k 1 (P := none) (g := (cod m8_best 86, [some (.inl 21), some (.inr 2), some (.inr b), some (.inr mm), some (.inr (k : Int)), o5, o6], [.inr 2], (zr (zr τ 21 (zu (zu (τ 21) 10 e) 7 0)) 24 x))) rfl trivial ?_
          refine exq_b (P := ¬ 2 = 0) (ct := (cod m8_best 91, [some (.inl 21), some (.inr 2), some (.inr b), some (.inr mm), some (.inr (k : Int)), o5, o6], [], (zr (zr τ 21 (zu (zu (τ 21) 10 e) 7 0)) 24 x))) (cf := (cod m8_best 87, [some (.inl 21), some (.inr 2), some (.inr b), some (.inr mm), some (.inr (k : Int)), o5, o6], [], (zr (zr τ 21 (zu (zu (τ 21) 10 e) 7 0)) 24 x))) rfl ⟨by decide, by decide⟩ (fun _ => ?_) (fun hh => absurd (by decide) hh)
          refine exq_k 2 (P := none) (g := (cod m8_best 93, [some (.inl 21), some (.inr 2), some (.inr b), some (.inr mm), some (.inr (k : Int)), o5, o6], [.inr 1, .inr 2], (zr (zr τ 21 (zu (zu (τ 21) 10 e) 7 0)) 24 x))) rfl trivial ?_
          refine exq_b (P := ¬ 2 = 1) (ct := (cod m8_best 100, [some (.inl 21), some (.inr 2), some (.inr b), some (.inr mm), some (.inr (k : Int)), o5, o6], [], (zr (zr τ 21 (zu (zu (τ 21) 10 e) 7 0)) 24 x))) (cf := (cod m8_best 94, [some (.inl 21), some (.inr 2), some (.inr b), some (.inr mm), some (.inr (k : Int)), o5, o6], [], (zr (zr τ 21 (zu (zu (τ 21) 10 e) 7 0)) 24 x))) rfl ⟨⟨by decide, by decide⟩, ⟨by decide, by decide⟩⟩ (fun _ => ?_) (fun hh => absurd (by decide) hh)
          refine exq_k 4 (P := some (0 ≤ b ∧ b < 2147483648 ∧ 0 < 2 ∧ 2 < 2147483648)) (g := (cod m8_best 104, [some (.inl 21), some (.inr 2), some (.inr b), some (.inr mm), some (.inr (k : Int)), o5, o6], [.inr (b % 2), .inr 1], (zr (zr τ 21 (zu (zu (τ 21) 10 e) 7 0)) 24 x))) rfl (by show 0 ≤ b ∧ b < 2147483648 ∧ 0 < 2 ∧ 2 < 2147483648; omega) ?_
          refine exq_k 1 (P := none) (g := (cod m8_best 105, [some (.inl 21), some (.inr 2), some (.inr b), some (.inr mm), some (.inr (k : Int)), o5, o6], [.inr (1 - (b % 2))], (zr (zr τ 21 (zu (zu (τ 21) 10 e) 7 0)) 24 x))) rfl trivial ?_
          exact exq_r rfl trivial rfl (qb4 hx (by (repeat (first | rw [if_pos (by omega)] | rw [if_neg (by omega)])); first | done | rfl | (rw [← hb]; done) | (rw [← hb]; (repeat (first | rw [if_pos (by omega)] | rw [if_neg (by omega)])); first | done | rfl)) (by (repeat (first | rw [if_pos (by omega)] | rw [if_neg (by omega)])); first | done | rfl)))
    · first
      | (exfalso; omega)
      | (
          refine exq_k 3 (P := none) (g := (cod m8_best 80, [some (.inl 21), some (.inr 2), some (.inr b), some (.inr mm), some (.inr (k : Int)), o5, o6], [], (zr (zr (zr τ 21 (zu (τ 21) 10 e)) 24 x) 21 (zu (zu (τ 21) 10 e) 7 2)))) rfl trivial ?_
          rw [zr_sw (a := 24) (b := 21) (by decide), zr_zr]
          refine exq_k 2 (P := none) (g := (cod m8_best 82, [some (.inl 21), some (.inr 2), some (.inr b), some (.inr mm), some (.inr (k : Int)), o5, o6], [.inr 2], (zr (zr τ 21 (zu (zu (τ 21) 10 e) 7 2)) 24 x))) rfl trivial ?_
          refine exq_b (P := 2 ≤ 0) (ct := (cod m8_best 85, [some (.inl 21), some (.inr 2), some (.inr b), some (.inr mm), some (.inr (k : Int)), o5, o6], [], (zr (zr τ 21 (zu (zu (τ 21) 10 e) 7 2)) 24 x))) (cf := (cod m8_best 83, [some (.inl 21), some (.inr 2), some (.inr b), some (.inr mm), some (.inr (k : Int)), o5, o6], [], (zr (zr τ 21 (zu (zu (τ 21) 10 e) 7 2)) 24 x))) rfl ⟨by decide, by decide⟩ (fun hh => absurd hh (by decide)) (fun _ => ?_)
          refine exq_k 2 (P := none) (g := (cod m8_best 105, [some (.inl 21), some (.inr 2), some (.inr b), some (.inr mm), some (.inr (k : Int)), o5, o6], [.inr 0], (zr (zr τ 21 (zu (zu (τ 21) 10 e) 7 2)) 24 x))) rfl trivial ?_
          exact exq_r rfl trivial rfl (qb4 hx (by (repeat (first | rw [if_pos (by omega)] | rw [if_neg (by omega)])); first | done | rfl | (rw [← hb]; done) | (rw [← hb]; (repeat (first | rw [if_pos (by omega)] | rw [if_neg (by omega)])); first | done | rfl)) (by (repeat (first | rw [if_pos (by omega)] | rw [if_neg (by omega)])); first | done | rfl)))
  | succ j ih =>
    intro k hk b mm e x o5 o6 hx hb hmm
    have hbi := bsb_in hI (by omega) k (by omega)
    refine exq_k 6 (P := some (0 ≤ 0 ∧ 0 < ((109 : Nat) : Int))) (g := (cod m8_best 21, [some (.inl 21), some (.inr 2), some (.inr b), some (.inr mm), some (.inr (k : Int)), o5, o6], [.inr ((τ 22) 0), .inr 4, .inr (k : Int)], (zr (zr τ 21 (zu (τ 21) 10 e)) 24 x))) rfl (by show 0 ≤ 0 ∧ 0 < ((109 : Nat) : Int); omega) ?_
    refine exq_k 1 (P := none) (g := (cod m8_best 22, [some (.inl 21), some (.inr 2), some (.inr b), some (.inr mm), some (.inr (k : Int)), o5, o6], [.inr (4 * ((τ 22) 0)), .inr (k : Int)], (zr (zr τ 21 (zu (τ 21) 10 e)) 24 x))) rfl trivial ?_
    refine exq_b (P := (4 * ((τ 22) 0)) ≤ (k : Int)) (ct := (cod m8_best 73, [some (.inl 21), some (.inr 2), some (.inr b), some (.inr mm), some (.inr (k : Int)), o5, o6], [], (zr (zr τ 21 (zu (τ 21) 10 e)) 24 x))) (cf := (cod m8_best 23, [some (.inl 21), some (.inr 2), some (.inr b), some (.inr mm), some (.inr (k : Int)), o5, o6], [], (zr (zr τ 21 (zu (τ 21) 10 e)) 24 x))) rfl ⟨⟨by omega, by omega⟩, ⟨by omega, by omega⟩⟩ (fun hh => absurd hh (by omega)) (fun _ => ?_)
    refine exq_k 3 (P := some (0 ≤ (k : Int) ∧ (k : Int) < 2147483648 ∧ 0 < 2 ∧ 2 < 2147483648)) (g := (cod m8_best 26, [some (.inl 21), some (.inr 2), some (.inr b), some (.inr mm), some (.inr (k : Int)), o5, o6], [.inr ((k : Int) % 2)], (zr (zr τ 21 (zu (τ 21) 10 e)) 24 x))) rfl (by show 0 ≤ (k : Int) ∧ (k : Int) < 2147483648 ∧ 0 < 2 ∧ 2 < 2147483648; omega) ?_
    refine exq_b (P := ¬ ((k : Int) % 2) = 0) (ct := (cod m8_best 29, [some (.inl 21), some (.inr 2), some (.inr b), some (.inr mm), some (.inr (k : Int)), o5, o6], [], (zr (zr τ 21 (zu (τ 21) 10 e)) 24 x))) (cf := (cod m8_best 27, [some (.inl 21), some (.inr 2), some (.inr b), some (.inr mm), some (.inr (k : Int)), o5, o6], [], (zr (zr τ 21 (zu (τ 21) 10 e)) 24 x))) rfl ⟨by omega, by omega⟩ (fun h2 => ?_) (fun h2 => ?_)
    · first
      | (exfalso; omega)
      | (
          refine exq_k 6 (P := some (0 ≤ (k : Int) ∧ (k : Int) < 2147483648 ∧ 0 < 4 ∧ 4 < 2147483648)) (g := (cod m8_best 35, [some (.inl 21), some (.inr 2), some (.inr b), some (.inr mm), some (.inr (k : Int)), some (.inr (-1)), o6], [.inr ((k : Int) / 4), .inl 21], (zr (zr τ 21 (zu (τ 21) 10 e)) 24 x))) rfl (by show 0 ≤ (k : Int) ∧ (k : Int) < 2147483648 ∧ 0 < 4 ∧ 4 < 2147483648; omega) ?_
          refine exq_k 3 (P := some (0 ≤ (k : Int) ∧ (k : Int) < 2147483648 ∧ 0 < 2 ∧ 2 < 2147483648)) (g := (cod m8_best 38, [some (.inl 21), some (.inr 2), some (.inr b), some (.inr mm), some (.inr (k : Int)), some (.inr (-1)), o6], [.inr ((k : Int) / 2), .inr ((k : Int) / 4), .inl 21], (zr (zr τ 21 (zu (τ 21) 10 e)) 24 x))) rfl (by show 0 ≤ (k : Int) ∧ (k : Int) < 2147483648 ∧ 0 < 2 ∧ 2 < 2147483648; omega) ?_
          refine exq_k 2 (P := some (0 ≤ ((k : Int) / 2) ∧ ((k : Int) / 2) < 2147483648 ∧ 0 < 2 ∧ 2 < 2147483648)) (g := (cod m8_best 40, [some (.inl 21), some (.inr 2), some (.inr b), some (.inr mm), some (.inr (k : Int)), some (.inr (-1)), o6], [.inr (((k : Int) / 2) % 2), .inr ((k : Int) / 4), .inl 21], (zr (zr τ 21 (zu (τ 21) 10 e)) 24 x))) rfl (by show 0 ≤ ((k : Int) / 2) ∧ ((k : Int) / 2) < 2147483648 ∧ 0 < 2 ∧ 2 < 2147483648; omega) ?_
          refine exq_k 1 (P := none) (g := (cod m8_best 41, [some (.inl 21), some (.inr 2), some (.inr b), some (.inr mm), some (.inr (k : Int)), some (.inr (-1)), o6], [.inr (-1), .inr (((k : Int) / 2) % 2), .inr ((k : Int) / 4), .inl 21], (zr (zr τ 21 (zu (τ 21) 10 e)) 24 x))) rfl trivial ?_
          obtain ⟨e51, he51, hc51⟩ := m_hindersInTurn (τ := (zr (zr τ 21 (zu (τ 21) 10 e)) 24 x)) (f := (k : Int) / 4) (r := ((k : Int) / 2) % 2) (s := (-1)) hI hR (by omega) (by omega) (by omega)
          have hh := hnt_in c ((k : Int) / 4) (((k : Int) / 2) % 2) (-1)
          refine exq_c hc51 (is := cod m8_best 42) (L := [some (.inl 21), some (.inr 2), some (.inr b), some (.inr mm), some (.inr (k : Int)), some (.inr (-1)), o6]) (st := []) rfl rfl rfl ?_
          show Exq _ _ (cod m8_best 42, [some (.inl 21), some (.inr 2), some (.inr b), some (.inr mm), some (.inr (k : Int)), some (.inr (-1)), o6], [.inr (hnt c ((k : Int) / 4) (((k : Int) / 2) % 2) (-1))], (zr (zr (zr τ 21 (zu (τ 21) 10 e)) 24 x) 21 (zu (zu (τ 21) 10 e) 10 e51))) _ _
          rw [zr_sw (a := 24) (b := 21) (by decide), zr_zr, zu_zu]
          refine exq_b (P := ¬ (hnt c ((k : Int) / 4) (((k : Int) / 2) % 2) (-1)) = 0) (ct := (cod m8_best 71, [some (.inl 21), some (.inr 2), some (.inr b), some (.inr mm), some (.inr (k : Int)), some (.inr (-1)), o6], [], (zr (zr τ 21 (zu (τ 21) 10 e51)) 24 x))) (cf := (cod m8_best 43, [some (.inl 21), some (.inr 2), some (.inr b), some (.inr mm), some (.inr (k : Int)), some (.inr (-1)), o6], [], (zr (zr τ 21 (zu (τ 21) 10 e51)) 24 x))) rfl ⟨by omega, by omega⟩ (fun h3 => ?_) (fun h3 => ?_)
          · first
            | (exfalso; omega)
            | (
                refine exq_k 2 (P := none) (g := (cod m8_best 15, [some (.inl 21), some (.inr 2), some (.inr b), some (.inr mm), some (.inr ((k : Int) + 1)), some (.inr (-1)), o6], [], (zr (zr τ 21 (zu (τ 21) 10 e51)) 24 x))) rfl trivial ?_
                exact ih (k + 1) (by omega) _ _ _ _ _ _ hx (by rw [bsb_n (stp_n (show ¬ (k : Int) % 2 = 0 from by omega)) (by omega)]; assumption) (by rw [bsb_n (stp_n (show ¬ (k : Int) % 2 = 0 from by omega)) (by omega)]; assumption))
          · first
            | (exfalso; omega)
            | (
                refine exq_k 4 (P := some (0 ≤ (k : Int) ∧ (k : Int) < 2147483648 ∧ 0 < 4 ∧ 4 < 2147483648)) (g := (cod m8_best 47, [some (.inl 21), some (.inr 2), some (.inr b), some (.inr mm), some (.inr (k : Int)), some (.inr (-1)), o6], [.inr ((k : Int) / 4), .inl 21], (zr (zr τ 21 (zu (τ 21) 10 e51)) 24 x))) rfl (by show 0 ≤ (k : Int) ∧ (k : Int) < 2147483648 ∧ 0 < 4 ∧ 4 < 2147483648; omega) ?_
                refine exq_k 3 (P := some (0 ≤ (k : Int) ∧ (k : Int) < 2147483648 ∧ 0 < 2 ∧ 2 < 2147483648)) (g := (cod m8_best 50, [some (.inl 21), some (.inr 2), some (.inr b), some (.inr mm), some (.inr (k : Int)), some (.inr (-1)), o6], [.inr ((k : Int) / 2), .inr ((k : Int) / 4), .inl 21], (zr (zr τ 21 (zu (τ 21) 10 e51)) 24 x))) rfl (by show 0 ≤ (k : Int) ∧ (k : Int) < 2147483648 ∧ 0 < 2 ∧ 2 < 2147483648; omega) ?_
                refine exq_k 2 (P := some (0 ≤ ((k : Int) / 2) ∧ ((k : Int) / 2) < 2147483648 ∧ 0 < 2 ∧ 2 < 2147483648)) (g := (cod m8_best 52, [some (.inl 21), some (.inr 2), some (.inr b), some (.inr mm), some (.inr (k : Int)), some (.inr (-1)), o6], [.inr (((k : Int) / 2) % 2), .inr ((k : Int) / 4), .inl 21], (zr (zr τ 21 (zu (τ 21) 10 e51)) 24 x))) rfl (by show 0 ≤ ((k : Int) / 2) ∧ ((k : Int) / 2) < 2147483648 ∧ 0 < 2 ∧ 2 < 2147483648; omega) ?_
                refine exq_k 1 (P := none) (g := (cod m8_best 53, [some (.inl 21), some (.inr 2), some (.inr b), some (.inr mm), some (.inr (k : Int)), some (.inr (-1)), o6], [.inr (-1), .inr (((k : Int) / 2) % 2), .inr ((k : Int) / 4), .inl 21], (zr (zr τ 21 (zu (τ 21) 10 e51)) 24 x))) rfl trivial ?_
                have hmv : ocn c ((k : Int) / 4) (((k : Int) / 2) % 2) (-1) = 1 ∨ ocn c ((k : Int) / 4) (((k : Int) / 2) % 2) (-1) = 2 ∨ ocn c ((k : Int) / 4) (((k : Int) / 2) % 2) (-1) = 3 := by omega
                obtain ⟨g7, hg7⟩ := m_gainBy (τ := (zr (zr τ 21 (zu (τ 21) 10 e51)) 24 x)) (f := (k : Int) / 4) (r := ((k : Int) / 2) % 2) (s := (-1)) hI hR hx (by omega) (by omega) (by omega) (ocn_mv hmv) hB
                have hgq := gnb_in hI (f := (k : Int) / 4) (r := ((k : Int) / 2) % 2) (s := (-1)) (by omega) (by omega) (by omega) (ocn_mv hmv) (by omega)
                clear hh
                refine exq_c hg7 (is := cod m8_best 54) (L := [some (.inl 21), some (.inr 2), some (.inr b), some (.inr mm), some (.inr (k : Int)), some (.inr (-1)), o6]) (st := []) rfl rfl rfl ?_
                show Exq _ _ (cod m8_best 54, [some (.inl 21), some (.inr 2), some (.inr b), some (.inr mm), some (.inr (k : Int)), some (.inr (-1)), o6], [.inr (gnb c ((k : Int) / 4) (((k : Int) / 2) % 2) (-1))], (zr (zr (zr (zr τ 21 (zu (τ 21) 10 e51)) 24 x) 21 (zu (zu (τ 21) 10 e51) 10 g7)) 24 (τ 22))) _ _
                rw [zr_sw (a := 24) (b := 21) (by decide), zr_zr, zr_zr, zu_zu]
                refine exq_k 2 (P := none) (g := (cod m8_best 56, [some (.inl 21), some (.inr 2), some (.inr b), some (.inr mm), some (.inr (k : Int)), some (.inr (-1)), some (.inr (gnb c ((k : Int) / 4) (((k : Int) / 2) % 2) (-1)))], [.inr b], (zr (zr τ 21 (zu (τ 21) 10 g7)) 24 (τ 22)))) rfl trivial ?_
                refine exq_b (P := b < 0) (ct := (cod m8_best 60, [some (.inl 21), some (.inr 2), some (.inr b), some (.inr mm), some (.inr (k : Int)), some (.inr (-1)), some (.inr (gnb c ((k : Int) / 4) (((k : Int) / 2) % 2) (-1)))], [], (zr (zr τ 21 (zu (τ 21) 10 g7)) 24 (τ 22)))) (cf := (cod m8_best 57, [some (.inl 21), some (.inr 2), some (.inr b), some (.inr mm), some (.inr (k : Int)), some (.inr (-1)), some (.inr (gnb c ((k : Int) / 4) (((k : Int) / 2) % 2) (-1)))], [], (zr (zr τ 21 (zu (τ 21) 10 g7)) 24 (τ 22)))) rfl ⟨by omega, by omega⟩ (fun h4 => ?_) (fun h4 => ?_)
                · first
                  | (exfalso; omega)
                  | (
                      refine exq_k 5 (P := none) (g := (cod m8_best 66, [some (.inl 21), some (.inr 2), some (.inr (k : Int)), some (.inr mm), some (.inr (k : Int)), some (.inr (-1)), some (.inr (gnb c ((k : Int) / 4) (((k : Int) / 2) % 2) (-1)))], [.inr (k : Int), .inr (k : Int)], (zr (zr τ 21 (zu (τ 21) 10 g7)) 24 (τ 22)))) rfl trivial ?_
                      refine exq_b (P := ¬ (k : Int) = (k : Int)) (ct := (cod m8_best 69, [some (.inl 21), some (.inr 2), some (.inr (k : Int)), some (.inr mm), some (.inr (k : Int)), some (.inr (-1)), some (.inr (gnb c ((k : Int) / 4) (((k : Int) / 2) % 2) (-1)))], [], (zr (zr τ 21 (zu (τ 21) 10 g7)) 24 (τ 22)))) (cf := (cod m8_best 67, [some (.inl 21), some (.inr 2), some (.inr (k : Int)), some (.inr mm), some (.inr (k : Int)), some (.inr (-1)), some (.inr (gnb c ((k : Int) / 4) (((k : Int) / 2) % 2) (-1)))], [], (zr (zr τ 21 (zu (τ 21) 10 g7)) 24 (τ 22)))) rfl ⟨⟨by omega, by omega⟩, ⟨by omega, by omega⟩⟩ (fun h5 => ?_) (fun h5 => ?_)
                      · first
                        | (exfalso; omega)
                        | (
                            refine exq_k 4 (P := none) (g := (cod m8_best 15, [some (.inl 21), some (.inr 2), some (.inr (k : Int)), some (.inr mm), some (.inr ((k : Int) + 1)), some (.inr (-1)), some (.inr (gnb c ((k : Int) / 4) (((k : Int) / 2) % 2) (-1)))], [], (zr (zr τ 21 (zu (τ 21) 10 g7)) 24 (τ 22)))) rfl trivial ?_
                            exact ih (k + 1) (by omega) _ _ _ _ _ _ h22 (by rw [bsb_t (stp_n (show ¬ (k : Int) % 2 = 0 from by omega)) hmv (by rw [← hb, ← hmm]; omega)]) (by rw [bsb_t (stp_n (show ¬ (k : Int) % 2 = 0 from by omega)) hmv (by rw [← hb, ← hmm]; omega)]))
                      · first
                        | (exfalso; omega)
                        | (
                            refine exq_k 5 (P := none) (g := (cod m8_best 15, [some (.inl 21), some (.inr 2), some (.inr (k : Int)), some (.inr (gnb c ((k : Int) / 4) (((k : Int) / 2) % 2) (-1))), some (.inr ((k : Int) + 1)), some (.inr (-1)), some (.inr (gnb c ((k : Int) / 4) (((k : Int) / 2) % 2) (-1)))], [], (zr (zr τ 21 (zu (τ 21) 10 g7)) 24 (τ 22)))) rfl trivial ?_
                            exact ih (k + 1) (by omega) _ _ _ _ _ _ h22 (by rw [bsb_t (stp_n (show ¬ (k : Int) % 2 = 0 from by omega)) hmv (by rw [← hb, ← hmm]; omega)]) (by rw [bsb_t (stp_n (show ¬ (k : Int) % 2 = 0 from by omega)) hmv (by rw [← hb, ← hmm]; omega)])))
                · first
                  | (exfalso; omega)
                  | (
                      refine exq_k 2 (P := none) (g := (cod m8_best 59, [some (.inl 21), some (.inr 2), some (.inr b), some (.inr mm), some (.inr (k : Int)), some (.inr (-1)), some (.inr (gnb c ((k : Int) / 4) (((k : Int) / 2) % 2) (-1)))], [.inr mm, .inr (gnb c ((k : Int) / 4) (((k : Int) / 2) % 2) (-1))], (zr (zr τ 21 (zu (τ 21) 10 g7)) 24 (τ 22)))) rfl trivial ?_
                      refine exq_b (P := (gnb c ((k : Int) / 4) (((k : Int) / 2) % 2) (-1)) ≤ mm) (ct := (cod m8_best 62, [some (.inl 21), some (.inr 2), some (.inr b), some (.inr mm), some (.inr (k : Int)), some (.inr (-1)), some (.inr (gnb c ((k : Int) / 4) (((k : Int) / 2) % 2) (-1)))], [], (zr (zr τ 21 (zu (τ 21) 10 g7)) 24 (τ 22)))) (cf := (cod m8_best 60, [some (.inl 21), some (.inr 2), some (.inr b), some (.inr mm), some (.inr (k : Int)), some (.inr (-1)), some (.inr (gnb c ((k : Int) / 4) (((k : Int) / 2) % 2) (-1)))], [], (zr (zr τ 21 (zu (τ 21) 10 g7)) 24 (τ 22)))) rfl ⟨⟨by omega, by omega⟩, ⟨by omega, by omega⟩⟩ (fun h6 => ?_) (fun h6 => ?_)
                      · first
                        | (exfalso; omega)
                        | (
                            refine exq_k 4 (P := none) (g := (cod m8_best 66, [some (.inl 21), some (.inr 2), some (.inr b), some (.inr mm), some (.inr (k : Int)), some (.inr (-1)), some (.inr (gnb c ((k : Int) / 4) (((k : Int) / 2) % 2) (-1)))], [.inr (k : Int), .inr b], (zr (zr τ 21 (zu (τ 21) 10 g7)) 24 (τ 22)))) rfl trivial ?_
                            refine exq_b (P := ¬ b = (k : Int)) (ct := (cod m8_best 69, [some (.inl 21), some (.inr 2), some (.inr b), some (.inr mm), some (.inr (k : Int)), some (.inr (-1)), some (.inr (gnb c ((k : Int) / 4) (((k : Int) / 2) % 2) (-1)))], [], (zr (zr τ 21 (zu (τ 21) 10 g7)) 24 (τ 22)))) (cf := (cod m8_best 67, [some (.inl 21), some (.inr 2), some (.inr b), some (.inr mm), some (.inr (k : Int)), some (.inr (-1)), some (.inr (gnb c ((k : Int) / 4) (((k : Int) / 2) % 2) (-1)))], [], (zr (zr τ 21 (zu (τ 21) 10 g7)) 24 (τ 22)))) rfl ⟨⟨by omega, by omega⟩, ⟨by omega, by omega⟩⟩ (fun h7 => ?_) (fun h7 => ?_)
                            · first
                              | (exfalso; omega)
                              | (
                                  refine exq_k 4 (P := none) (g := (cod m8_best 15, [some (.inl 21), some (.inr 2), some (.inr b), some (.inr mm), some (.inr ((k : Int) + 1)), some (.inr (-1)), some (.inr (gnb c ((k : Int) / 4) (((k : Int) / 2) % 2) (-1)))], [], (zr (zr τ 21 (zu (τ 21) 10 g7)) 24 (τ 22)))) rfl trivial ?_
                                  exact ih (k + 1) (by omega) _ _ _ _ _ _ h22 (by rw [bsb_f (stp_n (show ¬ (k : Int) % 2 = 0 from by omega)) hmv (by rw [← hb, ← hmm]; omega)]; assumption) (by rw [bsb_f (stp_n (show ¬ (k : Int) % 2 = 0 from by omega)) hmv (by rw [← hb, ← hmm]; omega)]; assumption))
                            · first
                              | (exfalso; omega)
                              | (
                                  refine exq_k 5 (P := none) (g := (cod m8_best 15, [some (.inl 21), some (.inr 2), some (.inr b), some (.inr (gnb c ((k : Int) / 4) (((k : Int) / 2) % 2) (-1))), some (.inr ((k : Int) + 1)), some (.inr (-1)), some (.inr (gnb c ((k : Int) / 4) (((k : Int) / 2) % 2) (-1)))], [], (zr (zr τ 21 (zu (τ 21) 10 g7)) 24 (τ 22)))) rfl trivial ?_
                                  exact ih (k + 1) (by omega) _ _ _ _ _ _ h22 (by rw [bsb_t (stp_n (show ¬ (k : Int) % 2 = 0 from by omega)) hmv (by rw [← hb, ← hmm]; omega)]) (by rw [bsb_t (stp_n (show ¬ (k : Int) % 2 = 0 from by omega)) hmv (by rw [← hb, ← hmm]; omega)])))
                      · first
                        | (exfalso; omega)
                        | (
                            refine exq_k 5 (P := none) (g := (cod m8_best 66, [some (.inl 21), some (.inr 2), some (.inr (k : Int)), some (.inr mm), some (.inr (k : Int)), some (.inr (-1)), some (.inr (gnb c ((k : Int) / 4) (((k : Int) / 2) % 2) (-1)))], [.inr (k : Int), .inr (k : Int)], (zr (zr τ 21 (zu (τ 21) 10 g7)) 24 (τ 22)))) rfl trivial ?_
                            refine exq_b (P := ¬ (k : Int) = (k : Int)) (ct := (cod m8_best 69, [some (.inl 21), some (.inr 2), some (.inr (k : Int)), some (.inr mm), some (.inr (k : Int)), some (.inr (-1)), some (.inr (gnb c ((k : Int) / 4) (((k : Int) / 2) % 2) (-1)))], [], (zr (zr τ 21 (zu (τ 21) 10 g7)) 24 (τ 22)))) (cf := (cod m8_best 67, [some (.inl 21), some (.inr 2), some (.inr (k : Int)), some (.inr mm), some (.inr (k : Int)), some (.inr (-1)), some (.inr (gnb c ((k : Int) / 4) (((k : Int) / 2) % 2) (-1)))], [], (zr (zr τ 21 (zu (τ 21) 10 g7)) 24 (τ 22)))) rfl ⟨⟨by omega, by omega⟩, ⟨by omega, by omega⟩⟩ (fun h8 => ?_) (fun h8 => ?_)
                            · first
                              | (exfalso; omega)
                              | (
                                  refine exq_k 4 (P := none) (g := (cod m8_best 15, [some (.inl 21), some (.inr 2), some (.inr (k : Int)), some (.inr mm), some (.inr ((k : Int) + 1)), some (.inr (-1)), some (.inr (gnb c ((k : Int) / 4) (((k : Int) / 2) % 2) (-1)))], [], (zr (zr τ 21 (zu (τ 21) 10 g7)) 24 (τ 22)))) rfl trivial ?_
                                  exact ih (k + 1) (by omega) _ _ _ _ _ _ h22 (by rw [bsb_t (stp_n (show ¬ (k : Int) % 2 = 0 from by omega)) hmv (by rw [← hb, ← hmm]; omega)]) (by rw [bsb_t (stp_n (show ¬ (k : Int) % 2 = 0 from by omega)) hmv (by rw [← hb, ← hmm]; omega)]))
                            · first
                              | (exfalso; omega)
                              | (
                                  refine exq_k 5 (P := none) (g := (cod m8_best 15, [some (.inl 21), some (.inr 2), some (.inr (k : Int)), some (.inr (gnb c ((k : Int) / 4) (((k : Int) / 2) % 2) (-1))), some (.inr ((k : Int) + 1)), some (.inr (-1)), some (.inr (gnb c ((k : Int) / 4) (((k : Int) / 2) % 2) (-1)))], [], (zr (zr τ 21 (zu (τ 21) 10 g7)) 24 (τ 22)))) rfl trivial ?_
                                  exact ih (k + 1) (by omega) _ _ _ _ _ _ h22 (by rw [bsb_t (stp_n (show ¬ (k : Int) % 2 = 0 from by omega)) hmv (by rw [← hb, ← hmm]; omega)]) (by rw [bsb_t (stp_n (show ¬ (k : Int) % 2 = 0 from by omega)) hmv (by rw [← hb, ← hmm]; omega)]))))))
    · first
      | (exfalso; omega)
      | (
          refine exq_k 7 (P := some (0 ≤ (k : Int) ∧ (k : Int) < 2147483648 ∧ 0 < 4 ∧ 4 < 2147483648)) (g := (cod m8_best 35, [some (.inl 21), some (.inr 2), some (.inr b), some (.inr mm), some (.inr (k : Int)), some (.inr 1), o6], [.inr ((k : Int) / 4), .inl 21], (zr (zr τ 21 (zu (τ 21) 10 e)) 24 x))) rfl (by show 0 ≤ (k : Int) ∧ (k : Int) < 2147483648 ∧ 0 < 4 ∧ 4 < 2147483648; omega) ?_
          refine exq_k 3 (P := some (0 ≤ (k : Int) ∧ (k : Int) < 2147483648 ∧ 0 < 2 ∧ 2 < 2147483648)) (g := (cod m8_best 38, [some (.inl 21), some (.inr 2), some (.inr b), some (.inr mm), some (.inr (k : Int)), some (.inr 1), o6], [.inr ((k : Int) / 2), .inr ((k : Int) / 4), .inl 21], (zr (zr τ 21 (zu (τ 21) 10 e)) 24 x))) rfl (by show 0 ≤ (k : Int) ∧ (k : Int) < 2147483648 ∧ 0 < 2 ∧ 2 < 2147483648; omega) ?_
          refine exq_k 2 (P := some (0 ≤ ((k : Int) / 2) ∧ ((k : Int) / 2) < 2147483648 ∧ 0 < 2 ∧ 2 < 2147483648)) (g := (cod m8_best 40, [some (.inl 21), some (.inr 2), some (.inr b), some (.inr mm), some (.inr (k : Int)), some (.inr 1), o6], [.inr (((k : Int) / 2) % 2), .inr ((k : Int) / 4), .inl 21], (zr (zr τ 21 (zu (τ 21) 10 e)) 24 x))) rfl (by show 0 ≤ ((k : Int) / 2) ∧ ((k : Int) / 2) < 2147483648 ∧ 0 < 2 ∧ 2 < 2147483648; omega) ?_
          refine exq_k 1 (P := none) (g := (cod m8_best 41, [some (.inl 21), some (.inr 2), some (.inr b), some (.inr mm), some (.inr (k : Int)), some (.inr 1), o6], [.inr 1, .inr (((k : Int) / 2) % 2), .inr ((k : Int) / 4), .inl 21], (zr (zr τ 21 (zu (τ 21) 10 e)) 24 x))) rfl trivial ?_
          obtain ⟨e52, he52, hc52⟩ := m_hindersInTurn (τ := (zr (zr τ 21 (zu (τ 21) 10 e)) 24 x)) (f := (k : Int) / 4) (r := ((k : Int) / 2) % 2) (s := 1) hI hR (by omega) (by omega) (by omega)
          have hh := hnt_in c ((k : Int) / 4) (((k : Int) / 2) % 2) 1
          refine exq_c hc52 (is := cod m8_best 42) (L := [some (.inl 21), some (.inr 2), some (.inr b), some (.inr mm), some (.inr (k : Int)), some (.inr 1), o6]) (st := []) rfl rfl rfl ?_
          show Exq _ _ (cod m8_best 42, [some (.inl 21), some (.inr 2), some (.inr b), some (.inr mm), some (.inr (k : Int)), some (.inr 1), o6], [.inr (hnt c ((k : Int) / 4) (((k : Int) / 2) % 2) 1)], (zr (zr (zr τ 21 (zu (τ 21) 10 e)) 24 x) 21 (zu (zu (τ 21) 10 e) 10 e52))) _ _
          rw [zr_sw (a := 24) (b := 21) (by decide), zr_zr, zu_zu]
          refine exq_b (P := ¬ (hnt c ((k : Int) / 4) (((k : Int) / 2) % 2) 1) = 0) (ct := (cod m8_best 71, [some (.inl 21), some (.inr 2), some (.inr b), some (.inr mm), some (.inr (k : Int)), some (.inr 1), o6], [], (zr (zr τ 21 (zu (τ 21) 10 e52)) 24 x))) (cf := (cod m8_best 43, [some (.inl 21), some (.inr 2), some (.inr b), some (.inr mm), some (.inr (k : Int)), some (.inr 1), o6], [], (zr (zr τ 21 (zu (τ 21) 10 e52)) 24 x))) rfl ⟨by omega, by omega⟩ (fun h9 => ?_) (fun h9 => ?_)
          · first
            | (exfalso; omega)
            | (
                refine exq_k 2 (P := none) (g := (cod m8_best 15, [some (.inl 21), some (.inr 2), some (.inr b), some (.inr mm), some (.inr ((k : Int) + 1)), some (.inr 1), o6], [], (zr (zr τ 21 (zu (τ 21) 10 e52)) 24 x))) rfl trivial ?_
                exact ih (k + 1) (by omega) _ _ _ _ _ _ hx (by rw [bsb_n (stp_p (show (k : Int) % 2 = 0 from by omega)) (by omega)]; assumption) (by rw [bsb_n (stp_p (show (k : Int) % 2 = 0 from by omega)) (by omega)]; assumption))
          · first
            | (exfalso; omega)
            | (
                refine exq_k 4 (P := some (0 ≤ (k : Int) ∧ (k : Int) < 2147483648 ∧ 0 < 4 ∧ 4 < 2147483648)) (g := (cod m8_best 47, [some (.inl 21), some (.inr 2), some (.inr b), some (.inr mm), some (.inr (k : Int)), some (.inr 1), o6], [.inr ((k : Int) / 4), .inl 21], (zr (zr τ 21 (zu (τ 21) 10 e52)) 24 x))) rfl (by show 0 ≤ (k : Int) ∧ (k : Int) < 2147483648 ∧ 0 < 4 ∧ 4 < 2147483648; omega) ?_
                refine exq_k 3 (P := some (0 ≤ (k : Int) ∧ (k : Int) < 2147483648 ∧ 0 < 2 ∧ 2 < 2147483648)) (g := (cod m8_best 50, [some (.inl 21), some (.inr 2), some (.inr b), some (.inr mm), some (.inr (k : Int)), some (.inr 1), o6], [.inr ((k : Int) / 2), .inr ((k : Int) / 4), .inl 21], (zr (zr τ 21 (zu (τ 21) 10 e52)) 24 x))) rfl (by show 0 ≤ (k : Int) ∧ (k : Int) < 2147483648 ∧ 0 < 2 ∧ 2 < 2147483648; omega) ?_
                refine exq_k 2 (P := some (0 ≤ ((k : Int) / 2) ∧ ((k : Int) / 2) < 2147483648 ∧ 0 < 2 ∧ 2 < 2147483648)) (g := (cod m8_best 52, [some (.inl 21), some (.inr 2), some (.inr b), some (.inr mm), some (.inr (k : Int)), some (.inr 1), o6], [.inr (((k : Int) / 2) % 2), .inr ((k : Int) / 4), .inl 21], (zr (zr τ 21 (zu (τ 21) 10 e52)) 24 x))) rfl (by show 0 ≤ ((k : Int) / 2) ∧ ((k : Int) / 2) < 2147483648 ∧ 0 < 2 ∧ 2 < 2147483648; omega) ?_
                refine exq_k 1 (P := none) (g := (cod m8_best 53, [some (.inl 21), some (.inr 2), some (.inr b), some (.inr mm), some (.inr (k : Int)), some (.inr 1), o6], [.inr 1, .inr (((k : Int) / 2) % 2), .inr ((k : Int) / 4), .inl 21], (zr (zr τ 21 (zu (τ 21) 10 e52)) 24 x))) rfl trivial ?_
                have hmv : ocn c ((k : Int) / 4) (((k : Int) / 2) % 2) 1 = 1 ∨ ocn c ((k : Int) / 4) (((k : Int) / 2) % 2) 1 = 2 ∨ ocn c ((k : Int) / 4) (((k : Int) / 2) % 2) 1 = 3 := by omega
                obtain ⟨g8, hg8⟩ := m_gainBy (τ := (zr (zr τ 21 (zu (τ 21) 10 e52)) 24 x)) (f := (k : Int) / 4) (r := ((k : Int) / 2) % 2) (s := 1) hI hR hx (by omega) (by omega) (by omega) (ocn_mv hmv) hB
                have hgq := gnb_in hI (f := (k : Int) / 4) (r := ((k : Int) / 2) % 2) (s := 1) (by omega) (by omega) (by omega) (ocn_mv hmv) (by omega)
                clear hh
                refine exq_c hg8 (is := cod m8_best 54) (L := [some (.inl 21), some (.inr 2), some (.inr b), some (.inr mm), some (.inr (k : Int)), some (.inr 1), o6]) (st := []) rfl rfl rfl ?_
                show Exq _ _ (cod m8_best 54, [some (.inl 21), some (.inr 2), some (.inr b), some (.inr mm), some (.inr (k : Int)), some (.inr 1), o6], [.inr (gnb c ((k : Int) / 4) (((k : Int) / 2) % 2) 1)], (zr (zr (zr (zr τ 21 (zu (τ 21) 10 e52)) 24 x) 21 (zu (zu (τ 21) 10 e52) 10 g8)) 24 (τ 22))) _ _
                rw [zr_sw (a := 24) (b := 21) (by decide), zr_zr, zr_zr, zu_zu]
                refine exq_k 2 (P := none) (g := (cod m8_best 56, [some (.inl 21), some (.inr 2), some (.inr b), some (.inr mm), some (.inr (k : Int)), some (.inr 1), some (.inr (gnb c ((k : Int) / 4) (((k : Int) / 2) % 2) 1))], [.inr b], (zr (zr τ 21 (zu (τ 21) 10 g8)) 24 (τ 22)))) rfl trivial ?_
                refine exq_b (P := b < 0) (ct := (cod m8_best 60, [some (.inl 21), some (.inr 2), some (.inr b), some (.inr mm), some (.inr (k : Int)), some (.inr 1), some (.inr (gnb c ((k : Int) / 4) (((k : Int) / 2) % 2) 1))], [], (zr (zr τ 21 (zu (τ 21) 10 g8)) 24 (τ 22)))) (cf := (cod m8_best 57, [some (.inl 21), some (.inr 2), some (.inr b), some (.inr mm), some (.inr (k : Int)), some (.inr 1), some (.inr (gnb c ((k : Int) / 4) (((k : Int) / 2) % 2) 1))], [], (zr (zr τ 21 (zu (τ 21) 10 g8)) 24 (τ 22)))) rfl ⟨by omega, by omega⟩ (fun h10 => ?_) (fun h10 => ?_)
                · first
                  | (exfalso; omega)
                  | (
                      refine exq_k 5 (P := none) (g := (cod m8_best 66, [some (.inl 21), some (.inr 2), some (.inr (k : Int)), some (.inr mm), some (.inr (k : Int)), some (.inr 1), some (.inr (gnb c ((k : Int) / 4) (((k : Int) / 2) % 2) 1))], [.inr (k : Int), .inr (k : Int)], (zr (zr τ 21 (zu (τ 21) 10 g8)) 24 (τ 22)))) rfl trivial ?_
                      refine exq_b (P := ¬ (k : Int) = (k : Int)) (ct := (cod m8_best 69, [some (.inl 21), some (.inr 2), some (.inr (k : Int)), some (.inr mm), some (.inr (k : Int)), some (.inr 1), some (.inr (gnb c ((k : Int) / 4) (((k : Int) / 2) % 2) 1))], [], (zr (zr τ 21 (zu (τ 21) 10 g8)) 24 (τ 22)))) (cf := (cod m8_best 67, [some (.inl 21), some (.inr 2), some (.inr (k : Int)), some (.inr mm), some (.inr (k : Int)), some (.inr 1), some (.inr (gnb c ((k : Int) / 4) (((k : Int) / 2) % 2) 1))], [], (zr (zr τ 21 (zu (τ 21) 10 g8)) 24 (τ 22)))) rfl ⟨⟨by omega, by omega⟩, ⟨by omega, by omega⟩⟩ (fun h11 => ?_) (fun h11 => ?_)
                      · first
                        | (exfalso; omega)
                        | (
                            refine exq_k 4 (P := none) (g := (cod m8_best 15, [some (.inl 21), some (.inr 2), some (.inr (k : Int)), some (.inr mm), some (.inr ((k : Int) + 1)), some (.inr 1), some (.inr (gnb c ((k : Int) / 4) (((k : Int) / 2) % 2) 1))], [], (zr (zr τ 21 (zu (τ 21) 10 g8)) 24 (τ 22)))) rfl trivial ?_
                            exact ih (k + 1) (by omega) _ _ _ _ _ _ h22 (by rw [bsb_t (stp_p (show (k : Int) % 2 = 0 from by omega)) hmv (by rw [← hb, ← hmm]; omega)]) (by rw [bsb_t (stp_p (show (k : Int) % 2 = 0 from by omega)) hmv (by rw [← hb, ← hmm]; omega)]))
                      · first
                        | (exfalso; omega)
                        | (
                            refine exq_k 5 (P := none) (g := (cod m8_best 15, [some (.inl 21), some (.inr 2), some (.inr (k : Int)), some (.inr (gnb c ((k : Int) / 4) (((k : Int) / 2) % 2) 1)), some (.inr ((k : Int) + 1)), some (.inr 1), some (.inr (gnb c ((k : Int) / 4) (((k : Int) / 2) % 2) 1))], [], (zr (zr τ 21 (zu (τ 21) 10 g8)) 24 (τ 22)))) rfl trivial ?_
                            exact ih (k + 1) (by omega) _ _ _ _ _ _ h22 (by rw [bsb_t (stp_p (show (k : Int) % 2 = 0 from by omega)) hmv (by rw [← hb, ← hmm]; omega)]) (by rw [bsb_t (stp_p (show (k : Int) % 2 = 0 from by omega)) hmv (by rw [← hb, ← hmm]; omega)])))
                · first
                  | (exfalso; omega)
                  | (
                      refine exq_k 2 (P := none) (g := (cod m8_best 59, [some (.inl 21), some (.inr 2), some (.inr b), some (.inr mm), some (.inr (k : Int)), some (.inr 1), some (.inr (gnb c ((k : Int) / 4) (((k : Int) / 2) % 2) 1))], [.inr mm, .inr (gnb c ((k : Int) / 4) (((k : Int) / 2) % 2) 1)], (zr (zr τ 21 (zu (τ 21) 10 g8)) 24 (τ 22)))) rfl trivial ?_
                      refine exq_b (P := (gnb c ((k : Int) / 4) (((k : Int) / 2) % 2) 1) ≤ mm) (ct := (cod m8_best 62, [some (.inl 21), some (.inr 2), some (.inr b), some (.inr mm), some (.inr (k : Int)), some (.inr 1), some (.inr (gnb c ((k : Int) / 4) (((k : Int) / 2) % 2) 1))], [], (zr (zr τ 21 (zu (τ 21) 10 g8)) 24 (τ 22)))) (cf := (cod m8_best 60, [some (.inl 21), some (.inr 2), some (.inr b), some (.inr mm), some (.inr (k : Int)), some (.inr 1), some (.inr (gnb c ((k : Int) / 4) (((k : Int) / 2) % 2) 1))], [], (zr (zr τ 21 (zu (τ 21) 10 g8)) 24 (τ 22)))) rfl ⟨⟨by omega, by omega⟩, ⟨by omega, by omega⟩⟩ (fun h12 => ?_) (fun h12 => ?_)
                      · first
                        | (exfalso; omega)
                        | (
                            refine exq_k 4 (P := none) (g := (cod m8_best 66, [some (.inl 21), some (.inr 2), some (.inr b), some (.inr mm), some (.inr (k : Int)), some (.inr 1), some (.inr (gnb c ((k : Int) / 4) (((k : Int) / 2) % 2) 1))], [.inr (k : Int), .inr b], (zr (zr τ 21 (zu (τ 21) 10 g8)) 24 (τ 22)))) rfl trivial ?_
                            refine exq_b (P := ¬ b = (k : Int)) (ct := (cod m8_best 69, [some (.inl 21), some (.inr 2), some (.inr b), some (.inr mm), some (.inr (k : Int)), some (.inr 1), some (.inr (gnb c ((k : Int) / 4) (((k : Int) / 2) % 2) 1))], [], (zr (zr τ 21 (zu (τ 21) 10 g8)) 24 (τ 22)))) (cf := (cod m8_best 67, [some (.inl 21), some (.inr 2), some (.inr b), some (.inr mm), some (.inr (k : Int)), some (.inr 1), some (.inr (gnb c ((k : Int) / 4) (((k : Int) / 2) % 2) 1))], [], (zr (zr τ 21 (zu (τ 21) 10 g8)) 24 (τ 22)))) rfl ⟨⟨by omega, by omega⟩, ⟨by omega, by omega⟩⟩ (fun h13 => ?_) (fun h13 => ?_)
                            · first
                              | (exfalso; omega)
                              | (
                                  refine exq_k 4 (P := none) (g := (cod m8_best 15, [some (.inl 21), some (.inr 2), some (.inr b), some (.inr mm), some (.inr ((k : Int) + 1)), some (.inr 1), some (.inr (gnb c ((k : Int) / 4) (((k : Int) / 2) % 2) 1))], [], (zr (zr τ 21 (zu (τ 21) 10 g8)) 24 (τ 22)))) rfl trivial ?_
                                  exact ih (k + 1) (by omega) _ _ _ _ _ _ h22 (by rw [bsb_f (stp_p (show (k : Int) % 2 = 0 from by omega)) hmv (by rw [← hb, ← hmm]; omega)]; assumption) (by rw [bsb_f (stp_p (show (k : Int) % 2 = 0 from by omega)) hmv (by rw [← hb, ← hmm]; omega)]; assumption))
                            · first
                              | (exfalso; omega)
                              | (
                                  refine exq_k 5 (P := none) (g := (cod m8_best 15, [some (.inl 21), some (.inr 2), some (.inr b), some (.inr (gnb c ((k : Int) / 4) (((k : Int) / 2) % 2) 1)), some (.inr ((k : Int) + 1)), some (.inr 1), some (.inr (gnb c ((k : Int) / 4) (((k : Int) / 2) % 2) 1))], [], (zr (zr τ 21 (zu (τ 21) 10 g8)) 24 (τ 22)))) rfl trivial ?_
                                  exact ih (k + 1) (by omega) _ _ _ _ _ _ h22 (by rw [bsb_t (stp_p (show (k : Int) % 2 = 0 from by omega)) hmv (by rw [← hb, ← hmm]; omega)]) (by rw [bsb_t (stp_p (show (k : Int) % 2 = 0 from by omega)) hmv (by rw [← hb, ← hmm]; omega)])))
                      · first
                        | (exfalso; omega)
                        | (
                            refine exq_k 5 (P := none) (g := (cod m8_best 66, [some (.inl 21), some (.inr 2), some (.inr (k : Int)), some (.inr mm), some (.inr (k : Int)), some (.inr 1), some (.inr (gnb c ((k : Int) / 4) (((k : Int) / 2) % 2) 1))], [.inr (k : Int), .inr (k : Int)], (zr (zr τ 21 (zu (τ 21) 10 g8)) 24 (τ 22)))) rfl trivial ?_
                            refine exq_b (P := ¬ (k : Int) = (k : Int)) (ct := (cod m8_best 69, [some (.inl 21), some (.inr 2), some (.inr (k : Int)), some (.inr mm), some (.inr (k : Int)), some (.inr 1), some (.inr (gnb c ((k : Int) / 4) (((k : Int) / 2) % 2) 1))], [], (zr (zr τ 21 (zu (τ 21) 10 g8)) 24 (τ 22)))) (cf := (cod m8_best 67, [some (.inl 21), some (.inr 2), some (.inr (k : Int)), some (.inr mm), some (.inr (k : Int)), some (.inr 1), some (.inr (gnb c ((k : Int) / 4) (((k : Int) / 2) % 2) 1))], [], (zr (zr τ 21 (zu (τ 21) 10 g8)) 24 (τ 22)))) rfl ⟨⟨by omega, by omega⟩, ⟨by omega, by omega⟩⟩ (fun h14 => ?_) (fun h14 => ?_)
                            · first
                              | (exfalso; omega)
                              | (
                                  refine exq_k 4 (P := none) (g := (cod m8_best 15, [some (.inl 21), some (.inr 2), some (.inr (k : Int)), some (.inr mm), some (.inr ((k : Int) + 1)), some (.inr 1), some (.inr (gnb c ((k : Int) / 4) (((k : Int) / 2) % 2) 1))], [], (zr (zr τ 21 (zu (τ 21) 10 g8)) 24 (τ 22)))) rfl trivial ?_
                                  exact ih (k + 1) (by omega) _ _ _ _ _ _ h22 (by rw [bsb_t (stp_p (show (k : Int) % 2 = 0 from by omega)) hmv (by rw [← hb, ← hmm]; omega)]) (by rw [bsb_t (stp_p (show (k : Int) % 2 = 0 from by omega)) hmv (by rw [← hb, ← hmm]; omega)]))
                            · first
                              | (exfalso; omega)
                              | (
                                  refine exq_k 5 (P := none) (g := (cod m8_best 15, [some (.inl 21), some (.inr 2), some (.inr (k : Int)), some (.inr (gnb c ((k : Int) / 4) (((k : Int) / 2) % 2) 1)), some (.inr ((k : Int) + 1)), some (.inr 1), some (.inr (gnb c ((k : Int) / 4) (((k : Int) / 2) % 2) 1))], [], (zr (zr τ 21 (zu (τ 21) 10 g8)) 24 (τ 22)))) rfl trivial ?_
                                  exact ih (k + 1) (by omega) _ _ _ _ _ _ h22 (by rw [bsb_t (stp_p (show (k : Int) % 2 = 0 from by omega)) hmv (by rw [← hb, ← hmm]; omega)]) (by rw [bsb_t (stp_p (show (k : Int) % 2 = 0 from by omega)) hmv (by rw [← hb, ← hmm]; omega)]))))))
theorem d_best_2 {τ : SZ} {c : Nat → Int} {B : Int} (hI : Iv B c) (hR : Rs c (τ 22)) {M : Nat} (hM : (M : Int) = 4 * cel c 107) (h24 : Tz (τ 24)) (hB : B + 9 ≤ 100000000) : RZq 9 m8_best [.inl 21, .inr 2] τ (Qb τ (if (bsb c M).1 < 0 then 0 else if (2 : Int) = 0 then (bsb c M).1 / 4 else if (2 : Int) = 1 then (bsb c M).1 / 2 % 2 else 1 - (bsb c M).1 % 2) (if (bsb c M).1 < 0 then 2 else 0)) := by
  have ein : b2 ((0 : Int) ≤ 2 ∧ (2 : Int) ≤ 2) = 1 := b2_t ⟨by decide, by decide⟩
  refine Exq.call ?_ rfl rfl
  show Exq _ _ (cod m8_best 0, [some (.inl 21), some (.inr 2), none, none, none, none, none], [], τ) _ _
  refine exq_k 3 (P := none) (g := (cod m8_best 3, [some (.inl 21), some (.inr 2), none, none, none, none, none], [.inr 2, .inr 0, .inr 2], τ)) rfl trivial ?_
  refine exq_c (m_in (τ := τ) (v := 2) (a := 0) (b := 2) ⟨by omega, by omega⟩ ⟨by omega, by omega⟩ ⟨by omega, by omega⟩) (is := cod m8_best 4) (L := [some (.inl 21), some (.inr 2), none, none, none, none, none]) (st := []) rfl rfl rfl ?_
  show Exq _ _ (cod m8_best 4, [some (.inl 21), some (.inr 2), none, none, none, none, none], [.inr (b2 (0 ≤ 2 ∧ 2 ≤ 2))], τ) _ _
  refine exq_b (P := ¬ (b2 (0 ≤ 2 ∧ 2 ≤ 2)) = 0) (ct := (cod m8_best 9, [some (.inl 21), some (.inr 2), none, none, none, none, none], [], τ)) (cf := (cod m8_best 5, [some (.inl 21), some (.inr 2), none, none, none, none, none], [], τ)) rfl b2_rng (fun _ => ?_) (fun hh => absurd (by omega) hh)
  refine exq_k 6 (P := none) (g := (cod m8_best 15, [some (.inl 21), some (.inr 2), some (.inr (-1)), some (.inr 0), some (.inr 0), none, none], [], τ)) rfl trivial ?_
  have q := lp_best_m2 (τ := τ) hI hR hM hB M 0 (by omega) (-1) 0 (τ 21 10) (τ 24) none none h24 rfl rfl
  rw [show zr (zr τ 21 (zu (τ 21) 10 (τ 21 10))) 24 (τ 24) = τ from by rw [zu_self, zr_self, zr_self]] at q
  exact q
theorem d_best_x {w : Int} {τ : SZ} (h24 : Tz (τ 24)) (hw : Rng w) (hx : ¬ (0 ≤ w ∧ w ≤ 2)) : RZq 9 m8_best [.inl 21, .inr w] τ (Qb τ 0 1) := by
  obtain ⟨hw1, hw2⟩ := hw
  have ein : b2 (0 ≤ w ∧ w ≤ 2) = 0 := b2_f hx
  refine Exq.call ?_ rfl rfl
  show Exq _ _ (cod m8_best 0, [some (.inl 21), some (.inr w), none, none, none, none, none], [], τ) _ _
  refine exq_k 3 (P := none) (g := (cod m8_best 3, [some (.inl 21), some (.inr w), none, none, none, none, none], [.inr 2, .inr 0, .inr w], τ)) rfl trivial ?_
  refine exq_c (m_in (τ := τ) (v := w) (a := 0) (b := 2) ⟨by omega, by omega⟩ ⟨by omega, by omega⟩ ⟨by omega, by omega⟩) (is := cod m8_best 4) (L := [some (.inl 21), some (.inr w), none, none, none, none, none]) (st := []) rfl rfl rfl ?_
  show Exq _ _ (cod m8_best 4, [some (.inl 21), some (.inr w), none, none, none, none, none], [.inr (b2 (0 ≤ w ∧ w ≤ 2))], τ) _ _
  refine exq_b (P := ¬ (b2 (0 ≤ w ∧ w ≤ 2)) = 0) (ct := (cod m8_best 9, [some (.inl 21), some (.inr w), none, none, none, none, none], [], τ)) (cf := (cod m8_best 5, [some (.inl 21), some (.inr w), none, none, none, none, none], [], τ)) rfl b2_rng (fun hh => absurd hh (by omega)) (fun _ => ?_)
  refine exq_k 2 (P := none) (g := (cod m8_best 7, [some (.inl 21), some (.inr w), none, none, none, none, none], [.inr 1, .inl 21], τ)) rfl trivial ?_
  refine exq_c (m_fails (τ := τ) (k := 1)) (is := cod m8_best 8) (L := [some (.inl 21), some (.inr w), none, none, none, none, none]) (st := []) rfl rfl rfl ?_
  show Exq _ _ (cod m8_best 8, [some (.inl 21), some (.inr w), none, none, none, none, none], [.inr 0], (zr τ 21 (zu (τ 21) 7 1))) _ _
  exact exq_r rfl trivial rfl (qb3 h24 rfl rfl)
end MBE
