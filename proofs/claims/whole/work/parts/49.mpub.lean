/-! contracts of the second implementation: changes, gains, undo: printed by wip/whole/db26.py -/
section MPB
def kp (τ : SZ) : SZ := zr (zr τ 21 (zu (τ 21) 7 0)) 23 (τ 22)
def hpm (b past : Nat → Int) (n : Int) : Nat → Int := zc b (if n = 8 then zc past past 109 0 763 else past) 0 (109 * (if n = 8 then 7 else n)).toNat 109
def hpn (n : Int) : Int := (if n = 8 then 7 else n) + 1
theorem hpm_8 {b past : Nat → Int} {n : Int} (h : n = 8) : hpm b past n = zc b (zc past past 109 0 763) 0 763 109 := by
  unfold hpm
  rw [if_pos h, if_pos h]
  rfl
theorem hpm_n {b past : Nat → Int} {n : Int} (h : ¬ n = 8) : hpm b past n = zc b past 0 (109 * n).toNat 109 := by
  unfold hpm
  rw [if_neg h, if_neg h]
theorem m_keep {τ : SZ} (h22 : Tz (τ 22)) (h23 : Tz (τ 23)) : RZ 1 m8_keep [.inl 21] τ (.inl (none, kp τ)) := by
  refine Ex.call ?_ rfl rfl
  show Ex _ _ (cod m8_keep 0, [some (.inl 21)], [], τ) _ _
  refine ex_k 3 (P := none) (g := (cod m8_keep 3, [some (.inl 21)], [], (zr τ 21 (zu (τ 21) 7 0)))) rfl trivial ?_
  refine ex_k 8 (P := some (0 ≤ 0 ∧ 0 ≤ 0 ∧ 0 ≤ 109 ∧ 0 + 109 ≤ ((109 : Nat) : Int) ∧ 0 + 109 ≤ ((109 : Nat) : Int))) (g := (cod m8_keep 11, [some (.inl 21)], [], (zr (zr τ 21 (zu (τ 21) 7 0)) 23 (zc (τ 22) (τ 23) 0 0 109)))) rfl (by show 0 ≤ 0 ∧ 0 ≤ 0 ∧ 0 ≤ 109 ∧ 0 + 109 ≤ ((109 : Nat) : Int) ∧ 0 + 109 ≤ ((109 : Nat) : Int); omega) ?_
  exact ex_r rfl rfl rfl (rV (by rw [zc_full h22 h23]; rfl))
theorem m_ends1 {v : Int} {τ : SZ} (h7 : 0 < τ 21 7 ∧ τ 21 7 ≤ 3) (h22 : Tz (τ 22)) (h23 : Tz (τ 23)) : RZ 1 m8_ends [.inl 21, .inr v] τ (.inl (some (.inr 0), zr τ 22 (τ 23))) := by
  refine Ex.call ?_ rfl rfl
  show Ex _ _ (cod m8_ends 0, [some (.inl 21), some (.inr v)], [], τ) _ _
  refine ex_k 2 (P := none) (g := (cod m8_ends 2, [some (.inl 21), some (.inr v)], [.inr ((τ 21) 7)], τ)) rfl trivial ?_
  refine ex_b (P := ((τ 21) 7) ≤ 0) (ct := (cod m8_ends 13, [some (.inl 21), some (.inr v)], [], τ)) (cf := (cod m8_ends 3, [some (.inl 21), some (.inr v)], [], τ)) rfl ⟨by omega, by omega⟩ (fun h1 => ?_) (fun h1 => ?_)
  · first
    | (exfalso; omega)
    | (
        refine ex_k 3 (P := none) (g := (cod m8_ends 16, [some (.inl 21), some (.inr v)], [.inr 8, .inr ((τ 21) 6)], τ)) rfl trivial ?_
        refine ex_b (P := ¬ ((τ 21) 6) = 8) (ct := (cod m8_ends 31, [some (.inl 21), some (.inr v)], [], τ)) (cf := (cod m8_ends 17, [some (.inl 21), some (.inr v)], [], τ)) rfl ⟨⟨by omega, by omega⟩, ⟨by decide, by decide⟩⟩ (fun h2 => ?_) (fun h2 => ?_)
        · first
          | (exfalso; omega)
          | (
              refine ex_k 11 (P := some (0 ≤ 0 ∧ 0 ≤ (109 * ((τ 21) 6)) ∧ 0 ≤ 109 ∧ 0 + 109 ≤ ((109 : Nat) : Int) ∧ (109 * ((τ 21) 6)) + 109 ≤ ((872 : Nat) : Int))) (g := (cod m8_ends 42, [some (.inl 21), some (.inr v)], [], (zr τ 26 (zc (τ 23) (τ 26) 0 (109 * ((τ 21) 6)).toNat 109)))) rfl (by show 0 ≤ 0 ∧ 0 ≤ (109 * ((τ 21) 6)) ∧ 0 ≤ 109 ∧ 0 + 109 ≤ ((109 : Nat) : Int) ∧ (109 * ((τ 21) 6)) + 109 ≤ ((872 : Nat) : Int); omega) ?_
              refine ex_k 6 (P := none) (g := (cod m8_ends 48, [some (.inl 21), some (.inr v)], [], (zr (zr τ 26 (zc (τ 23) (τ 26) 0 (109 * ((τ 21) 6)).toNat 109)) 21 (zu (τ 21) 6 (((τ 21) 6) + 1))))) rfl trivial ?_
              refine ex_k 1 (P := none) (g := (cod m8_ends 49, [some (.inl 21), some (.inr v)], [.inr v], (zr (zr τ 26 (zc (τ 23) (τ 26) 0 (109 * ((τ 21) 6)).toNat 109)) 21 (zu (τ 21) 6 (((τ 21) 6) + 1))))) rfl trivial ?_
              exact ex_r rfl trivial rfl (rIV rfl (by rw [zc_full h23 h22])))
        · first
          | (exfalso; omega)
          | (
              refine ex_k 8 (P := some (0 ≤ 109 ∧ 0 ≤ 0 ∧ 0 ≤ 763 ∧ 109 + 763 ≤ ((872 : Nat) : Int) ∧ 0 + 763 ≤ ((872 : Nat) : Int))) (g := (cod m8_ends 25, [some (.inl 21), some (.inr v)], [], (zr τ 26 (zc (τ 26) (τ 26) 109 0 763)))) rfl (by show 0 ≤ 109 ∧ 0 ≤ 0 ∧ 0 ≤ 763 ∧ 109 + 763 ≤ ((872 : Nat) : Int) ∧ 0 + 763 ≤ ((872 : Nat) : Int); omega) ?_
              refine ex_k 6 (P := none) (g := (cod m8_ends 31, [some (.inl 21), some (.inr v)], [], (zr (zr τ 26 (zc (τ 26) (τ 26) 109 0 763)) 21 (zu (τ 21) 6 (((τ 21) 6) - 1))))) rfl trivial ?_
              refine ex_k 11 (P := some (0 ≤ 0 ∧ 0 ≤ (109 * (((τ 21) 6) - 1)) ∧ 0 ≤ 109 ∧ 0 + 109 ≤ ((109 : Nat) : Int) ∧ (109 * (((τ 21) 6) - 1)) + 109 ≤ ((872 : Nat) : Int))) (g := (cod m8_ends 42, [some (.inl 21), some (.inr v)], [], (zr (zr (zr τ 26 (zc (τ 26) (τ 26) 109 0 763)) 21 (zu (τ 21) 6 (((τ 21) 6) - 1))) 26 (zc (τ 23) (zc (τ 26) (τ 26) 109 0 763) 0 (109 * (((τ 21) 6) - 1)).toNat 109)))) rfl (by show 0 ≤ 0 ∧ 0 ≤ (109 * (((τ 21) 6) - 1)) ∧ 0 ≤ 109 ∧ 0 + 109 ≤ ((109 : Nat) : Int) ∧ (109 * (((τ 21) 6) - 1)) + 109 ≤ ((872 : Nat) : Int); omega) ?_
              rw [zr_sw (a := 21) (b := 26) (by decide), zr_zr]
              refine ex_k 6 (P := none) (g := (cod m8_ends 48, [some (.inl 21), some (.inr v)], [], (zr (zr (zr τ 26 (zc (τ 23) (zc (τ 26) (τ 26) 109 0 763) 0 (109 * (((τ 21) 6) - 1)).toNat 109)) 21 (zu (τ 21) 6 (((τ 21) 6) - 1))) 21 (zu (zu (τ 21) 6 (((τ 21) 6) - 1)) 6 ((((τ 21) 6) - 1) + 1))))) rfl trivial ?_
              rw [zr_zr, zu_zu]
              refine ex_k 1 (P := none) (g := (cod m8_ends 49, [some (.inl 21), some (.inr v)], [.inr v], (zr (zr τ 26 (zc (τ 23) (zc (τ 26) (τ 26) 109 0 763) 0 (109 * (((τ 21) 6) - 1)).toNat 109)) 21 (zu (τ 21) 6 ((((τ 21) 6) - 1) + 1))))) rfl trivial ?_
              exact ex_r rfl trivial rfl (rIV rfl (by rw [zc_full h23 h22]))))
  · first
    | (exfalso; omega)
    | (
        refine ex_k 8 (P := some (0 ≤ 0 ∧ 0 ≤ 0 ∧ 0 ≤ 109 ∧ 0 + 109 ≤ ((109 : Nat) : Int) ∧ 0 + 109 ≤ ((109 : Nat) : Int))) (g := (cod m8_ends 11, [some (.inl 21), some (.inr v)], [], (zr τ 22 (zc (τ 23) (τ 22) 0 0 109)))) rfl (by show 0 ≤ 0 ∧ 0 ≤ 0 ∧ 0 ≤ 109 ∧ 0 + 109 ≤ ((109 : Nat) : Int) ∧ 0 + 109 ≤ ((109 : Nat) : Int); omega) ?_
        refine ex_k 1 (P := none) (g := (cod m8_ends 12, [some (.inl 21), some (.inr v)], [.inr 0], (zr τ 22 (zc (τ 23) (τ 22) 0 0 109)))) rfl trivial ?_
        exact ex_r rfl trivial rfl (rIV rfl (by rw [zc_full h23 h22])))
theorem m_ends0 {v : Int} {τ : SZ} (h7 : τ 21 7 = 0) (h6 : 0 ≤ τ 21 6 ∧ τ 21 6 ≤ 8) : RZ 1 m8_ends [.inl 21, .inr v] τ (.inl (some (.inr v), zr (zr τ 26 (hpm (τ 23) (τ 26) (τ 21 6))) 21 (zu (τ 21) 6 (hpn (τ 21 6))))) := by
  refine Ex.call ?_ rfl rfl
  show Ex _ _ (cod m8_ends 0, [some (.inl 21), some (.inr v)], [], τ) _ _
  refine ex_k 2 (P := none) (g := (cod m8_ends 2, [some (.inl 21), some (.inr v)], [.inr ((τ 21) 7)], τ)) rfl trivial ?_
  refine ex_b (P := ((τ 21) 7) ≤ 0) (ct := (cod m8_ends 13, [some (.inl 21), some (.inr v)], [], τ)) (cf := (cod m8_ends 3, [some (.inl 21), some (.inr v)], [], τ)) rfl ⟨by omega, by omega⟩ (fun h1 => ?_) (fun h1 => ?_)
  · first
    | (exfalso; omega)
    | (
        refine ex_k 3 (P := none) (g := (cod m8_ends 16, [some (.inl 21), some (.inr v)], [.inr 8, .inr ((τ 21) 6)], τ)) rfl trivial ?_
        refine ex_b (P := ¬ ((τ 21) 6) = 8) (ct := (cod m8_ends 31, [some (.inl 21), some (.inr v)], [], τ)) (cf := (cod m8_ends 17, [some (.inl 21), some (.inr v)], [], τ)) rfl ⟨⟨by omega, by omega⟩, ⟨by decide, by decide⟩⟩ (fun h2 => ?_) (fun h2 => ?_)
        · first
          | (exfalso; omega)
          | (
              refine ex_k 11 (P := some (0 ≤ 0 ∧ 0 ≤ (109 * ((τ 21) 6)) ∧ 0 ≤ 109 ∧ 0 + 109 ≤ ((109 : Nat) : Int) ∧ (109 * ((τ 21) 6)) + 109 ≤ ((872 : Nat) : Int))) (g := (cod m8_ends 42, [some (.inl 21), some (.inr v)], [], (zr τ 26 (zc (τ 23) (τ 26) 0 (109 * ((τ 21) 6)).toNat 109)))) rfl (by show 0 ≤ 0 ∧ 0 ≤ (109 * ((τ 21) 6)) ∧ 0 ≤ 109 ∧ 0 + 109 ≤ ((109 : Nat) : Int) ∧ (109 * ((τ 21) 6)) + 109 ≤ ((872 : Nat) : Int); omega) ?_
              refine ex_k 6 (P := none) (g := (cod m8_ends 48, [some (.inl 21), some (.inr v)], [], (zr (zr τ 26 (zc (τ 23) (τ 26) 0 (109 * ((τ 21) 6)).toNat 109)) 21 (zu (τ 21) 6 (((τ 21) 6) + 1))))) rfl trivial ?_
              refine ex_k 1 (P := none) (g := (cod m8_ends 49, [some (.inl 21), some (.inr v)], [.inr v], (zr (zr τ 26 (zc (τ 23) (τ 26) 0 (109 * ((τ 21) 6)).toNat 109)) 21 (zu (τ 21) 6 (((τ 21) 6) + 1))))) rfl trivial ?_
              exact ex_r rfl trivial rfl (rIV rfl (by unfold hpn; first | (rw [hpm_8 (by omega), if_pos (show τ 21 6 = 8 by omega), show τ 21 6 = 8 by omega]; rfl) | (rw [hpm_n (by omega), if_neg (show ¬ τ 21 6 = 8 by omega)]))))
        · first
          | (exfalso; omega)
          | (
              refine ex_k 8 (P := some (0 ≤ 109 ∧ 0 ≤ 0 ∧ 0 ≤ 763 ∧ 109 + 763 ≤ ((872 : Nat) : Int) ∧ 0 + 763 ≤ ((872 : Nat) : Int))) (g := (cod m8_ends 25, [some (.inl 21), some (.inr v)], [], (zr τ 26 (zc (τ 26) (τ 26) 109 0 763)))) rfl (by show 0 ≤ 109 ∧ 0 ≤ 0 ∧ 0 ≤ 763 ∧ 109 + 763 ≤ ((872 : Nat) : Int) ∧ 0 + 763 ≤ ((872 : Nat) : Int); omega) ?_
              refine ex_k 6 (P := none) (g := (cod m8_ends 31, [some (.inl 21), some (.inr v)], [], (zr (zr τ 26 (zc (τ 26) (τ 26) 109 0 763)) 21 (zu (τ 21) 6 (((τ 21) 6) - 1))))) rfl trivial ?_
              refine ex_k 11 (P := some (0 ≤ 0 ∧ 0 ≤ (109 * (((τ 21) 6) - 1)) ∧ 0 ≤ 109 ∧ 0 + 109 ≤ ((109 : Nat) : Int) ∧ (109 * (((τ 21) 6) - 1)) + 109 ≤ ((872 : Nat) : Int))) (g := (cod m8_ends 42, [some (.inl 21), some (.inr v)], [], (zr (zr (zr τ 26 (zc (τ 26) (τ 26) 109 0 763)) 21 (zu (τ 21) 6 (((τ 21) 6) - 1))) 26 (zc (τ 23) (zc (τ 26) (τ 26) 109 0 763) 0 (109 * (((τ 21) 6) - 1)).toNat 109)))) rfl (by show 0 ≤ 0 ∧ 0 ≤ (109 * (((τ 21) 6) - 1)) ∧ 0 ≤ 109 ∧ 0 + 109 ≤ ((109 : Nat) : Int) ∧ (109 * (((τ 21) 6) - 1)) + 109 ≤ ((872 : Nat) : Int); omega) ?_
              rw [zr_sw (a := 21) (b := 26) (by decide), zr_zr]
              refine ex_k 6 (P := none) (g := (cod m8_ends 48, [some (.inl 21), some (.inr v)], [], (zr (zr (zr τ 26 (zc (τ 23) (zc (τ 26) (τ 26) 109 0 763) 0 (109 * (((τ 21) 6) - 1)).toNat 109)) 21 (zu (τ 21) 6 (((τ 21) 6) - 1))) 21 (zu (zu (τ 21) 6 (((τ 21) 6) - 1)) 6 ((((τ 21) 6) - 1) + 1))))) rfl trivial ?_
              rw [zr_zr, zu_zu]
              refine ex_k 1 (P := none) (g := (cod m8_ends 49, [some (.inl 21), some (.inr v)], [.inr v], (zr (zr τ 26 (zc (τ 23) (zc (τ 26) (τ 26) 109 0 763) 0 (109 * (((τ 21) 6) - 1)).toNat 109)) 21 (zu (τ 21) 6 ((((τ 21) 6) - 1) + 1))))) rfl trivial ?_
              exact ex_r rfl trivial rfl (rIV rfl (by unfold hpn; first | (rw [hpm_8 (by omega), if_pos (show τ 21 6 = 8 by omega), show τ 21 6 = 8 by omega]; rfl) | (rw [hpm_n (by omega), if_neg (show ¬ τ 21 6 = 8 by omega)])))))
  · first
    | (exfalso; omega)
    | (
        refine ex_k 8 (P := some (0 ≤ 0 ∧ 0 ≤ 0 ∧ 0 ≤ 109 ∧ 0 + 109 ≤ ((109 : Nat) : Int) ∧ 0 + 109 ≤ ((109 : Nat) : Int))) (g := (cod m8_ends 11, [some (.inl 21), some (.inr v)], [], (zr τ 22 (zc (τ 23) (τ 22) 0 0 109)))) rfl (by show 0 ≤ 0 ∧ 0 ≤ 0 ∧ 0 ≤ 109 ∧ 0 + 109 ≤ ((109 : Nat) : Int) ∧ 0 + 109 ≤ ((109 : Nat) : Int); omega) ?_
        refine ex_k 1 (P := none) (g := (cod m8_ends 12, [some (.inl 21), some (.inr v)], [.inr 0], (zr τ 22 (zc (τ 23) (τ 22) 0 0 109)))) rfl trivial ?_
        exact ex_r rfl trivial rfl (rIV rfl (by unfold hpn; first | (rw [hpm_8 (by omega), if_pos (show τ 21 6 = 8 by omega), show τ 21 6 = 8 by omega]; rfl) | (rw [hpm_n (by omega), if_neg (show ¬ τ 21 6 = 8 by omega)]))))
/-- what a change leaves: a state, by its cells -/
def Pub (τ τ2 : SZ) (ob a1 a2 a3 w d w2 d2 : Int) (c' : Nat → Int) : Prop :=
  (∀ a, a ≠ 21 → a ≠ 22 → a ≠ 23 → a ≠ 26 → a ≠ 27 → τ2 a = τ a) ∧ Tz (τ2 23) ∧ (∀ i, i ≠ 6 → i ≠ 7 → i ≠ 9 → i ≠ 10 → τ2 21 i = τ 21 i) ∧
  τ2 21 7 = (if ob = 0 then 0 else if ob = 1 then a1 else if ob = 2 then a2 else a3) ∧
  (ob = 0 → Rs c' (τ2 22) ∧ τ2 26 = hpm (τ 22) (τ 26) (τ 21 6) ∧ τ2 21 6 = hpn (τ 21 6)) ∧ (¬ ob = 0 → τ2 22 = τ 22 ∧ τ2 26 = τ 26 ∧ τ2 21 6 = τ 21 6) ∧
  (ob = 3 → τ2 27 = zu (zu (zu (zu (zu (zu (τ 27) 0 w) 1 d) 2 w2) 3 d2) 4 0) 5 0) ∧ (¬ ob = 3 → τ2 27 = τ 27)
theorem zr_e {τ : SZ} {a b : Nat} {f : Nat → Int} (h : b ≠ a) : zr τ a f b = τ b := zr_ne h
theorem ends_q {τ : SZ} {ob a1 a2 a3 w d w2 d2 V : Int} {c' : Nat → Int} (h22 : Tz (τ 22)) (h6 : 0 ≤ τ 21 6 ∧ τ 21 6 ≤ 8) (ha : (0 < a1 ∧ a1 ≤ 3) ∧ (0 < a2 ∧ a2 ≤ 3) ∧ (0 < a3 ∧ a3 ≤ 3)) {q : RSZ} (h : Qdo (kp τ) ob a1 a2 a3 w d w2 d2 V c' q) :
    ∃ v τ1, q = .inl (some (.inr v), τ1) ∧ ∃ τ2, Pub τ τ2 ob a1 a2 a3 w d w2 d2 c' ∧ RZ 1 m8_ends [.inl 21, .inr v] τ1 (.inl (some (.inr (if ob = 0 then V else 0)), τ2)) := by
  obtain ⟨ho, e, h1, h2, h3, h4⟩ := h
  rcases ho with ho | ho | ho | ho
  · obtain ⟨s', h5, rfl⟩ := h4 ho
    refine ⟨_, _, rfl, _, ?_, by rw [if_pos ho]; exact m_ends0 (τ := dt (zr (kp τ) 22 s') e) rfl h6⟩
    refine ⟨fun a n1 n2 n3 n4 n5 => ?_, h22, fun i n1 n2 n3 n4 => ?_, ?_, fun _ => ⟨h5, rfl, rfl⟩, fun n => absurd ho n, fun q => absurd (ho.symm.trans q) (by decide), fun _ => rfl⟩
    · unfold dt kp
      rw [zr_e n1, zr_e n4, zr_e n1, zr_e n2, zr_e n3, zr_e n1]
    · show zu (zu (zu (τ 21) 7 0) 10 e) 6 _ i = _
      rw [zu_ne n1, zu_ne n4, zu_ne n2]
    · rw [if_pos ho]; rfl
  · have hq := h1 ho
    refine ⟨_, _, hq, _, ?_, by rw [if_neg (by omega)]; exact m_ends1 (τ := th (dt (kp τ) e) a1) (v := 0) ha.1 h22 h22⟩
    refine ⟨fun a n1 n2 n3 n4 n5 => ?_, h22, fun i n1 n2 n3 n4 => ?_, ?_, fun q => absurd (ho.symm.trans q) (by decide), fun _ => ⟨rfl, rfl, rfl⟩, fun q => absurd (ho.symm.trans q) (by decide), fun _ => rfl⟩
    · unfold th dt kp
      rw [zr_e n2, zr_e n1, zr_e n1, zr_e n3, zr_e n1]
    · show zu (zu (zu (τ 21) 7 0) 10 e) 7 a1 i = _
      rw [zu_ne n2, zu_ne n4, zu_ne n2]
    · rw [if_neg (by omega), if_pos ho]; rfl
  · have hq := h2 ho
    refine ⟨_, _, hq, _, ?_, by rw [if_neg (by omega)]; exact m_ends1 (τ := th (dt (kp τ) e) a2) (v := 0) ha.2.1 h22 h22⟩
    refine ⟨fun a n1 n2 n3 n4 n5 => ?_, h22, fun i n1 n2 n3 n4 => ?_, ?_, fun q => absurd (ho.symm.trans q) (by decide), fun _ => ⟨rfl, rfl, rfl⟩, fun q => absurd (ho.symm.trans q) (by decide), fun _ => rfl⟩
    · unfold th dt kp
      rw [zr_e n2, zr_e n1, zr_e n1, zr_e n3, zr_e n1]
    · show zu (zu (zu (τ 21) 7 0) 10 e) 7 a2 i = _
      rw [zu_ne n2, zu_ne n4, zu_ne n2]
    · rw [if_neg (by omega), if_neg (by omega), if_pos ho]; rfl
  · have hq := h3 ho
    refine ⟨_, _, hq, _, ?_, by rw [if_neg (by omega)]; exact m_ends1 (τ := rf (dt (kp τ) e) a3 w d w2 d2) (v := 0) ha.2.2 h22 h22⟩
    refine ⟨fun a n1 n2 n3 n4 n5 => ?_, h22, fun i n1 n2 n3 n4 => ?_, ?_, fun q => absurd (ho.symm.trans q) (by decide), fun _ => ⟨rfl, rfl, rfl⟩, fun _ => rfl, fun n => absurd ho n⟩
    · unfold rf dt kp
      rw [zr_e n2, zr_e n5, zr_e n1, zr_e n1, zr_e n3, zr_e n1]
    · show zu (zu (zu (zu (τ 21) 7 0) 10 e) 7 a3) 9 1 i = _
      rw [zu_ne n3, zu_ne n2, zu_ne n4, zu_ne n2]
    · rw [if_neg (by omega), if_neg (by omega), if_neg (by omega)]; rfl
theorem p_ferry {x p q : Int} {τ : SZ} {c : Nat → Int} {B : Int} (hI : Iv B c) (hR : Rs c (τ 22)) (h23 : Tz (τ 23)) (h6 : 0 ≤ τ 21 6 ∧ τ 21 6 ≤ 8) (hx : Rng x) (hp : Rng p) (hq : Rng q) : ∃ τ2, Pub τ τ2 (obF c x p q) 1 1 2 (rwF c) (rdF c p q) (0) (0) (adf c x p q) ∧ RZ 6 m8_ferry [.inl 21, .inr x, .inr p, .inr q] τ (.inl (some (.inr (if obF c x p q = 0 then cel c 107 else 0)), τ2)) := by
  have h22 := hR.tz
  have qh : RZq 6 m8_ferry [.inl 21, .inr x, .inr p, .inr q] τ (fun qq => ∃ τ2, Pub τ τ2 (obF c x p q) 1 1 2 (rwF c) (rdF c p q) (0) (0) (adf c x p q) ∧ qq = .inl (some (.inr (if obF c x p q = 0 then cel c 107 else 0)), τ2)) := by
    refine Exq.call ?_ rfl rfl
    show Exq _ _ (cod m8_ferry 0, [some (.inl 21), some (.inr x), some (.inr p), some (.inr q)], [], τ) _ _
    refine exq_k 1 (P := none) (g := (cod m8_ferry 1, [some (.inl 21), some (.inr x), some (.inr p), some (.inr q)], [.inl 21], τ)) rfl trivial ?_
    refine exq_c (m_keep (τ := τ) h22 h23) (is := cod m8_ferry 2) (L := [some (.inl 21), some (.inr x), some (.inr p), some (.inr q)]) (st := []) rfl rfl rfl ?_
    show Exq _ _ (cod m8_ferry 2, [some (.inl 21), some (.inr x), some (.inr p), some (.inr q)], [], (kp τ)) _ _
    refine exq_k 5 (P := none) (g := (cod m8_ferry 7, [some (.inl 21), some (.inr x), some (.inr p), some (.inr q)], [.inr q, .inr p, .inr x, .inl 21, .inl 21], (kp τ))) rfl trivial ?_
    refine exq_cq (m_doFerry (τ := kp τ) (x := x) (p := p) (q := q) hI (show Rs c (kp τ 22) from hR) hx hp hq) (is := cod m8_ferry 8) (L := [some (.inl 21), some (.inr x), some (.inr p), some (.inr q)]) (st := [.inl 21]) rfl rfl rfl (fun v τ1 hq => ?_) (fun E τ1 hq => by obtain ⟨v, τ3, h, _⟩ := ends_q h22 h6 (by omega) hq; cases h)
    obtain ⟨v1, τ3, h, τ2, h1, h2⟩ := ends_q h22 h6 (by omega) hq
    cases h
    refine exq_c h2 (is := cod m8_ferry 9) (L := [some (.inl 21), some (.inr x), some (.inr p), some (.inr q)]) (st := []) rfl rfl rfl ?_
    exact exq_r rfl trivial rfl ⟨τ2, h1, rfl⟩
  obtain ⟨qq, ⟨τ2, h1, rfl⟩, h⟩ := qh
  exact ⟨τ2, h1, h⟩
theorem p_tug {r p : Int} {τ : SZ} {c : Nat → Int} {B : Int} (hI : Iv B c) (hR : Rs c (τ 22)) (h23 : Tz (τ 23)) (h6 : 0 ≤ τ 21 6 ∧ τ 21 6 ≤ 8) (hG : ∀ r, 0 ≤ r → r < 2 → tgs c r ≤ 4) (hr : Rng r) (hp : Rng p) : ∃ τ2, Pub τ τ2 (obT c r p) 1 1 2 (rwT c r) (rdT c r p) (0) (0) (swh c r p 8) ∧ RZ 6 m8_tug [.inl 21, .inr r, .inr p] τ (.inl (some (.inr (if obT c r p = 0 then tgs (swh c r p 8) r else 0)), τ2)) := by
  have h22 := hR.tz
  have qh : RZq 6 m8_tug [.inl 21, .inr r, .inr p] τ (fun qq => ∃ τ2, Pub τ τ2 (obT c r p) 1 1 2 (rwT c r) (rdT c r p) (0) (0) (swh c r p 8) ∧ qq = .inl (some (.inr (if obT c r p = 0 then tgs (swh c r p 8) r else 0)), τ2)) := by
    refine Exq.call ?_ rfl rfl
    show Exq _ _ (cod m8_tug 0, [some (.inl 21), some (.inr r), some (.inr p)], [], τ) _ _
    refine exq_k 1 (P := none) (g := (cod m8_tug 1, [some (.inl 21), some (.inr r), some (.inr p)], [.inl 21], τ)) rfl trivial ?_
    refine exq_c (m_keep (τ := τ) h22 h23) (is := cod m8_tug 2) (L := [some (.inl 21), some (.inr r), some (.inr p)]) (st := []) rfl rfl rfl ?_
    show Exq _ _ (cod m8_tug 2, [some (.inl 21), some (.inr r), some (.inr p)], [], (kp τ)) _ _
    refine exq_k 4 (P := none) (g := (cod m8_tug 6, [some (.inl 21), some (.inr r), some (.inr p)], [.inr p, .inr r, .inl 21, .inl 21], (kp τ))) rfl trivial ?_
    refine exq_cq (m_doTug (τ := kp τ) (r := r) (p := p) hI (show Rs c (kp τ 22) from hR) hG hr hp) (is := cod m8_tug 7) (L := [some (.inl 21), some (.inr r), some (.inr p)]) (st := [.inl 21]) rfl rfl rfl (fun v τ1 hq => ?_) (fun E τ1 hq => by obtain ⟨v, τ3, h, _⟩ := ends_q h22 h6 (by omega) hq; cases h)
    obtain ⟨v1, τ3, h, τ2, h1, h2⟩ := ends_q h22 h6 (by omega) hq
    cases h
    refine exq_c h2 (is := cod m8_tug 8) (L := [some (.inl 21), some (.inr r), some (.inr p)]) (st := []) rfl rfl rfl ?_
    exact exq_r rfl trivial rfl ⟨τ2, h1, rfl⟩
  obtain ⟨qq, ⟨τ2, h1, rfl⟩, h⟩ := qh
  exact ⟨τ2, h1, h⟩
theorem p_lock {r p v : Int} {τ : SZ} {c : Nat → Int} {B : Int} (hI : Iv B c) (hR : Rs c (τ 22)) (h23 : Tz (τ 23)) (h6 : 0 ≤ τ 21 6 ∧ τ 21 6 ≤ 8) (hr : Rng r) (hp : Rng p) (hv : Rng v) : ∃ τ2, Pub τ τ2 (obL c r p v) 1 2 3 (3) (v) (0) (0) (sus c r p v) ∧ RZ 6 m8_lock [.inl 21, .inr r, .inr p, .inr v] τ (.inl (some (.inr (if obL c r p v = 0 then usz c r p else 0)), τ2)) := by
  have h22 := hR.tz
  have qh : RZq 6 m8_lock [.inl 21, .inr r, .inr p, .inr v] τ (fun qq => ∃ τ2, Pub τ τ2 (obL c r p v) 1 2 3 (3) (v) (0) (0) (sus c r p v) ∧ qq = .inl (some (.inr (if obL c r p v = 0 then usz c r p else 0)), τ2)) := by
    refine Exq.call ?_ rfl rfl
    show Exq _ _ (cod m8_lock 0, [some (.inl 21), some (.inr r), some (.inr p), some (.inr v)], [], τ) _ _
    refine exq_k 1 (P := none) (g := (cod m8_lock 1, [some (.inl 21), some (.inr r), some (.inr p), some (.inr v)], [.inl 21], τ)) rfl trivial ?_
    refine exq_c (m_keep (τ := τ) h22 h23) (is := cod m8_lock 2) (L := [some (.inl 21), some (.inr r), some (.inr p), some (.inr v)]) (st := []) rfl rfl rfl ?_
    show Exq _ _ (cod m8_lock 2, [some (.inl 21), some (.inr r), some (.inr p), some (.inr v)], [], (kp τ)) _ _
    refine exq_k 5 (P := none) (g := (cod m8_lock 7, [some (.inl 21), some (.inr r), some (.inr p), some (.inr v)], [.inr v, .inr p, .inr r, .inl 21, .inl 21], (kp τ))) rfl trivial ?_
    refine exq_cq (m_doLock (τ := kp τ) (r := r) (p := p) (v := v) hI (show Rs c (kp τ 22) from hR) hr hp hv) (is := cod m8_lock 8) (L := [some (.inl 21), some (.inr r), some (.inr p), some (.inr v)]) (st := [.inl 21]) rfl rfl rfl (fun v τ1 hq => ?_) (fun E τ1 hq => by obtain ⟨v, τ3, h, _⟩ := ends_q h22 h6 (by omega) hq; cases h)
    obtain ⟨v1, τ3, h, τ2, h1, h2⟩ := ends_q h22 h6 (by omega) hq
    cases h
    refine exq_c h2 (is := cod m8_lock 9) (L := [some (.inl 21), some (.inr r), some (.inr p), some (.inr v)]) (st := []) rfl rfl rfl ?_
    exact exq_r rfl trivial rfl ⟨τ2, h1, rfl⟩
  obtain ⟨qq, ⟨τ2, h1, rfl⟩, h⟩ := qh
  exact ⟨τ2, h1, h⟩
theorem p_fog {r p v : Int} {τ : SZ} {c : Nat → Int} {B : Int} (hI : Iv B c) (hR : Rs c (τ 22)) (h23 : Tz (τ 23)) (h6 : 0 ≤ τ 21 6 ∧ τ 21 6 ≤ 8) (hr : Rng r) (hp : Rng p) (hv : Rng v) : ∃ τ2, Pub τ τ2 (obG c r p v) 1 2 3 (3) (v) (0) (0) (sce (sce c (96 + r) p) (98 + r) v) ∧ RZ 6 m8_fog [.inl 21, .inr r, .inr p, .inr v] τ (.inl (some (.inr (if obG c r p v = 0 then cel c (98 + r) else 0)), τ2)) := by
  have h22 := hR.tz
  have qh : RZq 6 m8_fog [.inl 21, .inr r, .inr p, .inr v] τ (fun qq => ∃ τ2, Pub τ τ2 (obG c r p v) 1 2 3 (3) (v) (0) (0) (sce (sce c (96 + r) p) (98 + r) v) ∧ qq = .inl (some (.inr (if obG c r p v = 0 then cel c (98 + r) else 0)), τ2)) := by
    refine Exq.call ?_ rfl rfl
    show Exq _ _ (cod m8_fog 0, [some (.inl 21), some (.inr r), some (.inr p), some (.inr v)], [], τ) _ _
    refine exq_k 1 (P := none) (g := (cod m8_fog 1, [some (.inl 21), some (.inr r), some (.inr p), some (.inr v)], [.inl 21], τ)) rfl trivial ?_
    refine exq_c (m_keep (τ := τ) h22 h23) (is := cod m8_fog 2) (L := [some (.inl 21), some (.inr r), some (.inr p), some (.inr v)]) (st := []) rfl rfl rfl ?_
    show Exq _ _ (cod m8_fog 2, [some (.inl 21), some (.inr r), some (.inr p), some (.inr v)], [], (kp τ)) _ _
    refine exq_k 5 (P := none) (g := (cod m8_fog 7, [some (.inl 21), some (.inr r), some (.inr p), some (.inr v)], [.inr v, .inr p, .inr r, .inl 21, .inl 21], (kp τ))) rfl trivial ?_
    refine exq_cq (m_doFog (τ := kp τ) (r := r) (p := p) (v := v) hI (show Rs c (kp τ 22) from hR) hr hp hv) (is := cod m8_fog 8) (L := [some (.inl 21), some (.inr r), some (.inr p), some (.inr v)]) (st := [.inl 21]) rfl rfl rfl (fun v τ1 hq => ?_) (fun E τ1 hq => by obtain ⟨v, τ3, h, _⟩ := ends_q h22 h6 (by omega) hq; cases h)
    obtain ⟨v1, τ3, h, τ2, h1, h2⟩ := ends_q h22 h6 (by omega) hq
    cases h
    refine exq_c h2 (is := cod m8_fog 9) (L := [some (.inl 21), some (.inr r), some (.inr p), some (.inr v)]) (st := []) rfl rfl rfl ?_
    exact exq_r rfl trivial rfl ⟨τ2, h1, rfl⟩
  obtain ⟨qq, ⟨τ2, h1, rfl⟩, h⟩ := qh
  exact ⟨τ2, h1, h⟩
theorem p_move_0 {f r : Int} {τ : SZ} {c : Nat → Int} {B : Int} (hI : Iv B c) (hR : Rs c (τ 22)) (h23 : Tz (τ 23)) (h6 : 0 ≤ τ 21 6 ∧ τ 21 6 ≤ 8) (hB : B + 9 ≤ 100000000) (hf : Rng f) (hr : Rng r) : ∃ τ2, Pub τ τ2 (obM c f r (-1)) 1 2 2 (4) (f) (ocn c f r (-1)) (dtl c (ocn c f r (-1)) f r (-1)) (mkm c f r (-1)) ∧ RZ 10 m8_move [.inl 21, .inr f, .inr r, .inr 0] τ (.inl (some (.inr (if obM c f r (-1) = 0 then mkp c f r (-1) else 0)), τ2)) := by
  have h22 := hR.tz
  have qh : RZq 10 m8_move [.inl 21, .inr f, .inr r, .inr 0] τ (fun qq => ∃ τ2, Pub τ τ2 (obM c f r (-1)) 1 2 2 (4) (f) (ocn c f r (-1)) (dtl c (ocn c f r (-1)) f r (-1)) (mkm c f r (-1)) ∧ qq = .inl (some (.inr (if obM c f r (-1) = 0 then mkp c f r (-1) else 0)), τ2)) := by
    refine Exq.call ?_ rfl rfl
    show Exq _ _ (cod m8_move 0, [some (.inl 21), some (.inr f), some (.inr r), some (.inr 0)], [], τ) _ _
    refine exq_k 1 (P := none) (g := (cod m8_move 1, [some (.inl 21), some (.inr f), some (.inr r), some (.inr 0)], [.inl 21], τ)) rfl trivial ?_
    refine exq_c (m_keep (τ := τ) h22 h23) (is := cod m8_move 2) (L := [some (.inl 21), some (.inr f), some (.inr r), some (.inr 0)]) (st := []) rfl rfl rfl ?_
    show Exq _ _ (cod m8_move 2, [some (.inl 21), some (.inr f), some (.inr r), some (.inr 0)], [], (kp τ)) _ _
    refine exq_k 5 (P := none) (g := (cod m8_move 7, [some (.inl 21), some (.inr f), some (.inr r), some (.inr 0)], [.inr 0, .inr r, .inr f, .inl 21, .inl 21], (kp τ))) rfl trivial ?_
    refine exq_cq (m_doMove_0 (τ := kp τ) (f := f) (r := r) hI (show Rs c (kp τ 22) from hR) hf hr hB) (is := cod m8_move 8) (L := [some (.inl 21), some (.inr f), some (.inr r), some (.inr 0)]) (st := [.inl 21]) rfl rfl rfl (fun v τ1 hq => ?_) (fun E τ1 hq => by obtain ⟨v, τ3, h, _⟩ := ends_q h22 h6 (by omega) hq; cases h)
    obtain ⟨v1, τ3, h, τ2, h1, h2⟩ := ends_q h22 h6 (by omega) hq
    cases h
    refine exq_c h2 (is := cod m8_move 9) (L := [some (.inl 21), some (.inr f), some (.inr r), some (.inr 0)]) (st := []) rfl rfl rfl ?_
    exact exq_r rfl trivial rfl ⟨τ2, h1, rfl⟩
  obtain ⟨qq, ⟨τ2, h1, rfl⟩, h⟩ := qh
  exact ⟨τ2, h1, h⟩
theorem p_move_1 {f r : Int} {τ : SZ} {c : Nat → Int} {B : Int} (hI : Iv B c) (hR : Rs c (τ 22)) (h23 : Tz (τ 23)) (h6 : 0 ≤ τ 21 6 ∧ τ 21 6 ≤ 8) (hB : B + 9 ≤ 100000000) (hf : Rng f) (hr : Rng r) : ∃ τ2, Pub τ τ2 (obM c f r 1) 1 2 2 (4) (f) (ocn c f r 1) (dtl c (ocn c f r 1) f r 1) (mkm c f r 1) ∧ RZ 10 m8_move [.inl 21, .inr f, .inr r, .inr 1] τ (.inl (some (.inr (if obM c f r 1 = 0 then mkp c f r 1 else 0)), τ2)) := by
  have h22 := hR.tz
  have qh : RZq 10 m8_move [.inl 21, .inr f, .inr r, .inr 1] τ (fun qq => ∃ τ2, Pub τ τ2 (obM c f r 1) 1 2 2 (4) (f) (ocn c f r 1) (dtl c (ocn c f r 1) f r 1) (mkm c f r 1) ∧ qq = .inl (some (.inr (if obM c f r 1 = 0 then mkp c f r 1 else 0)), τ2)) := by
    refine Exq.call ?_ rfl rfl
    show Exq _ _ (cod m8_move 0, [some (.inl 21), some (.inr f), some (.inr r), some (.inr 1)], [], τ) _ _
    refine exq_k 1 (P := none) (g := (cod m8_move 1, [some (.inl 21), some (.inr f), some (.inr r), some (.inr 1)], [.inl 21], τ)) rfl trivial ?_
    refine exq_c (m_keep (τ := τ) h22 h23) (is := cod m8_move 2) (L := [some (.inl 21), some (.inr f), some (.inr r), some (.inr 1)]) (st := []) rfl rfl rfl ?_
    show Exq _ _ (cod m8_move 2, [some (.inl 21), some (.inr f), some (.inr r), some (.inr 1)], [], (kp τ)) _ _
    refine exq_k 5 (P := none) (g := (cod m8_move 7, [some (.inl 21), some (.inr f), some (.inr r), some (.inr 1)], [.inr 1, .inr r, .inr f, .inl 21, .inl 21], (kp τ))) rfl trivial ?_
    refine exq_cq (m_doMove_1 (τ := kp τ) (f := f) (r := r) hI (show Rs c (kp τ 22) from hR) hf hr hB) (is := cod m8_move 8) (L := [some (.inl 21), some (.inr f), some (.inr r), some (.inr 1)]) (st := [.inl 21]) rfl rfl rfl (fun v τ1 hq => ?_) (fun E τ1 hq => by obtain ⟨v, τ3, h, _⟩ := ends_q h22 h6 (by omega) hq; cases h)
    obtain ⟨v1, τ3, h, τ2, h1, h2⟩ := ends_q h22 h6 (by omega) hq
    cases h
    refine exq_c h2 (is := cod m8_move 9) (L := [some (.inl 21), some (.inr f), some (.inr r), some (.inr 1)]) (st := []) rfl rfl rfl ?_
    exact exq_r rfl trivial rfl ⟨τ2, h1, rfl⟩
  obtain ⟨qq, ⟨τ2, h1, rfl⟩, h⟩ := qh
  exact ⟨τ2, h1, h⟩
theorem p_pass {τ : SZ} {c : Nat → Int} {B : Int} (hI : Iv B c) (hR : Rs c (τ 22)) (h23 : Tz (τ 23)) (h6 : 0 ≤ τ 21 6 ∧ τ 21 6 ≤ 8) (hB : B + 1 ≤ 100000000) : ∃ τ2, Pub τ τ2 (obP c) 1 2 1 (5) (fsm c (cel c 107).toNat 0) (0) (0) (psT c) ∧ RZ 8 m8_pass [.inl 21] τ (.inl (some (.inr (if obP c = 0 then cel (psT c) 108 else 0)), τ2)) := by
  have h22 := hR.tz
  have qh : RZq 8 m8_pass [.inl 21] τ (fun qq => ∃ τ2, Pub τ τ2 (obP c) 1 2 1 (5) (fsm c (cel c 107).toNat 0) (0) (0) (psT c) ∧ qq = .inl (some (.inr (if obP c = 0 then cel (psT c) 108 else 0)), τ2)) := by
    refine Exq.call ?_ rfl rfl
    show Exq _ _ (cod m8_pass 0, [some (.inl 21)], [], τ) _ _
    refine exq_k 1 (P := none) (g := (cod m8_pass 1, [some (.inl 21)], [.inl 21], τ)) rfl trivial ?_
    refine exq_c (m_keep (τ := τ) h22 h23) (is := cod m8_pass 2) (L := [some (.inl 21)]) (st := []) rfl rfl rfl ?_
    show Exq _ _ (cod m8_pass 2, [some (.inl 21)], [], (kp τ)) _ _
    refine exq_k 2 (P := none) (g := (cod m8_pass 4, [some (.inl 21)], [.inl 21, .inl 21], (kp τ))) rfl trivial ?_
    refine exq_cq (m_doPass (τ := kp τ) hI (show Rs c (kp τ 22) from hR) hB) (is := cod m8_pass 5) (L := [some (.inl 21)]) (st := [.inl 21]) rfl rfl rfl (fun v τ1 hq => ?_) (fun E τ1 hq => by obtain ⟨v, τ3, h, _⟩ := ends_q h22 h6 (by omega) hq; cases h)
    obtain ⟨v1, τ3, h, τ2, h1, h2⟩ := ends_q h22 h6 (by omega) hq
    cases h
    refine exq_c h2 (is := cod m8_pass 6) (L := [some (.inl 21)]) (st := []) rfl rfl rfl ?_
    exact exq_r rfl trivial rfl ⟨τ2, h1, rfl⟩
  obtain ⟨qq, ⟨τ2, h1, rfl⟩, h⟩ := qh
  exact ⟨τ2, h1, h⟩
theorem gnb_m {B : Int} {c : Nat → Int} (hI : Iv B c) {f r s : Int} (hf : 0 ≤ f ∧ f < cel c 107) (hr : 0 ≤ r ∧ r < 2) (hs : s = 1 ∨ s = -1) (ho : oco c f r s = 1 ∨ oco c f r s = 2 ∨ oco c f r s = 3) (hB : B + 9 ≤ 100000000) : gnb c f r s = mkp c f r s - mpv (mkm c f r s) (1 - cel c (0 + f * 6 + 0)) (cel (mkm c f r s) 107).toNat := by
  have hJ := hI.mkm hf hr hs ho (by omega)
  have hn := hJ.1.n
  have hn0 := hI.1.n
  have hsd := hI.1.sd (f := f) (by omega)
  unfold gnb
  rw [mxp_mpv hJ (by omega) (N := (cel (mkm c f r s) 107).toNat) (by omega)]
theorem gb_st {τ : SZ} {s1 : Nat → Int} {e : Int} (h22 : Tz (τ 22)) (h1 : Tz s1) : zr (dt (zr (zr τ 24 (τ 22)) 22 s1) e) 22 (zc (dt (zr (zr τ 24 (τ 22)) 22 s1) e 24) (dt (zr (zr τ 24 (τ 22)) 22 s1) e 22) 0 0 109) = zr (dt τ e) 24 (τ 22) := by
  rw [show zc (dt (zr (zr τ 24 (τ 22)) 22 s1) e 24) (dt (zr (zr τ 24 (τ 22)) 22 s1) e 22) 0 0 109 = τ 22 from zc_full h22 h1, dt_zr, zr_zr]
  unfold dt
  rw [zr_sw (a := 24) (b := 22) (by decide), zr_self, zr_sw (a := 24) (b := 21) (by decide)]
  rfl
theorem m_gainBy {f r s : Int} {τ : SZ} {c : Nat → Int} {B : Int} (hI : Iv B c) (hR : Rs c (τ 22)) (h24 : Tz (τ 24)) (hf : 0 ≤ f ∧ f < cel c 107) (hr : 0 ≤ r ∧ r < 2) (hs : s = 1 ∨ s = -1) (ho : oco c f r s = 1 ∨ oco c f r s = 2 ∨ oco c f r s = 3) (hB : B + 9 ≤ 100000000) : ∃ e, RZ 8 m8_gainBy [.inl 21, .inr f, .inr r, .inr s] τ (.inl (some (.inr (gnb c f r s)), zr (dt τ e) 24 (τ 22))) := by
  have hS := hI.1
  have hC := hI.2.1
  have hN := hS.n
  have h22 := hR.tz
  have hsd := hS.sd (f := f) (by omega)
  have hJ := hI.mkm hf hr hs ho (by omega)
  have q : RZq 8 m8_gainBy [.inl 21, .inr f, .inr r, .inr s] τ (fun q => ∃ e, q = .inl (some (.inr (gnb c f r s)), zr (dt τ e) 24 (τ 22))) := by
    refine Exq.call ?_ rfl rfl
    show Exq _ _ (cod m8_gainBy 0, [some (.inl 21), some (.inr f), some (.inr r), some (.inr s), none, none, none], [], τ) _ _
    refine exq_k 4 (P := none) (g := (cod m8_gainBy 4, [some (.inl 21), some (.inr f), some (.inr r), some (.inr s), none, none, none], [.inr 0, .inr f, .inl 21, .inr 1], τ)) rfl trivial ?_
    refine exq_c (m_of (τ := τ) (f := f) (w := 0) hI hR (by omega) (by omega)) (is := cod m8_gainBy 5) (L := [some (.inl 21), some (.inr f), some (.inr r), some (.inr s), none, none, none]) (st := [.inr 1]) rfl rfl rfl ?_
    show Exq _ _ (cod m8_gainBy 5, [some (.inl 21), some (.inr f), some (.inr r), some (.inr s), none, none, none], [.inr (cel c (0 + f * 6 + 0)), .inr 1], τ) _ _
    refine exq_k 10 (P := some (0 ≤ 0 ∧ 0 ≤ 0 ∧ 0 ≤ 109 ∧ 0 + 109 ≤ ((109 : Nat) : Int) ∧ 0 + 109 ≤ ((109 : Nat) : Int))) (g := (cod m8_gainBy 15, [some (.inl 21), some (.inr f), some (.inr r), some (.inr s), some (.inr (1 - (cel c (0 + f * 6 + 0)))), none, none], [], (zr τ 24 (zc (τ 22) (τ 24) 0 0 109)))) rfl (by show 0 ≤ 0 ∧ 0 ≤ 0 ∧ 0 ≤ 109 ∧ 0 + 109 ≤ ((109 : Nat) : Int) ∧ 0 + 109 ≤ ((109 : Nat) : Int); omega) ?_
    refine exq_k 4 (P := none) (g := (cod m8_gainBy 19, [some (.inl 21), some (.inr f), some (.inr r), some (.inr s), some (.inr (1 - (cel c (0 + f * 6 + 0)))), none, none], [.inr s, .inr r, .inr f, .inl 21], (zr τ 24 (zc (τ 22) (τ 24) 0 0 109)))) rfl trivial ?_
    rw [zc_full h22 h24]
    refine exq_cq (m_goes (τ := zr τ 24 (τ 22)) (f := f) (r := r) (s := s) hI hR (by omega) (by omega) (by omega) ho hB) (is := cod m8_gainBy 20) (L := [some (.inl 21), some (.inr f), some (.inr r), some (.inr s), some (.inr (1 - (cel c (0 + f * 6 + 0)))), none, none]) (st := []) rfl rfl rfl (fun v τ1 hq => ?_) (fun E τ1 hq => by obtain ⟨e, s', h1, h2⟩ := hq; cases h2)
    obtain ⟨e1, s1, hs1, h2⟩ := hq
    cases h2
    refine exq_k 4 (P := none) (g := (cod m8_gainBy 24, [some (.inl 21), some (.inr f), some (.inr r), some (.inr s), some (.inr (1 - (cel c (0 + f * 6 + 0)))), some (.inr (mkp c f r s)), none], [.inr (1 - (cel c (0 + f * 6 + 0))), .inl 21, .inr (mkp c f r s)], (dt (zr (zr τ 24 (τ 22)) 22 s1) e1))) rfl trivial ?_
    obtain ⟨e2, hm2⟩ := m_mostPoints (x := 1 - cel c (0 + f * 6 + 0)) (τ := dt (zr (zr τ 24 (τ 22)) 22 s1) e1) hJ hs1 (by omega)
    refine exq_c hm2 (is := cod m8_gainBy 25) (L := [some (.inl 21), some (.inr f), some (.inr r), some (.inr s), some (.inr (1 - (cel c (0 + f * 6 + 0)))), some (.inr (mkp c f r s)), none]) (st := [.inr (mkp c f r s)]) rfl rfl rfl ?_
    rw [dt_dt]
    refine exq_k 10 (P := some (0 ≤ 0 ∧ 0 ≤ 0 ∧ 0 ≤ 109 ∧ 0 + 109 ≤ ((109 : Nat) : Int) ∧ 0 + 109 ≤ ((109 : Nat) : Int))) (g := (cod m8_gainBy 35, [some (.inl 21), some (.inr f), some (.inr r), some (.inr s), some (.inr (1 - (cel c (0 + f * 6 + 0)))), some (.inr (mkp c f r s)), some (.inr ((mkp c f r s) - (mpv (mkm c f r s) (1 - cel c (0 + f * 6 + 0)) (cel (mkm c f r s) 107).toNat)))], [], (zr (dt (zr (zr τ 24 (τ 22)) 22 s1) e2) 22 (zc ((dt (zr (zr τ 24 (τ 22)) 22 s1) e2) 24) ((dt (zr (zr τ 24 (τ 22)) 22 s1) e2) 22) 0 0 109)))) rfl (by show 0 ≤ 0 ∧ 0 ≤ 0 ∧ 0 ≤ 109 ∧ 0 + 109 ≤ ((109 : Nat) : Int) ∧ 0 + 109 ≤ ((109 : Nat) : Int); omega) ?_
    refine exq_k 1 (P := none) (g := (cod m8_gainBy 36, [some (.inl 21), some (.inr f), some (.inr r), some (.inr s), some (.inr (1 - (cel c (0 + f * 6 + 0)))), some (.inr (mkp c f r s)), some (.inr ((mkp c f r s) - (mpv (mkm c f r s) (1 - cel c (0 + f * 6 + 0)) (cel (mkm c f r s) 107).toNat)))], [.inr ((mkp c f r s) - (mpv (mkm c f r s) (1 - cel c (0 + f * 6 + 0)) (cel (mkm c f r s) 107).toNat))], (zr (dt (zr (zr τ 24 (τ 22)) 22 s1) e2) 22 (zc ((dt (zr (zr τ 24 (τ 22)) 22 s1) e2) 24) ((dt (zr (zr τ 24 (τ 22)) 22 s1) e2) 22) 0 0 109)))) rfl trivial ?_
    exact exq_r rfl trivial rfl (⟨e2, rI2 (gnb_m hI hf hr hs ho hB).symm (gb_st h22 hs1.tz)⟩)
  obtain ⟨q, ⟨e, rfl⟩, h⟩ := q
  exact ⟨e, h⟩
end MPB
