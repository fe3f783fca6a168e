/-! contracts of the second implementation: a move, a pass: printed by wip/whole/db24.py -/
section MMV
/-- the row when the ferry has gone: behind it what is jumped over, the king and the fog are looked at -/
def rw3 (c : Nat → Int) (f r s : Int) : Nat → Int := (adm (adm (shf c f r (gol c f r s)) (0 + f * 6 + 5) 1) 102 1)
theorem rw3_ok {B : Int} {c : Nat → Int} (h : Iv B c) {f r s : Int} (hf : 0 ≤ f ∧ f < cel c 107) (hr : 0 ≤ r ∧ r < 2) (ho : oco c f r s = 1 ∨ oco c f r s = 2 ∨ oco c f r s = 3) (hB : B + 2 ≤ 100000000) :
    Iv B (shf c f r (gol c f r s)) ∧ Iv (B + 1) (adm (shf c f r (gol c f r s)) (0 + f * 6 + 5) 1) ∧ Iv (B + 2) (rw3 c f r s) ∧ cel (shf c f r (gol c f r s)) 107 = cel c 107 ∧ cel (rw3 c f r s) 107 = cel c 107 ∧ cel (rw3 c f r s) (0 + f * 6 + (1 + r)) = gol c f r s := by
  obtain ⟨hS, hC, hE⟩ := h
  have hn := hS.n
  have hf8 : 0 ≤ f ∧ f < 8 := by omega
  have hg := gol_ok ho
  have s1 := hS.kshf hf8 hr hg.1
  have c1 := hC.shf hS hf hr hg.1 hg.2
  have e1 : ∀ y, 72 ≤ y → cel (shf c f r (gol c f r s)) y = cel c y := fun y hy => shf_hi hf8 hr hy
  have i1 : Iv B (shf c f r (gol c f r s)) := ⟨s1, c1, by rw [e1 _ (by omega), e1 _ (by omega), e1 _ (by omega)]; exact hE⟩
  have s2 := s1.kadm (e := 0 + f * 6 + 5) (m := 1) (k := 1) (Or.inr (by omega)) (by omega) (by omega)
  have c2 := c1.kadm s1 (e := 0 + f * 6 + 5) (m := 1) (Or.inr (by omega))
  have i2 : Iv (B + 1) (adm (shf c f r (gol c f r s)) (0 + f * 6 + 5) 1) := ⟨s2, c2, by rw [adm_ne (by omega), adm_ne (by omega), adm_ne (by omega)]; exact i1.2.2⟩
  have s3 := s2.kadm (e := 102) (m := 1) (k := 1) (Or.inl (by omega)) (by omega) (by omega)
  have c3 := c2.kadm s2 (e := 102) (m := 1) (Or.inl (by omega))
  have i3 : Iv (B + 2) (rw3 c f r s) := ⟨s3.mono (by omega) hB, c3, by
    have e : ∀ y, y ≠ 102 → cel (rw3 c f r s) y = cel (adm (shf c f r (gol c f r s)) (0 + f * 6 + 5) 1) y := fun y h => adm_ne (fun q => h q.symm)
    rw [e _ (by omega), e _ (by omega), e _ (by omega)]
    exact i2.2.2⟩
  refine ⟨i1, i2, i3, e1 _ (by omega), ?_, ?_⟩
  · unfold rw3; rw [adm_ne (by omega), adm_ne (by omega)]; exact e1 _ (by omega)
  · unfold rw3; rw [adm_ne (by omega), adm_ne (by omega), cel_shf hf8 hr hg.1, if_pos rfl]
theorem rw3_mk {B : Int} {c : Nat → Int} (h : Iv B c) {f r s : Int} (hf : 0 ≤ f ∧ f < cel c 107) (hr : 0 ≤ r ∧ r < 2) (ho : oco c f r s = 1 ∨ oco c f r s = 2 ∨ oco c f r s = 3) (hB : B + 4 ≤ 100000000) : drf (crw (rw3 c f r s) f r) = mk5 c f r s := by
  have hn := h.1.n
  have hf8 : 0 ≤ f ∧ f < 8 := by omega
  obtain ⟨i1, i2, i3, -, -, -⟩ := rw3_ok h hf hr ho (by omega)
  unfold rw3 mk5 mk4
  rw [crw_adm i2.1 hf8 hr (k := 1) (by omega) (by omega) (by omega), crw_adm i1.1 hf8 hr (k := 1) (by omega) (by omega) (by omega)]
/-- who is jumped over is another -/
theorem ov_ne {B : Int} {c : Nat → Int} (h : Iv B c) {f r s : Int} (hf : 0 ≤ f ∧ f < cel c 107) (hr : 0 ≤ r ∧ r < 2) (hs : s = 1 ∨ s = -1) (ho : oco c f r s = 3) : f ≠ whz c r (cel c (0 + f * 6 + (1 + r)) + s) := by
  have hk := oco_k (Or.inr (Or.inr ho))
  have hp := h.1.pl (f := f) (by have := h.1.n; omega) hr
  have hb := h.2.1.by hr (p := cel c (0 + f * 6 + (1 + r)) + s) hk.1
  have hw : whz c r (cel c (0 + f * 6 + (1 + r)) + s) = cel c (48 + r * 12 + (cel c (0 + f * 6 + (1 + r)) + s)) := by unfold whz; rw [if_pos hk.1]
  intro e
  rw [← hw, ← e] at hb
  omega
theorem rw3_wh {B : Int} {c : Nat → Int} (h : Iv B c) {f r s : Int} (hf : 0 ≤ f ∧ f < cel c 107) (hr : 0 ≤ r ∧ r < 2) (hs : s = 1 ∨ s = -1) (ho : oco c f r s = 1 ∨ oco c f r s = 2 ∨ oco c f r s = 3) :
    cel (rw3 c f r s) (48 + r * 12 + cel c (0 + f * 6 + (1 + r))) = -1 ∧ (¬ oco c f r s = 1 → cel (rw3 c f r s) (48 + r * 12 + (cel c (0 + f * 6 + (1 + r)) + s)) = whz c r (cel c (0 + f * 6 + (1 + r)) + s)) := by
  have hn := h.1.n
  have hf8 : 0 ≤ f ∧ f < 8 := by omega
  have hk := oco_k ho
  have hp := h.1.pl hf8 hr
  have hg := gol_ok ho
  have hat := h.2.1.at hr hf
  have hw : whz c r (cel c (0 + f * 6 + (1 + r)) + s) = cel c (48 + r * 12 + (cel c (0 + f * 6 + (1 + r)) + s)) := by unfold whz; rw [if_pos hk.1]
  have e : ∀ y, 48 ≤ y → y < 72 → cel (rw3 c f r s) y = cel (shf c f r (gol c f r s)) y := fun y h0 h1 => by unfold rw3; rw [adm_ne (by omega), adm_ne (by omega)]
  have ng : gol c f r s ≠ cel c (0 + f * 6 + (1 + r)) := fun q => by rw [q, hat] at hg; omega
  refine ⟨?_, fun n1 => ?_⟩
  · rw [e _ (by omega) (by omega), cel_shf hf8 hr hg.1, if_neg (by omega), if_neg (by omega), if_pos ⟨rfl, by omega⟩]
  · have ng2 : gol c f r s ≠ cel c (0 + f * 6 + (1 + r)) + s := fun q => by rw [q, ← hw] at hg; omega
    rw [e _ (by omega) (by omega), cel_shf hf8 hr hg.1, if_neg (by omega), if_neg (by omega), if_neg (by omega), hw]
theorem mkp_1 {c : Nat → Int} {f r s : Int} (h : oco c f r s = 1 ∨ oco c f r s = 2) : mkp c f r s = 0 := by
  have hk := oco_k (h.elim Or.inl (fun q => Or.inr (Or.inl q)))
  have hov : ovr c f r s = whz c r (cel c (0 + f * 6 + (1 + r)) + s) := rfl
  unfold mkp
  split
  · rfl
  · rw [if_pos (by omega)]
theorem mkp_3 {B : Int} {c : Nat → Int} (h : Iv B c) {f r s : Int} (hf : 0 ≤ f ∧ f < cel c 107) (hr : 0 ≤ r ∧ r < 2) (hs : s = 1 ∨ s = -1) (ho : oco c f r s = 3) (hB : B + 4 ≤ 100000000) : mkp c f r s = 1 + cel (rw3 c f r s) (0 + whz c r (cel c (0 + f * 6 + (1 + r)) + s) * 6 + 3) := by
  have hn := h.1.n
  have hf8 : 0 ≤ f ∧ f < 8 := by omega
  have hk := oco_k (Or.inr (Or.inr ho))
  have hv := h.2.1.ov (p := cel c (0 + f * 6 + (1 + r)) + s) hr
  have hne := ov_ne h hf hr hs ho
  have hov : ovr c f r s = whz c r (cel c (0 + f * 6 + (1 + r)) + s) := rfl
  obtain ⟨i1, i2, i3, -, -, -⟩ := rw3_ok h hf hr (Or.inr (Or.inr ho)) (by omega)
  have hp := i3.1.pl hf8 hr
  unfold mkp
  rw [hov, if_neg (by omega), if_neg (by omega), ← rw3_mk h hf hr (Or.inr (Or.inr ho)) hB, drf_hi (by omega), cel_crw i3.1 hf8 hr]
  split
  · rw [if_neg (by omega), if_neg (by omega), if_neg (by omega)]
  · rfl
theorem mk7_rw {B : Int} {c : Nat → Int} (h : Iv B c) {f r s : Int} (hf : 0 ≤ f ∧ f < cel c 107) (hr : 0 ≤ r ∧ r < 2) (hs : s = 1 ∨ s = -1) (ho : oco c f r s = 3) (hB : B + 9 ≤ 100000000) :
    mk7 (mk5 c f r s) f (ovr c f r s) = rmv (drf (crw (adm (adm (adm (rw3 c f r s) (0 + f * 6 + 4) 1) 104 1) (98 + (2 + cel (adm (adm (rw3 c f r s) (0 + f * 6 + 4) 1) 104 1) (0 + f * 6 + 0))) (1 + cel (rw3 c f r s) (0 + (whz c r (cel c (0 + f * 6 + (1 + r)) + s)) * 6 + 3))) f r)) (whz c r (cel c (0 + f * 6 + (1 + r)) + s)) := by
  have hn := h.1.n
  have hf8 : 0 ≤ f ∧ f < 8 := by omega
  have hk := oco_k (Or.inr (Or.inr ho))
  have hv := h.2.1.ov (p := cel c (0 + f * 6 + (1 + r)) + s) hr
  have hne := ov_ne h hf hr hs ho
  have hov : ovr c f r s = whz c r (cel c (0 + f * 6 + (1 + r)) + s) := rfl
  obtain ⟨i1, i2, i3, -, n3, -⟩ := rw3_ok h hf hr (Or.inr (Or.inr ho)) (by omega)
  have hw : 0 ≤ whz c r (cel c (0 + f * 6 + (1 + r)) + s) ∧ whz c r (cel c (0 + f * 6 + (1 + r)) + s) < cel (rw3 c f r s) 107 := by omega
  obtain ⟨q1, q2, q3, q4, q5⟩ := i3.rx (f := f) (w := whz c r (cel c (0 + f * 6 + (1 + r)) + s)) (by omega) hw (by omega)
  have hk3 := i3.1.kg (f := whz c r (cel c (0 + f * 6 + (1 + r)) + s)) (by omega)
  have hp := i3.1.pl hf8 hr
  have hsd := i3.1.sd hf8
  have s5 := i3.1.kcrw hf8 hr (by omega)
  have esd : cel (adm (adm (rw3 c f r s) (0 + f * 6 + 4) 1) 104 1) (0 + f * 6 + 0) = cel (rw3 c f r s) (0 + f * 6 + 0) := by rw [adm_ne (by omega), adm_ne (by omega)]
  have em := rw3_mk h hf hr (Or.inr (Or.inr ho)) (by omega)
  have ec : ∀ y, 0 ≤ y → y < 48 → y ≠ 0 + f * 6 + 3 → cel (mk5 c f r s) y = cel (rw3 c f r s) y := by
    intro y h0 h1 h2
    rw [← em, drf_hi (by omega), cel_crw i3.1 hf8 hr]
    split
    · rw [if_neg (show ¬ y = 105 by omega), if_neg (show ¬ y = 72 + r * 12 + cel (rw3 c f r s) (0 + f * 6 + (1 + r)) by omega)]; first | done | rfl | rw [if_neg h2]
    · rfl
  rw [mk7_eq]
  show rmv (adm (adm (adm (mk5 c f r s) (100 + (0 + cel (mk5 c f r s) (0 + f * 6 + 0))) (1 + cel (mk5 c f r s) (0 + (whz c r (cel c (0 + f * 6 + (1 + r)) + s)) * 6 + 3))) (0 + f * 6 + 4) 1) 104 1) (whz c r (cel c (0 + f * 6 + (1 + r)) + s)) = _
  rw [ec (0 + f * 6 + 0) (by omega) (by omega) (by omega), ec (0 + (whz c r (cel c (0 + f * 6 + (1 + r)) + s)) * 6 + 3) (by omega) (by omega) (by omega), esd]
  have s2 : Sh (B + 4) (adm (adm (rw3 c f r s) (0 + f * 6 + 4) 1) 104 1) := q2.mono (by omega) (by omega)
  rw [crw_adm s2 hf8 hr (k := 2) (by omega) (by omega) (by omega), crw_adm q1.1 hf8 hr (k := 1) (by omega) (by omega) (by omega), crw_adm i3.1 hf8 hr (k := 1) (by omega) (by omega) (by omega)]
  have t1 := s5.kadm (e := 0 + f * 6 + 4) (m := 1) (k := 1) (Or.inr (by omega)) (by omega) (by omega)
  have t2 := t1.kadm (e := 104) (m := 1) (k := 1) (Or.inl (by omega)) (by omega) (by omega)
  rw [drf_adm t2 (k := 2) (by omega) (by omega) (by omega), drf_adm t1 (k := 1) (by omega) (by omega) (by omega), drf_adm s5 (k := 1) (by omega) (by omega) (by omega), em]
  have u0 : Sh (B + 3) (mk5 c f r s) := by rw [← em]; exact s5.kdrf.mono (by omega) (by omega)
  rw [show 98 + (2 + cel (rw3 c f r s) (0 + f * 6 + 0)) = 100 + (0 + cel (rw3 c f r s) (0 + f * 6 + 0)) from by omega]
  have u1 := u0.kadm (e := 0 + f * 6 + 4) (m := 1) (k := 1) (Or.inr (by omega)) (by omega) (by omega)
  rw [adm_adm u1 (e := 104) (m := 1) (k := 1) (k' := 2) (by omega) (by omega) (by omega) (by omega) (by omega) (by omega), adm_adm u0 (e := 0 + f * 6 + 4) (m := 1) (k := 1) (k' := 2) (by omega) (by omega) (by omega) (by omega) (by omega) (by omega)]
theorem goes_3 {B : Int} {c s' : Nat → Int} (h : Iv B c) {f r s : Int} (hf : 0 ≤ f ∧ f < cel c 107) (hr : 0 ≤ r ∧ r < 2) (hs : s = 1 ∨ s = -1) (ho : oco c f r s = 3) (hB : B + 9 ≤ 100000000)
    (hR : Rs (if 0 < jby (drf (crw (rmv (adm (adm (adm (rw3 c f r s) (0 + f * 6 + 4) 1) 104 1) (98 + (2 + cel (adm (adm (rw3 c f r s) (0 + f * 6 + 4) 1) 104 1) (0 + f * 6 + 0))) (1 + cel (rw3 c f r s) (0 + (whz c r (cel c (0 + f * 6 + (1 + r)) + s)) * 6 + 3))) (whz c r (cel c (0 + f * 6 + (1 + r)) + s))) (mvr f (whz c r (cel c (0 + f * 6 + (1 + r)) + s))) r)) (mvr f (whz c r (cel c (0 + f * 6 + (1 + r)) + s))) then drf (crw (rmv (adm (adm (adm (rw3 c f r s) (0 + f * 6 + 4) 1) 104 1) (98 + (2 + cel (adm (adm (rw3 c f r s) (0 + f * 6 + 4) 1) 104 1) (0 + f * 6 + 0))) (1 + cel (rw3 c f r s) (0 + (whz c r (cel c (0 + f * 6 + (1 + r)) + s)) * 6 + 3))) (whz c r (cel c (0 + f * 6 + (1 + r)) + s))) (mvr f (whz c r (cel c (0 + f * 6 + (1 + r)) + s))) r) else chg (drf (crw (rmv (adm (adm (adm (rw3 c f r s) (0 + f * 6 + 4) 1) 104 1) (98 + (2 + cel (adm (adm (rw3 c f r s) (0 + f * 6 + 4) 1) 104 1) (0 + f * 6 + 0))) (1 + cel (rw3 c f r s) (0 + (whz c r (cel c (0 + f * 6 + (1 + r)) + s)) * 6 + 3))) (whz c r (cel c (0 + f * 6 + (1 + r)) + s))) (mvr f (whz c r (cel c (0 + f * 6 + (1 + r)) + s))) r))) s') : Rs (mkm c f r s) s' := by
  have hn := h.1.n
  have hf8 : 0 ≤ f ∧ f < 8 := by omega
  have hk := oco_k (Or.inr (Or.inr ho))
  have hv := h.2.1.ov (p := cel c (0 + f * 6 + (1 + r)) + s) hr
  have hne := ov_ne h hf hr hs ho
  have hov : ovr c f r s = whz c r (cel c (0 + f * 6 + (1 + r)) + s) := rfl
  obtain ⟨i1, i2, i3, -, n3, -⟩ := rw3_ok h hf hr (Or.inr (Or.inr ho)) (by omega)
  have hw : 0 ≤ whz c r (cel c (0 + f * 6 + (1 + r)) + s) ∧ whz c r (cel c (0 + f * 6 + (1 + r)) + s) < cel (rw3 c f r s) 107 := by omega
  obtain ⟨q1, q2, q3, q4, q5⟩ := i3.rx (f := f) (w := whz c r (cel c (0 + f * 6 + (1 + r)) + s)) (by omega) hw (by omega)
  have nx : cel (adm (adm (adm (rw3 c f r s) (0 + f * 6 + 4) 1) 104 1) (98 + (2 + cel (adm (adm (rw3 c f r s) (0 + f * 6 + 4) 1) 104 1) (0 + f * 6 + 0))) (1 + cel (rw3 c f r s) (0 + (whz c r (cel c (0 + f * 6 + (1 + r)) + s)) * 6 + 3))) 107 = cel c 107 := by rw [adm_ne (by have := q2.sd (f := f) hf8; omega), adm_ne (by omega), adm_ne (by omega)]; exact n3
  have hA := rmv_crw q3 q4 (f := f) (g := whz c r (cel c (0 + f * 6 + (1 + r)) + s)) (r := r) (by omega) (by omega) hne hr (by omega)
  have n4 : cel (rmv (adm (adm (adm (rw3 c f r s) (0 + f * 6 + 4) 1) 104 1) (98 + (2 + cel (adm (adm (rw3 c f r s) (0 + f * 6 + 4) 1) 104 1) (0 + f * 6 + 0))) (1 + cel (rw3 c f r s) (0 + (whz c r (cel c (0 + f * 6 + (1 + r)) + s)) * 6 + 3))) (whz c r (cel c (0 + f * 6 + (1 + r)) + s))) 107 = cel c 107 - 1 := by rw [(cel_rmv q3 q4 (g := whz c r (cel c (0 + f * 6 + (1 + r)) + s)) (by omega)).2.2.2, nx]
  have hm : 0 ≤ mvr f (whz c r (cel c (0 + f * 6 + (1 + r)) + s)) ∧ mvr f (whz c r (cel c (0 + f * 6 + (1 + r)) + s)) < cel c 107 - 1 := by unfold mvr; split <;> omega
  have hI6 := (q5.crw (f := mvr f (whz c r (cel c (0 + f * 6 + (1 + r)) + s))) (by omega) hr (by omega)).drf
  have n6 : cel (drf (crw (rmv (adm (adm (adm (rw3 c f r s) (0 + f * 6 + 4) 1) 104 1) (98 + (2 + cel (adm (adm (rw3 c f r s) (0 + f * 6 + 4) 1) 104 1) (0 + f * 6 + 0))) (1 + cel (rw3 c f r s) (0 + (whz c r (cel c (0 + f * 6 + (1 + r)) + s)) * 6 + 3))) (whz c r (cel c (0 + f * 6 + (1 + r)) + s))) (mvr f (whz c r (cel c (0 + f * 6 + (1 + r)) + s))) r)) 107 = cel c 107 - 1 := by rw [drf_hi (by omega), crw_107 (by omega) hr, n4]
  have hN6 := hI6.1.n
  have hj := hA.jby hI6 (f := mvr f (whz c r (cel c (0 + f * 6 + (1 + r)) + s))) (by omega)
  have e : mkm c f r s = if 0 < jby (rmv (drf (crw (adm (adm (adm (rw3 c f r s) (0 + f * 6 + 4) 1) 104 1) (98 + (2 + cel (adm (adm (rw3 c f r s) (0 + f * 6 + 4) 1) 104 1) (0 + f * 6 + 0))) (1 + cel (rw3 c f r s) (0 + (whz c r (cel c (0 + f * 6 + (1 + r)) + s)) * 6 + 3))) f r)) (whz c r (cel c (0 + f * 6 + (1 + r)) + s))) (mvr f (whz c r (cel c (0 + f * 6 + (1 + r)) + s))) then rmv (drf (crw (adm (adm (adm (rw3 c f r s) (0 + f * 6 + 4) 1) 104 1) (98 + (2 + cel (adm (adm (rw3 c f r s) (0 + f * 6 + 4) 1) 104 1) (0 + f * 6 + 0))) (1 + cel (rw3 c f r s) (0 + (whz c r (cel c (0 + f * 6 + (1 + r)) + s)) * 6 + 3))) f r)) (whz c r (cel c (0 + f * 6 + (1 + r)) + s)) else chg (rmv (drf (crw (adm (adm (adm (rw3 c f r s) (0 + f * 6 + 4) 1) 104 1) (98 + (2 + cel (adm (adm (rw3 c f r s) (0 + f * 6 + 4) 1) 104 1) (0 + f * 6 + 0))) (1 + cel (rw3 c f r s) (0 + (whz c r (cel c (0 + f * 6 + (1 + r)) + s)) * 6 + 3))) f r)) (whz c r (cel c (0 + f * 6 + (1 + r)) + s))) := by
    unfold mkm
    rw [if_neg (by omega), if_neg (by omega), mk7_rw h hf hr hs ho hB]
  rw [e, ← hj]
  by_cases g : 0 < jby (drf (crw (rmv (adm (adm (adm (rw3 c f r s) (0 + f * 6 + 4) 1) 104 1) (98 + (2 + cel (adm (adm (rw3 c f r s) (0 + f * 6 + 4) 1) 104 1) (0 + f * 6 + 0))) (1 + cel (rw3 c f r s) (0 + (whz c r (cel c (0 + f * 6 + (1 + r)) + s)) * 6 + 3))) (whz c r (cel c (0 + f * 6 + (1 + r)) + s))) (mvr f (whz c r (cel c (0 + f * 6 + (1 + r)) + s))) r)) (mvr f (whz c r (cel c (0 + f * 6 + (1 + r)) + s)))
  · rw [if_pos g] at hR ⊢
    exact hA.rs hN6 hR
  · rw [if_neg g] at hR ⊢
    exact hA.chg.rs (by rw [chg_ne (by omega)]; exact hN6) hR
set_option maxRecDepth 20000 in
theorem g_C6 {τ : SZ} {c : Nat → Int} {B f r s t w : Int} {y4 : Option VZ} (hI : Iv B c) (hR : Rs c (τ 22)) (hr : 0 ≤ r ∧ r < 2) (hf : 0 ≤ f ∧ f < cel c 107) (hw : 0 ≤ w ∧ w < cel c 107) (hne : f ≠ w) (ht : cel c (0 + f * 6 + (1 + r)) = t) (hB : B + 5 ≤ 100000000) : Exq 6 m8_goes (cod m8_goes 60, [some (.inl 21), some (.inr f), some (.inr r), some (.inr s), y4, some (.inr 3), some (.inr t), some (.inr w), some (.inr f), some (.inr 0)], [], τ) 0 (Qg τ (1 + cel c (0 + w * 6 + 3)) (if 0 < jby (drf (crw (rmv (adm (adm (adm c (0 + f * 6 + 4) 1) 104 1) (98 + (2 + cel (adm (adm c (0 + f * 6 + 4) 1) 104 1) (0 + f * 6 + 0))) (1 + cel c (0 + w * 6 + 3))) w) (mvr f w) r)) (mvr f w) then drf (crw (rmv (adm (adm (adm c (0 + f * 6 + 4) 1) 104 1) (98 + (2 + cel (adm (adm c (0 + f * 6 + 4) 1) 104 1) (0 + f * 6 + 0))) (1 + cel c (0 + w * 6 + 3))) w) (mvr f w) r) else chg (drf (crw (rmv (adm (adm (adm c (0 + f * 6 + 4) 1) 104 1) (98 + (2 + cel (adm (adm c (0 + f * 6 + 4) 1) 104 1) (0 + f * 6 + 0))) (1 + cel c (0 + w * 6 + 3))) w) (mvr f w) r)))) := by
  refine exq_k 2 (P := none) (g := (cod m8_goes 62, [some (.inl 21), some (.inr f), some (.inr r), some (.inr s), y4, some (.inr 3), some (.inr t), some (.inr w), some (.inr f), some (.inr 0)], [.inr 2, .inr 3], τ)) rfl trivial ?_
  refine exq_b (P := ¬ 3 = 2) (ct := (cod m8_goes 79, [some (.inl 21), some (.inr f), some (.inr r), some (.inr s), y4, some (.inr 3), some (.inr t), some (.inr w), some (.inr f), some (.inr 0)], [], τ)) (cf := (cod m8_goes 63, [some (.inl 21), some (.inr f), some (.inr r), some (.inr s), y4, some (.inr 3), some (.inr t), some (.inr w), some (.inr f), some (.inr 0)], [], τ)) rfl ⟨⟨by decide, by decide⟩, ⟨by decide, by decide⟩⟩ (fun _ => ?_) (fun hh => absurd (by decide) hh)
  exact g_C hI hR hr hf hw hne ht hB
set_option maxRecDepth 20000 in
set_option maxHeartbeats 1000000 in
theorem m_goes {f r s : Int} {τ : SZ} {c : Nat → Int} {B : Int} (hI : Iv B c) (hR : Rs c (τ 22)) (hf : 0 ≤ f ∧ f < cel c 107) (hr : 0 ≤ r ∧ r < 2) (hs : s = 1 ∨ s = -1) (ho : oco c f r s = 1 ∨ oco c f r s = 2 ∨ oco c f r s = 3) (hB : B + 9 ≤ 100000000) : RZq 7 m8_goes [.inl 21, .inr f, .inr r, .inr s] τ (Qg τ (mkp c f r s) (mkm c f r s)) := by
  have hS := hI.1
  have hC := hI.2.1
  have hN := hS.n
  have hk := oco_k ho
  have hp := hS.pl (f := f) (r := r) (by omega) hr
  have hg := gol_ok ho
  have hgk := gol_k ho
  obtain ⟨hI1, hI2, hI3, n1, n3, hg3⟩ := rw3_ok hI hf hr ho (by omega)
  have hR1 : Rs (shf c f r (gol c f r s)) (zu (τ 22) ((61 + 6 * f) + (1 + r)).toNat (gol c f r s)) := hR.kshf hI hf hr hg.1 hg.2
  have hR2 : Rs (adm (shf c f r (gol c f r s)) (0 + f * 6 + 5) 1) (zu (zu (τ 22) ((61 + 6 * f) + (1 + r)).toNat (gol c f r s)) ((61 + 6 * f) + 5).toNat (cel (shf c f r (gol c f r s)) (0 + f * 6 + 5) + 1)) := hR1.kadf hI1.1.n (by rw [n1]; exact hf) (w := 5) (m := 1) (by omega)
  have hR3 : Rs (rw3 c f r s) (zu (zu (zu (τ 22) ((61 + 6 * f) + (1 + r)).toNat (gol c f r s)) ((61 + 6 * f) + 5).toNat (cel (shf c f r (gol c f r s)) (0 + f * 6 + 5) + 1)) 4 ((zu (zu (τ 22) ((61 + 6 * f) + (1 + r)).toNat (gol c f r s)) ((61 + 6 * f) + 5).toNat (cel (shf c f r (gol c f r s)) (0 + f * 6 + 5) + 1)) 4 + 1)) := hR2.kadm hI2.1.n (k := 4) (m := 1) (by omega)
  have hv := hC.ov (p := cel c (0 + f * 6 + (1 + r)) + s) hr
  have hwh := rw3_wh hI hf hr hs ho
  have hov : ovr c f r s = whz c r (cel c (0 + f * 6 + (1 + r)) + s) := rfl
  have g60 : Exq 6 m8_goes (cod m8_goes 60, [some (.inl 21), some (.inr f), some (.inr r), some (.inr s), some (.inr (cel c (0 + f * 6 + (1 + r)))), some (.inr (oco c f r s)), some (.inr (gol c f r s)), some (.inr (whz c r (cel c (0 + f * 6 + (1 + r)) + s))), some (.inr f), some (.inr 0)], [], (zr τ 22 (zu (zu (zu (τ 22) ((61 + 6 * f) + (1 + r)).toNat (gol c f r s)) ((61 + 6 * f) + 5).toNat (cel (shf c f r (gol c f r s)) (0 + f * 6 + 5) + 1)) 4 ((zu (zu (τ 22) ((61 + 6 * f) + (1 + r)).toNat (gol c f r s)) ((61 + 6 * f) + 5).toNat (cel (shf c f r (gol c f r s)) (0 + f * 6 + 5) + 1)) 4 + 1)))) 0 (Qg τ (mkp c f r s) (mkm c f r s)) := by
    rcases ho with ho | ho | ho
    · rw [ho]
      have hq := g_A (τ := zr τ 22 (zu (zu (zu (τ 22) ((61 + 6 * f) + (1 + r)).toNat (gol c f r s)) ((61 + 6 * f) + 5).toNat (cel (shf c f r (gol c f r s)) (0 + f * 6 + 5) + 1)) 4 ((zu (zu (τ 22) ((61 + 6 * f) + (1 + r)).toNat (gol c f r s)) ((61 + 6 * f) + 5).toNat (cel (shf c f r (gol c f r s)) (0 + f * 6 + 5) + 1)) 4 + 1))) (f := f) (s := s) (t := gol c f r s) (y4 := some (.inr (cel c (0 + f * 6 + (1 + r))))) (y7 := some (.inr (whz c r (cel c (0 + f * 6 + (1 + r)) + s)))) hI3 hR3 hr (by omega) hg3 (by omega)
      rw [rw3_mk hI hf hr (Or.inl ho) (by omega)] at hq
      rw [mkp_1 (Or.inl ho)]
      have e : mkm c f r s = chg (mk5 c f r s) := by unfold mkm; rw [if_neg (by omega), if_pos (by omega)]
      rw [e]
      exact hq.mono Qg.zr
    · rw [ho]
      have hw3 : cel (rw3 c f r s) (48 + r * 12 + (cel c (0 + f * 6 + (1 + r)) + s)) = 8 := by rw [hwh.2 (by omega)]; omega
      have k1 := hI3.2.1.kswh hI3.1 hr hk.1 (v := -1) (Or.inl rfl) (Or.inr hw3)
      have k2 := k1.kswh (hI3.1.kswh hr (by omega)) hr (p := cel c (0 + f * 6 + (1 + r))) (by omega) (v := 8) (Or.inr rfl) (Or.inl (by rw [cel_swh' hr, if_neg (by omega)]; exact hwh.1))
      have hIt : Iv (B + 2) (sht (rw3 c f r s) r (cel c (0 + f * 6 + (1 + r)) + s) (cel c (0 + f * 6 + (1 + r)))) := ⟨hI3.1.ksht hr, k2, by rw [sht_hi hr (by omega), sht_hi hr (by omega), sht_hi hr (by omega)]; exact hI3.2.2⟩
      have hq := g_B (τ := zr τ 22 (zu (zu (zu (τ 22) ((61 + 6 * f) + (1 + r)).toNat (gol c f r s)) ((61 + 6 * f) + 5).toNat (cel (shf c f r (gol c f r s)) (0 + f * 6 + 5) + 1)) 4 ((zu (zu (τ 22) ((61 + 6 * f) + (1 + r)).toNat (gol c f r s)) ((61 + 6 * f) + 5).toNat (cel (shf c f r (gol c f r s)) (0 + f * 6 + 5) + 1)) 4 + 1))) (f := f) (s := s) (t := gol c f r s) (x := cel c (0 + f * 6 + (1 + r))) (y7 := some (.inr (whz c r (cel c (0 + f * 6 + (1 + r)) + s)))) hI3 hR3 hr (by omega) (by omega) hk.1 hIt hg3 hw3 (by omega)
      have hs3 := hI3.1.kcrw (f := f) (r := r) (by omega) hr (by omega)
      rw [crw_sht hI3.1 (by omega) hr (by omega), drf_sht hs3 hr, rw3_mk hI hf hr (Or.inr (Or.inl ho)) (by omega)] at hq
      rw [mkp_1 (Or.inr ho)]
      have e : mkm c f r s = chg (sht (mk5 c f r s) r (cel c (0 + f * 6 + (1 + r)) + s) (cel c (0 + f * 6 + (1 + r)))) := by unfold mkm; rw [if_pos (by omega)]
      rw [e]
      exact hq.mono Qg.zr
    · rw [ho]
      have hq := g_C6 (τ := zr τ 22 (zu (zu (zu (τ 22) ((61 + 6 * f) + (1 + r)).toNat (gol c f r s)) ((61 + 6 * f) + 5).toNat (cel (shf c f r (gol c f r s)) (0 + f * 6 + 5) + 1)) 4 ((zu (zu (τ 22) ((61 + 6 * f) + (1 + r)).toNat (gol c f r s)) ((61 + 6 * f) + 5).toNat (cel (shf c f r (gol c f r s)) (0 + f * 6 + 5) + 1)) 4 + 1))) (f := f) (s := s) (t := gol c f r s) (w := whz c r (cel c (0 + f * 6 + (1 + r)) + s)) (y4 := some (.inr (cel c (0 + f * 6 + (1 + r))))) hI3 hR3 hr (by omega) (by omega) (ov_ne hI hf hr hs ho) hg3 (by omega)
      rw [mkp_3 hI hf hr hs ho (by omega)]
      refine hq.mono (fun q h => ?_)
      obtain ⟨e, s', h1, rfl⟩ := h
      exact ⟨e, s', goes_3 hI hf hr hs ho hB h1, by rw [zr_zr]⟩
  refine Exq.call ?_ rfl rfl
  show Exq _ _ (cod m8_goes 0, [some (.inl 21), some (.inr f), some (.inr r), some (.inr s), none, none, none, none, none, none], [], τ) _ _
  refine exq_k 5 (P := none) (g := (cod m8_goes 5, [some (.inl 21), some (.inr f), some (.inr r), some (.inr s), none, none, none, none, none, none], [.inr (1 + r), .inr f, .inl 21], τ)) rfl trivial ?_
  refine exq_c (m_of (τ := τ) (f := f) (w := 1 + r) hI hR (by omega) (by omega)) (is := cod m8_goes 6) (L := [some (.inl 21), some (.inr f), some (.inr r), some (.inr s), none, none, none, none, none, none]) (st := []) rfl rfl rfl ?_
  show Exq _ _ (cod m8_goes 6, [some (.inl 21), some (.inr f), some (.inr r), some (.inr s), none, none, none, none, none, none], [.inr (cel c (0 + f * 6 + (1 + r)))], τ) _ _
  refine exq_k 5 (P := none) (g := (cod m8_goes 11, [some (.inl 21), some (.inr f), some (.inr r), some (.inr s), some (.inr (cel c (0 + f * 6 + (1 + r)))), none, none, none, none, none], [.inr s, .inr r, .inr f, .inl 21], τ)) rfl trivial ?_
  refine exq_c (m_kind (τ := τ) (f := f) (r := r) (s := s) hI hR (by omega) (by omega) (show oco c f r s = 1 ∨ oco c f r s = 2 ∨ oco c f r s = 3 by omega)) (is := cod m8_goes 12) (L := [some (.inl 21), some (.inr f), some (.inr r), some (.inr s), some (.inr (cel c (0 + f * 6 + (1 + r)))), none, none, none, none, none]) (st := []) rfl rfl rfl ?_
  show Exq _ _ (cod m8_goes 12, [some (.inl 21), some (.inr f), some (.inr r), some (.inr s), some (.inr (cel c (0 + f * 6 + (1 + r)))), none, none, none, none, none], [.inr (oco c f r s)], τ) _ _
  refine exq_k 4 (P := none) (g := (cod m8_goes 16, [some (.inl 21), some (.inr f), some (.inr r), some (.inr s), some (.inr (cel c (0 + f * 6 + (1 + r)))), some (.inr (oco c f r s)), none, none, none, none], [.inr 1, .inr (oco c f r s), .inr (cel c (0 + f * 6 + (1 + r)))], τ)) rfl trivial ?_
  refine exq_b (P := ¬ (oco c f r s) = 1) (ct := (cod m8_goes 19, [some (.inl 21), some (.inr f), some (.inr r), some (.inr s), some (.inr (cel c (0 + f * 6 + (1 + r)))), some (.inr (oco c f r s)), none, none, none, none], [.inr (cel c (0 + f * 6 + (1 + r)))], τ)) (cf := (cod m8_goes 17, [some (.inl 21), some (.inr f), some (.inr r), some (.inr s), some (.inr (cel c (0 + f * 6 + (1 + r)))), some (.inr (oco c f r s)), none, none, none, none], [.inr (cel c (0 + f * 6 + (1 + r)))], τ)) rfl ⟨⟨by omega, by omega⟩, ⟨by decide, by decide⟩⟩ (fun h1 => ?_) (fun h1 => ?_)
  · first
    | (exfalso; omega)
    | (
        refine exq_k 4 (P := none) (g := (cod m8_goes 23, [some (.inl 21), some (.inr f), some (.inr r), some (.inr s), some (.inr (cel c (0 + f * 6 + (1 + r)))), some (.inr (oco c f r s)), none, none, none, none], [.inr ((cel c (0 + f * 6 + (1 + r))) + (2 * s))], τ)) rfl trivial ?_
        rw [show (cel c (0 + f * 6 + (1 + r))) + (2 * s) = gol c f r s from by rw [hgk]; first | rw [if_pos (by omega)] | rw [if_neg (by omega)]]
        refine exq_k 6 (P := none) (g := (cod m8_goes 29, [some (.inl 21), some (.inr f), some (.inr r), some (.inr s), some (.inr (cel c (0 + f * 6 + (1 + r)))), some (.inr (oco c f r s)), some (.inr (gol c f r s)), none, none, none], [.inr ((cel c (0 + f * 6 + (1 + r))) + s), .inr r, .inl 21], τ)) rfl trivial ?_
        refine exq_c (m_there (τ := τ) (r := r) (p := (cel c (0 + f * 6 + (1 + r))) + s) hI hR (by omega) (by omega)) (is := cod m8_goes 30) (L := [some (.inl 21), some (.inr f), some (.inr r), some (.inr s), some (.inr (cel c (0 + f * 6 + (1 + r)))), some (.inr (oco c f r s)), some (.inr (gol c f r s)), none, none, none]) (st := []) rfl rfl rfl ?_
        show Exq _ _ (cod m8_goes 30, [some (.inl 21), some (.inr f), some (.inr r), some (.inr s), some (.inr (cel c (0 + f * 6 + (1 + r)))), some (.inr (oco c f r s)), some (.inr (gol c f r s)), none, none, none], [.inr (whz c r ((cel c (0 + f * 6 + (1 + r))) + s))], τ) _ _
        refine exq_k 11 (P := none) (g := (cod m8_goes 41, [some (.inl 21), some (.inr f), some (.inr r), some (.inr s), some (.inr (cel c (0 + f * 6 + (1 + r)))), some (.inr (oco c f r s)), some (.inr (gol c f r s)), some (.inr (whz c r ((cel c (0 + f * 6 + (1 + r))) + s))), some (.inr f), some (.inr 0)], [.inr (gol c f r s), .inr (1 + r), .inr f, .inl 21], τ)) rfl trivial ?_
        refine exq_c (m_sets (τ := τ) (f := f) (w := 1 + r) (v := gol c f r s) (by omega) (by omega)) (is := cod m8_goes 42) (L := [some (.inl 21), some (.inr f), some (.inr r), some (.inr s), some (.inr (cel c (0 + f * 6 + (1 + r)))), some (.inr (oco c f r s)), some (.inr (gol c f r s)), some (.inr (whz c r ((cel c (0 + f * 6 + (1 + r))) + s))), some (.inr f), some (.inr 0)]) (st := []) rfl rfl rfl ?_
        show Exq _ _ (cod m8_goes 42, [some (.inl 21), some (.inr f), some (.inr r), some (.inr s), some (.inr (cel c (0 + f * 6 + (1 + r)))), some (.inr (oco c f r s)), some (.inr (gol c f r s)), some (.inr (whz c r ((cel c (0 + f * 6 + (1 + r))) + s))), some (.inr f), some (.inr 0)], [], (zr τ 22 (zu (τ 22) ((61 + 6 * f) + (1 + r)).toNat (gol c f r s)))) _ _
        refine exq_k 6 (P := none) (g := (cod m8_goes 48, [some (.inl 21), some (.inr f), some (.inr r), some (.inr s), some (.inr (cel c (0 + f * 6 + (1 + r)))), some (.inr (oco c f r s)), some (.inr (gol c f r s)), some (.inr (whz c r ((cel c (0 + f * 6 + (1 + r))) + s))), some (.inr f), some (.inr 0)], [.inr 5, .inr f, .inl 21, .inr 5, .inr f, .inl 21], (zr τ 22 (zu (τ 22) ((61 + 6 * f) + (1 + r)).toNat (gol c f r s))))) rfl trivial ?_
        refine exq_c (m_of (τ := (zr τ 22 (zu (τ 22) ((61 + 6 * f) + (1 + r)).toNat (gol c f r s)))) (f := f) (w := 5) hI1 hR1 (by omega) (by omega)) (is := cod m8_goes 49) (L := [some (.inl 21), some (.inr f), some (.inr r), some (.inr s), some (.inr (cel c (0 + f * 6 + (1 + r)))), some (.inr (oco c f r s)), some (.inr (gol c f r s)), some (.inr (whz c r ((cel c (0 + f * 6 + (1 + r))) + s))), some (.inr f), some (.inr 0)]) (st := [.inr 5, .inr f, .inl 21]) rfl rfl rfl ?_
        show Exq _ _ (cod m8_goes 49, [some (.inl 21), some (.inr f), some (.inr r), some (.inr s), some (.inr (cel c (0 + f * 6 + (1 + r)))), some (.inr (oco c f r s)), some (.inr (gol c f r s)), some (.inr (whz c r ((cel c (0 + f * 6 + (1 + r))) + s))), some (.inr f), some (.inr 0)], [.inr (cel (shf c f r (gol c f r s)) (0 + f * 6 + 5)), .inr 5, .inr f, .inl 21], (zr τ 22 (zu (τ 22) ((61 + 6 * f) + (1 + r)).toNat (gol c f r s)))) _ _
        refine exq_k 2 (P := none) (g := (cod m8_goes 51, [some (.inl 21), some (.inr f), some (.inr r), some (.inr s), some (.inr (cel c (0 + f * 6 + (1 + r)))), some (.inr (oco c f r s)), some (.inr (gol c f r s)), some (.inr (whz c r ((cel c (0 + f * 6 + (1 + r))) + s))), some (.inr f), some (.inr 0)], [.inr ((cel (shf c f r (gol c f r s)) (0 + f * 6 + 5)) + 1), .inr 5, .inr f, .inl 21], (zr τ 22 (zu (τ 22) ((61 + 6 * f) + (1 + r)).toNat (gol c f r s))))) rfl trivial ?_
        refine exq_c (m_sets (τ := (zr τ 22 (zu (τ 22) ((61 + 6 * f) + (1 + r)).toNat (gol c f r s)))) (f := f) (w := 5) (v := (cel (shf c f r (gol c f r s)) (0 + f * 6 + 5)) + 1) (by omega) (by omega)) (is := cod m8_goes 52) (L := [some (.inl 21), some (.inr f), some (.inr r), some (.inr s), some (.inr (cel c (0 + f * 6 + (1 + r)))), some (.inr (oco c f r s)), some (.inr (gol c f r s)), some (.inr (whz c r ((cel c (0 + f * 6 + (1 + r))) + s))), some (.inr f), some (.inr 0)]) (st := []) rfl rfl rfl ?_
        show Exq _ _ (cod m8_goes 52, [some (.inl 21), some (.inr f), some (.inr r), some (.inr s), some (.inr (cel c (0 + f * 6 + (1 + r)))), some (.inr (oco c f r s)), some (.inr (gol c f r s)), some (.inr (whz c r ((cel c (0 + f * 6 + (1 + r))) + s))), some (.inr f), some (.inr 0)], [], (zr (zr τ 22 (zu (τ 22) ((61 + 6 * f) + (1 + r)).toNat (gol c f r s))) 22 (zu (zu (τ 22) ((61 + 6 * f) + (1 + r)).toNat (gol c f r s)) ((61 + 6 * f) + 5).toNat ((cel (shf c f r (gol c f r s)) (0 + f * 6 + 5)) + 1)))) _ _
        rw [zr_zr]
        refine exq_k 5 (P := some (0 ≤ 4 ∧ 4 < ((109 : Nat) : Int))) (g := (cod m8_goes 57, [some (.inl 21), some (.inr f), some (.inr r), some (.inr s), some (.inr (cel c (0 + f * 6 + (1 + r)))), some (.inr (oco c f r s)), some (.inr (gol c f r s)), some (.inr (whz c r ((cel c (0 + f * 6 + (1 + r))) + s))), some (.inr f), some (.inr 0)], [.inr ((zu (zu (τ 22) ((61 + 6 * f) + (1 + r)).toNat (gol c f r s)) ((61 + 6 * f) + 5).toNat ((cel (shf c f r (gol c f r s)) (0 + f * 6 + 5)) + 1)) 4), .inr 4, .inl 22], (zr τ 22 (zu (zu (τ 22) ((61 + 6 * f) + (1 + r)).toNat (gol c f r s)) ((61 + 6 * f) + 5).toNat ((cel (shf c f r (gol c f r s)) (0 + f * 6 + 5)) + 1))))) rfl (by show 0 ≤ 4 ∧ 4 < ((109 : Nat) : Int); omega) ?_
        refine exq_k 3 (P := some ((0 ≤ 4 ∧ 4 < ((109 : Nat) : Int)) ∧ (0 = 1 → 0 ≤ (((zu (zu (τ 22) ((61 + 6 * f) + (1 + r)).toNat (gol c f r s)) ((61 + 6 * f) + 5).toNat ((cel (shf c f r (gol c f r s)) (0 + f * 6 + 5)) + 1)) 4) + 1) ∧ (((zu (zu (τ 22) ((61 + 6 * f) + (1 + r)).toNat (gol c f r s)) ((61 + 6 * f) + 5).toNat ((cel (shf c f r (gol c f r s)) (0 + f * 6 + 5)) + 1)) 4) + 1) < 65536))) (g := (cod m8_goes 60, [some (.inl 21), some (.inr f), some (.inr r), some (.inr s), some (.inr (cel c (0 + f * 6 + (1 + r)))), some (.inr (oco c f r s)), some (.inr (gol c f r s)), some (.inr (whz c r ((cel c (0 + f * 6 + (1 + r))) + s))), some (.inr f), some (.inr 0)], [], (zr (zr τ 22 (zu (zu (τ 22) ((61 + 6 * f) + (1 + r)).toNat (gol c f r s)) ((61 + 6 * f) + 5).toNat ((cel (shf c f r (gol c f r s)) (0 + f * 6 + 5)) + 1))) 22 (zu (zu (zu (τ 22) ((61 + 6 * f) + (1 + r)).toNat (gol c f r s)) ((61 + 6 * f) + 5).toNat ((cel (shf c f r (gol c f r s)) (0 + f * 6 + 5)) + 1)) 4 (((zu (zu (τ 22) ((61 + 6 * f) + (1 + r)).toNat (gol c f r s)) ((61 + 6 * f) + 5).toNat ((cel (shf c f r (gol c f r s)) (0 + f * 6 + 5)) + 1)) 4) + 1))))) rfl (by show (0 ≤ 4 ∧ 4 < ((109 : Nat) : Int)) ∧ (0 = 1 → 0 ≤ (((zu (zu (τ 22) ((61 + 6 * f) + (1 + r)).toNat (gol c f r s)) ((61 + 6 * f) + 5).toNat ((cel (shf c f r (gol c f r s)) (0 + f * 6 + 5)) + 1)) 4) + 1) ∧ (((zu (zu (τ 22) ((61 + 6 * f) + (1 + r)).toNat (gol c f r s)) ((61 + 6 * f) + 5).toNat ((cel (shf c f r (gol c f r s)) (0 + f * 6 + 5)) + 1)) 4) + 1) < 65536); omega) ?_
        rw [zr_zr]
        exact g60)
  · first
    | (exfalso; omega)
    | (
        refine exq_k 3 (P := none) (g := (cod m8_goes 23, [some (.inl 21), some (.inr f), some (.inr r), some (.inr s), some (.inr (cel c (0 + f * 6 + (1 + r)))), some (.inr (oco c f r s)), none, none, none, none], [.inr ((cel c (0 + f * 6 + (1 + r))) + s)], τ)) rfl trivial ?_
        rw [show (cel c (0 + f * 6 + (1 + r))) + s = gol c f r s from by rw [hgk]; first | rw [if_pos (by omega)] | rw [if_neg (by omega)]]
        refine exq_k 6 (P := none) (g := (cod m8_goes 29, [some (.inl 21), some (.inr f), some (.inr r), some (.inr s), some (.inr (cel c (0 + f * 6 + (1 + r)))), some (.inr (oco c f r s)), some (.inr (gol c f r s)), none, none, none], [.inr ((cel c (0 + f * 6 + (1 + r))) + s), .inr r, .inl 21], τ)) rfl trivial ?_
        refine exq_c (m_there (τ := τ) (r := r) (p := (cel c (0 + f * 6 + (1 + r))) + s) hI hR (by omega) (by omega)) (is := cod m8_goes 30) (L := [some (.inl 21), some (.inr f), some (.inr r), some (.inr s), some (.inr (cel c (0 + f * 6 + (1 + r)))), some (.inr (oco c f r s)), some (.inr (gol c f r s)), none, none, none]) (st := []) rfl rfl rfl ?_
        show Exq _ _ (cod m8_goes 30, [some (.inl 21), some (.inr f), some (.inr r), some (.inr s), some (.inr (cel c (0 + f * 6 + (1 + r)))), some (.inr (oco c f r s)), some (.inr (gol c f r s)), none, none, none], [.inr (whz c r ((cel c (0 + f * 6 + (1 + r))) + s))], τ) _ _
        refine exq_k 11 (P := none) (g := (cod m8_goes 41, [some (.inl 21), some (.inr f), some (.inr r), some (.inr s), some (.inr (cel c (0 + f * 6 + (1 + r)))), some (.inr (oco c f r s)), some (.inr (gol c f r s)), some (.inr (whz c r ((cel c (0 + f * 6 + (1 + r))) + s))), some (.inr f), some (.inr 0)], [.inr (gol c f r s), .inr (1 + r), .inr f, .inl 21], τ)) rfl trivial ?_
        refine exq_c (m_sets (τ := τ) (f := f) (w := 1 + r) (v := gol c f r s) (by omega) (by omega)) (is := cod m8_goes 42) (L := [some (.inl 21), some (.inr f), some (.inr r), some (.inr s), some (.inr (cel c (0 + f * 6 + (1 + r)))), some (.inr (oco c f r s)), some (.inr (gol c f r s)), some (.inr (whz c r ((cel c (0 + f * 6 + (1 + r))) + s))), some (.inr f), some (.inr 0)]) (st := []) rfl rfl rfl ?_
        show Exq _ _ (cod m8_goes 42, [some (.inl 21), some (.inr f), some (.inr r), some (.inr s), some (.inr (cel c (0 + f * 6 + (1 + r)))), some (.inr (oco c f r s)), some (.inr (gol c f r s)), some (.inr (whz c r ((cel c (0 + f * 6 + (1 + r))) + s))), some (.inr f), some (.inr 0)], [], (zr τ 22 (zu (τ 22) ((61 + 6 * f) + (1 + r)).toNat (gol c f r s)))) _ _
        refine exq_k 6 (P := none) (g := (cod m8_goes 48, [some (.inl 21), some (.inr f), some (.inr r), some (.inr s), some (.inr (cel c (0 + f * 6 + (1 + r)))), some (.inr (oco c f r s)), some (.inr (gol c f r s)), some (.inr (whz c r ((cel c (0 + f * 6 + (1 + r))) + s))), some (.inr f), some (.inr 0)], [.inr 5, .inr f, .inl 21, .inr 5, .inr f, .inl 21], (zr τ 22 (zu (τ 22) ((61 + 6 * f) + (1 + r)).toNat (gol c f r s))))) rfl trivial ?_
        refine exq_c (m_of (τ := (zr τ 22 (zu (τ 22) ((61 + 6 * f) + (1 + r)).toNat (gol c f r s)))) (f := f) (w := 5) hI1 hR1 (by omega) (by omega)) (is := cod m8_goes 49) (L := [some (.inl 21), some (.inr f), some (.inr r), some (.inr s), some (.inr (cel c (0 + f * 6 + (1 + r)))), some (.inr (oco c f r s)), some (.inr (gol c f r s)), some (.inr (whz c r ((cel c (0 + f * 6 + (1 + r))) + s))), some (.inr f), some (.inr 0)]) (st := [.inr 5, .inr f, .inl 21]) rfl rfl rfl ?_
        show Exq _ _ (cod m8_goes 49, [some (.inl 21), some (.inr f), some (.inr r), some (.inr s), some (.inr (cel c (0 + f * 6 + (1 + r)))), some (.inr (oco c f r s)), some (.inr (gol c f r s)), some (.inr (whz c r ((cel c (0 + f * 6 + (1 + r))) + s))), some (.inr f), some (.inr 0)], [.inr (cel (shf c f r (gol c f r s)) (0 + f * 6 + 5)), .inr 5, .inr f, .inl 21], (zr τ 22 (zu (τ 22) ((61 + 6 * f) + (1 + r)).toNat (gol c f r s)))) _ _
        refine exq_k 2 (P := none) (g := (cod m8_goes 51, [some (.inl 21), some (.inr f), some (.inr r), some (.inr s), some (.inr (cel c (0 + f * 6 + (1 + r)))), some (.inr (oco c f r s)), some (.inr (gol c f r s)), some (.inr (whz c r ((cel c (0 + f * 6 + (1 + r))) + s))), some (.inr f), some (.inr 0)], [.inr ((cel (shf c f r (gol c f r s)) (0 + f * 6 + 5)) + 1), .inr 5, .inr f, .inl 21], (zr τ 22 (zu (τ 22) ((61 + 6 * f) + (1 + r)).toNat (gol c f r s))))) rfl trivial ?_
        refine exq_c (m_sets (τ := (zr τ 22 (zu (τ 22) ((61 + 6 * f) + (1 + r)).toNat (gol c f r s)))) (f := f) (w := 5) (v := (cel (shf c f r (gol c f r s)) (0 + f * 6 + 5)) + 1) (by omega) (by omega)) (is := cod m8_goes 52) (L := [some (.inl 21), some (.inr f), some (.inr r), some (.inr s), some (.inr (cel c (0 + f * 6 + (1 + r)))), some (.inr (oco c f r s)), some (.inr (gol c f r s)), some (.inr (whz c r ((cel c (0 + f * 6 + (1 + r))) + s))), some (.inr f), some (.inr 0)]) (st := []) rfl rfl rfl ?_
        show Exq _ _ (cod m8_goes 52, [some (.inl 21), some (.inr f), some (.inr r), some (.inr s), some (.inr (cel c (0 + f * 6 + (1 + r)))), some (.inr (oco c f r s)), some (.inr (gol c f r s)), some (.inr (whz c r ((cel c (0 + f * 6 + (1 + r))) + s))), some (.inr f), some (.inr 0)], [], (zr (zr τ 22 (zu (τ 22) ((61 + 6 * f) + (1 + r)).toNat (gol c f r s))) 22 (zu (zu (τ 22) ((61 + 6 * f) + (1 + r)).toNat (gol c f r s)) ((61 + 6 * f) + 5).toNat ((cel (shf c f r (gol c f r s)) (0 + f * 6 + 5)) + 1)))) _ _
        rw [zr_zr]
        refine exq_k 5 (P := some (0 ≤ 4 ∧ 4 < ((109 : Nat) : Int))) (g := (cod m8_goes 57, [some (.inl 21), some (.inr f), some (.inr r), some (.inr s), some (.inr (cel c (0 + f * 6 + (1 + r)))), some (.inr (oco c f r s)), some (.inr (gol c f r s)), some (.inr (whz c r ((cel c (0 + f * 6 + (1 + r))) + s))), some (.inr f), some (.inr 0)], [.inr ((zu (zu (τ 22) ((61 + 6 * f) + (1 + r)).toNat (gol c f r s)) ((61 + 6 * f) + 5).toNat ((cel (shf c f r (gol c f r s)) (0 + f * 6 + 5)) + 1)) 4), .inr 4, .inl 22], (zr τ 22 (zu (zu (τ 22) ((61 + 6 * f) + (1 + r)).toNat (gol c f r s)) ((61 + 6 * f) + 5).toNat ((cel (shf c f r (gol c f r s)) (0 + f * 6 + 5)) + 1))))) rfl (by show 0 ≤ 4 ∧ 4 < ((109 : Nat) : Int); omega) ?_
        refine exq_k 3 (P := some ((0 ≤ 4 ∧ 4 < ((109 : Nat) : Int)) ∧ (0 = 1 → 0 ≤ (((zu (zu (τ 22) ((61 + 6 * f) + (1 + r)).toNat (gol c f r s)) ((61 + 6 * f) + 5).toNat ((cel (shf c f r (gol c f r s)) (0 + f * 6 + 5)) + 1)) 4) + 1) ∧ (((zu (zu (τ 22) ((61 + 6 * f) + (1 + r)).toNat (gol c f r s)) ((61 + 6 * f) + 5).toNat ((cel (shf c f r (gol c f r s)) (0 + f * 6 + 5)) + 1)) 4) + 1) < 65536))) (g := (cod m8_goes 60, [some (.inl 21), some (.inr f), some (.inr r), some (.inr s), some (.inr (cel c (0 + f * 6 + (1 + r)))), some (.inr (oco c f r s)), some (.inr (gol c f r s)), some (.inr (whz c r ((cel c (0 + f * 6 + (1 + r))) + s))), some (.inr f), some (.inr 0)], [], (zr (zr τ 22 (zu (zu (τ 22) ((61 + 6 * f) + (1 + r)).toNat (gol c f r s)) ((61 + 6 * f) + 5).toNat ((cel (shf c f r (gol c f r s)) (0 + f * 6 + 5)) + 1))) 22 (zu (zu (zu (τ 22) ((61 + 6 * f) + (1 + r)).toNat (gol c f r s)) ((61 + 6 * f) + 5).toNat ((cel (shf c f r (gol c f r s)) (0 + f * 6 + 5)) + 1)) 4 (((zu (zu (τ 22) ((61 + 6 * f) + (1 + r)).toNat (gol c f r s)) ((61 + 6 * f) + 5).toNat ((cel (shf c f r (gol c f r s)) (0 + f * 6 + 5)) + 1)) 4) + 1))))) rfl (by show (0 ≤ 4 ∧ 4 < ((109 : Nat) : Int)) ∧ (0 = 1 → 0 ≤ (((zu (zu (τ 22) ((61 + 6 * f) + (1 + r)).toNat (gol c f r s)) ((61 + 6 * f) + 5).toNat ((cel (shf c f r (gol c f r s)) (0 + f * 6 + 5)) + 1)) 4) + 1) ∧ (((zu (zu (τ 22) ((61 + 6 * f) + (1 + r)).toNat (gol c f r s)) ((61 + 6 * f) + 5).toNat ((cel (shf c f r (gol c f r s)) (0 + f * 6 + 5)) + 1)) 4) + 1) < 65536); omega) ?_
        rw [zr_zr]
        exact g60)
end MMV
