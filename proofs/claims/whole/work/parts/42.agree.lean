/-! rows that agree; a king is made, in both rows -/
section AGR
theorem cel_crw {B : Int} {X : Nat → Int} (hS : Sh B X) {f r y : Int} (hf : 0 ≤ f ∧ f < 8) (hr : 0 ≤ r ∧ r < 2) : cel (crw X f r) y =
    if 0 < usz X r (cel X (0 + f * 6 + (1 + r))) ∧ cel X (0 + f * 6 + 3) = 0 then
      (if y = 105 then cel X 105 + 1 else if y = 72 + r * 12 + cel X (0 + f * 6 + (1 + r)) then usz X r (cel X (0 + f * 6 + (1 + r))) - 1 else if y = 0 + f * 6 + 3 then 1 else cel X y) else cel X y := by
  have hp := hS.pl hf hr
  unfold crw
  by_cases h : 0 < usz X r (cel X (0 + f * 6 + (1 + r))) ∧ cel X (0 + f * 6 + 3) = 0
  · rw [if_pos h, if_pos h, cel_sce, cel_sus' hr, cel_sce, cel_sus' hr, cel_sce]
    by_cases h1 : y = 105
    · subst h1
      rw [if_pos ⟨rfl, by omega⟩, if_neg (by omega), if_neg (by omega), if_pos rfl]
    · rw [if_neg (fun q => h1 q.1.symm), if_neg h1]
      by_cases h2 : y = 72 + r * 12 + cel X (0 + f * 6 + (1 + r))
      · rw [if_pos ⟨h2.symm, by omega⟩, if_pos h2]
      · rw [if_neg (fun q => h2 q.1.symm), if_neg h2]
        by_cases h3 : y = 0 + f * 6 + 3
        · rw [if_pos ⟨h3.symm, by omega⟩, if_pos h3]
        · rw [if_neg (fun q => h3 q.1.symm), if_neg h3]
  · rw [if_neg h, if_neg h]
theorem cel_dr1 {X : Nat → Int} {b w y : Int} (hb : 0 ≤ b ∧ b < 109) : cel (dr1 X b w) y = if y = b ∧ 0 < cel X w then (cel X b + 1) % 12 else cel X y := by
  unfold dr1
  by_cases h : 0 < cel X w
  · rw [if_pos h, cel_sce]
    by_cases q : y = b
    · rw [if_pos ⟨q.symm, hb⟩, if_pos ⟨q, h⟩]
    · rw [if_neg (fun x => q x.1.symm), if_neg (fun x => q x.1)]
  · rw [if_neg h, if_neg (fun x => h x.2)]
theorem cel_drf {X : Nat → Int} {y : Int} : cel (drf X) y = if y = 97 ∧ 0 < cel X 99 then (cel X 97 + 1) % 12 else if y = 96 ∧ 0 < cel X 98 then (cel X 96 + 1) % 12 else cel X y := by
  unfold drf
  rw [cel_dr1 (by omega), cel_dr1 (by omega), cel_dr1 (by omega), cel_dr1 (by omega)]
  rw [if_neg (show ¬ ((99 : Int) = 96 ∧ 0 < cel X 98) by omega), if_neg (show ¬ ((97 : Int) = 96 ∧ 0 < cel X 98) by omega)]
theorem cel_adm {X : Nat → Int} {e m y : Int} (he : 0 ≤ e ∧ e < 109) : cel (adm X e m) y = if y = e then cel X e + m else cel X y := by
  unfold adm
  rw [cel_sce]
  by_cases q : y = e
  · rw [if_pos ⟨q.symm, he⟩, if_pos q]
  · rw [if_neg (fun x => q x.1.symm), if_neg q]
theorem cel_chg {X : Nat → Int} {y : Int} : cel (chg X) y = if y = 108 then 1 - cel X 108 else cel X y := by
  unfold chg
  rw [cel_sce]
  by_cases q : y = 108
  · rw [if_pos ⟨q.symm, by omega⟩, if_pos q]
  · rw [if_neg (fun x => q x.1.symm), if_neg q]
/-- rows that agree in all that is looked at -/
def Ag (c d : Nat → Int) : Prop := cel c 107 = cel d 107 ∧ ∀ y, (0 ≤ y ∧ y < 6 * cel c 107) ∨ (48 ≤ y ∧ y < 109) → cel c y = cel d y
theorem Ag.rs {c d s : Nat → Int} (h : Ag c d) (hn : 0 ≤ cel c 107 ∧ cel c 107 ≤ 8) (hR : Rs c s) : Rs d s := by
  refine Rg.rs ?_
  rw [← h.1]
  refine (Rg.of hR).eo (fun y h0 h1 => Or.inl ?_)
  refine (h.2 _ ?_).symm
  by_cases q : y < 61
  · exact Or.inr (oc_hi h0 q)
  · rw [oc_f (by omega)]; exact Or.inl (by omega)
theorem Ag.chg {c d : Nat → Int} (h : Ag c d) : Ag (chg c) (chg d) := by
  refine ⟨by rw [chg_ne (by omega), chg_ne (by omega)]; exact h.1, fun y hy => ?_⟩
  rw [chg_ne (by omega)] at hy
  rw [cel_chg, cel_chg]
  by_cases q : y = 108
  · rw [if_pos q, if_pos q, h.2 108 (by omega)]
  · rw [if_neg q, if_neg q]; exact h.2 y hy
theorem Ag.oco {B : Int} {c d : Nat → Int} (h : Ag c d) (hI : Iv B c) {f r s : Int} (hf : 0 ≤ f ∧ f < cel c 107) (hr : 0 ≤ r ∧ r < 2) : oco c f r s = oco d f r s := by
  have hn := hI.1.n
  have e1 : cel c (0 + f * 6 + (1 + r)) = cel d (0 + f * 6 + (1 + r)) := h.2 _ (by omega)
  have e2 : cel c (96 + r) = cel d (96 + r) := h.2 _ (by omega)
  have e3 : cel c (98 + r) = cel d (98 + r) := h.2 _ (by omega)
  have e4 : cel c (0 + f * 6 + 0) = cel d (0 + f * 6 + 0) := h.2 _ (by omega)
  have e5 : cel c (0 + f * 6 + 3) = cel d (0 + f * 6 + 3) := h.2 _ (by omega)
  have e6 : ∀ p, whz c r p = whz d r p := by
    intro p
    unfold whz
    by_cases q : 0 ≤ p ∧ p < 12
    · rw [if_pos q, if_pos q]; exact h.2 _ (by omega)
    · rw [if_neg q, if_neg q]
  have e7 : ∀ p, (0 ≤ p ∧ p < 12) ∧ cel c (48 + r * 12 + p) = -1 ↔ (0 ≤ p ∧ p < 12) ∧ cel d (48 + r * 12 + p) = -1 := by
    intro p
    by_cases q : 0 ≤ p ∧ p < 12
    · rw [h.2 (48 + r * 12 + p) (by omega)]
    · exact ⟨fun x => absurd x.1 q, fun x => absurd x.1 q⟩
  have hv := hI.2.1.ov (p := cel d (0 + f * 6 + (1 + r)) + s) hr
  have e8 : ¬ whz c r (cel d (0 + f * 6 + (1 + r)) + s) = -1 → ¬ whz c r (cel d (0 + f * 6 + (1 + r)) + s) = 8 → cel c (0 + whz c r (cel d (0 + f * 6 + (1 + r)) + s) * 6 + 0) = cel d (0 + whz c r (cel d (0 + f * 6 + (1 + r)) + s) * 6 + 0) := fun q1 q2 => h.2 _ (by omega)
  unfold Jvm.Pilot.CFerryDraughtsLaw_law_r9972_b515da.oco
  rw [e1, e2, e3, e4, e5]
  rw [← e6 (cel d (0 + f * 6 + (1 + r)) + s)]
  by_cases a1 : (cel d (0 + f * 6 + (1 + r)) - cel d (96 + r) + 12) % 12 < cel d (98 + r)
  · rw [if_pos a1, if_pos a1]
  · rw [if_neg a1, if_neg a1]
    by_cases a2 : ¬ ((cel d (0 + f * 6 + 0) = 0 ∧ s = 1) ∨ (¬ cel d (0 + f * 6 + 0) = 0 ∧ s = -1) ∨ cel d (0 + f * 6 + 3) = 1)
    · rw [if_pos a2, if_pos a2]
    · rw [if_neg a2, if_neg a2]
      by_cases a3 : ¬ (0 ≤ (cel d (0 + f * 6 + (1 + r)) + s) ∧ (cel d (0 + f * 6 + (1 + r)) + s) < 12)
      · rw [if_pos a3, if_pos a3]
      · rw [if_neg a3, if_neg a3]
        by_cases a4 : whz c r (cel d (0 + f * 6 + (1 + r)) + s) = -1
        · rw [if_pos a4, if_pos a4]
        · rw [if_neg a4, if_neg a4]
          by_cases a5 : whz c r (cel d (0 + f * 6 + (1 + r)) + s) = 8
          · have z1 : ¬ (¬ whz c r (cel d (0 + f * 6 + (1 + r)) + s) = 8 ∧ cel c (0 + (whz c r (cel d (0 + f * 6 + (1 + r)) + s)) * 6 + 0) = cel d (0 + f * 6 + 0)) := fun q => q.1 a5
            have z2 : ¬ (¬ whz c r (cel d (0 + f * 6 + (1 + r)) + s) = 8 ∧ cel d (0 + (whz c r (cel d (0 + f * 6 + (1 + r)) + s)) * 6 + 0) = cel d (0 + f * 6 + 0)) := fun q => q.1 a5
            rw [if_neg z1, if_neg z2]
            simp only [e7]
          · rw [e8 a4 a5]
            simp only [e7]
theorem Ag.jby {B : Int} {c d : Nat → Int} (h : Ag c d) (hI : Iv B c) {f : Int} (hf : 0 ≤ f ∧ f < cel c 107) : jby c f = jby d f := by
  unfold Jvm.Pilot.CFerryDraughtsLaw_law_r9972_b515da.jby
  rw [h.oco hI hf (by omega), h.oco hI hf (by omega), h.oco hI hf (by omega), h.oco hI hf (by omega)]
/-- a king is made at a lock, in both rows -/
theorem Rs.kcrw {B : Int} {c s : Nat → Int} (hS : Sh B c) (h : Rs c s) {m r t : Int} (hm : 0 ≤ m ∧ m < cel c 107) (hr : 0 ≤ r ∧ r < 2) (ht : cel c (0 + m * 6 + (1 + r)) = t) (h1 : 0 < usz c r t) (h2 : cel c (0 + m * 6 + 3) = 0) {v : Int} (hv : v = s 7 + 1) :
    Rs (crw c m r) (zu (zu (zu s ((9 + 26 * r) + (2 + t)).toNat (usz c r t - 1)) ((61 + 6 * m) + 3).toNat 1) 7 v) := by
  have hn := hS.n
  have hp := hS.pl (f := m) (by omega) hr
  have ht12 : 0 ≤ t ∧ t < 12 := by omega
  have e7 : s 7 = cel c 105 := h.to hn.1 (k := 7) (by omega)
  have q1 := h.ku hn hr (p := t) (v := usz c r t - 1) ht12
  have n1 : cel (sus c r t (usz c r t - 1)) 107 = cel c 107 := cel_sus (Or.inr (by omega)) hr
  have q2 := q1.kf (by rw [n1]; exact hn) (f := m) (w := 3) (v := 1) (by omega) (by omega)
  have n2 : cel (sce (sus c r t (usz c r t - 1)) (0 + m * 6 + 3) 1) 107 = cel c 107 := by rw [cel_ne (by omega), n1]
  have q3 := q2.kt (by rw [n2]; exact hn) (k := 7) (v := v) (by omega)
  have hc : cel (crw c m r) 107 = cel c 107 := crw_107 (by omega) hr
  refine Rg.rs ?_
  rw [hc]
  have n3 : cel (sce (sce (sus c r t (usz c r t - 1)) (0 + m * 6 + 3) 1) (oc 7) v) 107 = cel c 107 := by rw [show oc 7 = 105 from rfl, cel_ne (by omega), n2]
  have q4 := Rg.of q3
  rw [n3] at q4
  refine q4.eo (fun y h0 hy => Or.inl ?_)
  rw [cel_crw hS (by omega) hr, ht, if_pos ⟨h1, h2⟩, show oc 7 = 105 from rfl, cel_sce, cel_sce, cel_sus' hr]
  by_cases a1 : oc y = 105
  · rw [if_pos a1, if_pos ⟨a1.symm, by omega⟩, hv, e7]
  · rw [if_neg a1, if_neg (show ¬ (105 = oc y ∧ (0 : Int) ≤ 105 ∧ (105 : Int) < 109) from fun q => a1 q.1.symm)]
    by_cases a2 : oc y = 72 + r * 12 + t
    · rw [if_pos a2, if_neg (show ¬ (0 + m * 6 + 3 = oc y ∧ 0 ≤ 0 + m * 6 + 3 ∧ 0 + m * 6 + 3 < 109) by omega), if_pos ⟨a2.symm, ht12⟩]
    · rw [if_neg a2]
      by_cases a3 : oc y = 0 + m * 6 + 3
      · rw [if_pos a3, if_pos ⟨a3.symm, by omega⟩]
      · rw [if_neg a3, if_neg (show ¬ (0 + m * 6 + 3 = oc y ∧ 0 ≤ 0 + m * 6 + 3 ∧ 0 + m * 6 + 3 < 109) from fun q => a3 q.1.symm), if_neg (show ¬ (72 + r * 12 + t = oc y ∧ 0 ≤ t ∧ t < 12) from fun q => a2 q.1.symm)]
theorem crw_no {c : Nat → Int} {m r : Int} (h : ¬ (0 < usz c r (cel c (0 + m * 6 + (1 + r))) ∧ cel c (0 + m * 6 + 3) = 0)) : crw c m r = c := by
  unfold crw
  rw [if_neg h]
end AGR
