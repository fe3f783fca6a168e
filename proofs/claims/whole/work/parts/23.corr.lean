/-! who is where: the places of the ferries and what the places say -/
section COR
def Co (c : Nat → Int) : Prop := ∀ r, 0 ≤ r → r < 2 → (∀ f, 0 ≤ f → f < cel c 107 → cel c (48 + r * 12 + cel c (0 + f * 6 + (1 + r))) = f) ∧ (∀ p, 0 ≤ p → p < 12 → cel c (48 + r * 12 + p) = -1 ∨ cel c (48 + r * 12 + p) = 8 ∨ (0 ≤ cel c (48 + r * 12 + p) ∧ cel c (48 + r * 12 + p) < cel c 107 ∧ cel c (0 + cel c (48 + r * 12 + p) * 6 + (1 + r)) = p))
theorem Co.at {c : Nat → Int} (h : Co c) {r f : Int} (hr : 0 ≤ r ∧ r < 2) (hf : 0 ≤ f ∧ f < cel c 107) : cel c (48 + r * 12 + cel c (0 + f * 6 + (1 + r))) = f := (h r hr.1 hr.2).1 f hf.1 hf.2
theorem Co.by {c : Nat → Int} (h : Co c) {r p : Int} (hr : 0 ≤ r ∧ r < 2) (hp : 0 ≤ p ∧ p < 12) : cel c (48 + r * 12 + p) = -1 ∨ cel c (48 + r * 12 + p) = 8 ∨ (0 ≤ cel c (48 + r * 12 + p) ∧ cel c (48 + r * 12 + p) < cel c 107 ∧ cel c (0 + cel c (48 + r * 12 + p) * 6 + (1 + r)) = p) := (h r hr.1 hr.2).2 p hp.1 hp.2
theorem Co.ov {c : Nat → Int} (h : Co c) {r p : Int} (hr : 0 ≤ r ∧ r < 2) : whz c r p = -1 ∨ whz c r p = 8 ∨ (0 ≤ whz c r p ∧ whz c r p < cel c 107) := by
  unfold whz
  split
  next q => rcases h.by hr q with h1 | h1 | h1; exact Or.inl h1; exact Or.inr (Or.inl h1); exact Or.inr (Or.inr ⟨h1.1, h1.2.1⟩)
  next => exact Or.inl rfl
theorem Co.ext {c d : Nat → Int} (h : Co c) (e : ∀ y, (y = 107 ∨ (48 ≤ y ∧ y < 72) ∨ (0 ≤ y ∧ y < 48 ∧ (y % 6 = 1 ∨ y % 6 = 2))) → cel d y = cel c y) {B : Int} (hS : Sh B c) : Co d := by
  have en : cel d 107 = cel c 107 := e 107 (Or.inl rfl)
  have hn := hS.n
  intro r h0 h1
  refine ⟨fun f hf0 hf1 => ?_, fun p hp0 hp1 => ?_⟩
  · rw [en] at hf1
    have hp := hS.pl (f := f) (by omega) ⟨h0, h1⟩
    rw [e (0 + f * 6 + (1 + r)) (by omega), e _ (by omega)]
    exact h.at ⟨h0, h1⟩ ⟨hf0, hf1⟩
  · rw [en, e (48 + r * 12 + p) (by omega)]
    rcases h.by ⟨h0, h1⟩ ⟨hp0, hp1⟩ with q | q | q
    · exact Or.inl q
    · exact Or.inr (Or.inl q)
    · refine Or.inr (Or.inr ⟨q.1, q.2.1, ?_⟩)
      rw [e _ (by omega)]
      exact q.2.2
theorem Co.inj {c : Nat → Int} (h : Co c) {r f g : Int} (hr : 0 ≤ r ∧ r < 2) (hf : 0 ≤ f ∧ f < cel c 107) (hg : 0 ≤ g ∧ g < cel c 107) (e : cel c (0 + f * 6 + (1 + r)) = cel c (0 + g * 6 + (1 + r))) : f = g := by
  rw [← h.at hr hf, e, h.at hr hg]
theorem gol_ok {c : Nat → Int} {f r s : Int} (h : oco c f r s = 1 ∨ oco c f r s = 2 ∨ oco c f r s = 3) : (0 ≤ gol c f r s ∧ gol c f r s < 12) ∧ cel c (48 + r * 12 + gol c f r s) = -1 := by
  unfold oco at h
  unfold gol
  split at h
  · omega
  · split at h
    · omega
    · split at h
      · omega
      next hin =>
        have hin2 := Decidable.not_not.mp hin
        split at h
        next hw =>
          unfold whz at hw
          rw [if_pos hin2] at hw
          rw [if_pos ⟨hin2, hw⟩]
          exact ⟨hin2, hw⟩
        next hw =>
          split at h
          · omega
          · split at h
            · omega
            next hf =>
              have hf2 := Decidable.not_not.mp hf
              unfold whz at hw
              rw [if_pos hin2] at hw
              rw [if_neg (fun q => hw q.2)]
              exact hf2
theorem cel_shf {c : Nat → Int} {f r p y : Int} (hf : 0 ≤ f ∧ f < 8) (hr : 0 ≤ r ∧ r < 2) (hp : 0 ≤ p ∧ p < 12) : cel (shf c f r p) y = if 0 + f * 6 + (1 + r) = y then p else if 48 + r * 12 + p = y then f else if 48 + r * 12 + cel c (0 + f * 6 + (1 + r)) = y ∧ 0 ≤ cel c (0 + f * 6 + (1 + r)) ∧ cel c (0 + f * 6 + (1 + r)) < 12 then -1 else cel c y := by
  unfold shf
  rw [cel_sce, cel_swh' hr, cel_swh' hr]
  by_cases h1 : 0 + f * 6 + (1 + r) = y
  · rw [if_pos ⟨h1, by omega⟩, if_pos h1]
  · rw [if_neg (fun q => h1 q.1), if_neg h1]
    by_cases h2 : 48 + r * 12 + p = y
    · rw [if_pos ⟨h2, hp⟩, if_pos h2]
    · rw [if_neg (fun q => h2 q.1), if_neg h2]
theorem Co.shf {B : Int} {c : Nat → Int} (h : Co c) (hS : Sh B c) {f r p : Int} (hf : 0 ≤ f ∧ f < cel c 107) (hr : 0 ≤ r ∧ r < 2) (hp : 0 ≤ p ∧ p < 12) (hfr : cel c (48 + r * 12 + p) = -1) : Co (shf c f r p) := by
  have hn := hS.n
  have hf8 : 0 ≤ f ∧ f < 8 := by omega
  have ho := hS.pl hf8 hr
  have e : ∀ y, cel (Jvm.Pilot.CFerryDraughtsLaw_law_r9972_b515da.shf c f r p) y = if 0 + f * 6 + (1 + r) = y then p else if 48 + r * 12 + p = y then f else if 48 + r * 12 + cel c (0 + f * 6 + (1 + r)) = y then -1 else cel c y := by
    intro y
    rw [cel_shf hf8 hr hp]
    repeat (first | rfl | split | omega)
  have en := e 107
  rw [if_neg (by omega), if_neg (by omega), if_neg (by omega)] at en
  intro r' h0 h1
  refine ⟨fun g hg0 hg1 => ?_, fun q hq0 hq1 => ?_⟩
  · rw [en] at hg1
    have hg8 : 0 ≤ g ∧ g < 8 := by omega
    have hpg := hS.pl hg8 ⟨h0, h1⟩
    have hat := h.at ⟨h0, h1⟩ ⟨hg0, hg1⟩
    have e1 := e (0 + g * 6 + (1 + r'))
    by_cases h2 : 0 + f * 6 + (1 + r) = 0 + g * 6 + (1 + r')
    · rw [if_pos h2] at e1
      have hrr : r = r' := by omega
      have hfg : f = g := by omega
      subst hrr
      subst hfg
      rw [e1, e, if_neg (by omega), if_pos rfl]
    · rw [if_neg h2, if_neg (by omega), if_neg (by omega)] at e1
      rw [e1, e, if_neg (by omega)]
      by_cases hrr : r = r'
      · subst hrr
        have hne : g ≠ f := fun q => h2 (by rw [q])
        have n1 : cel c (0 + g * 6 + (1 + r)) ≠ p := fun q => by rw [q, hfr] at hat; omega
        have n2 : cel c (0 + g * 6 + (1 + r)) ≠ cel c (0 + f * 6 + (1 + r)) := fun q => hne (h.inj hr ⟨hg0, hg1⟩ hf q)
        rw [if_neg (by omega), if_neg (by omega)]
        exact hat
      · rw [if_neg (by omega), if_neg (by omega)]
        exact hat
  · have e1 := e (48 + r' * 12 + q)
    rw [if_neg (by omega)] at e1
    rw [en]
    have hby := h.by ⟨h0, h1⟩ ⟨hq0, hq1⟩
    by_cases h2 : 48 + r * 12 + p = 48 + r' * 12 + q
    · rw [if_pos h2] at e1
      have hrr : r = r' := by omega
      have hpq : p = q := by omega
      subst hrr
      subst hpq
      rw [e1]
      exact Or.inr (Or.inr ⟨hf.1, hf.2, by rw [e, if_pos rfl]⟩)
    · rw [if_neg h2] at e1
      by_cases h3 : 48 + r * 12 + cel c (0 + f * 6 + (1 + r)) = 48 + r' * 12 + q
      · rw [if_pos h3] at e1
        rw [e1]
        exact Or.inl rfl
      · rw [if_neg h3] at e1
        rw [e1]
        rcases hby with q1 | q1 | q1
        · exact Or.inl q1
        · exact Or.inr (Or.inl q1)
        · refine Or.inr (Or.inr ⟨q1.1, q1.2.1, ?_⟩)
          rw [e]
          by_cases h4 : 0 + f * 6 + (1 + r) = 0 + cel c (48 + r' * 12 + q) * 6 + (1 + r')
          · exfalso
            have hrr : r = r' := by omega
            have hfg : f = cel c (48 + r' * 12 + q) := by omega
            subst hrr
            have q3 := q1.2.2
            rw [← hfg] at q3
            omega
          · rw [if_neg h4, if_neg (by omega), if_neg (by omega)]
            exact q1.2.2
theorem Co.kcrw {B : Int} {c : Nat → Int} (h : Co c) (hS : Sh B c) {f r : Int} (hf : 0 ≤ f ∧ f < 8) (hr : 0 ≤ r ∧ r < 2) : Co (crw c f r) := by
  refine h.ext (fun y hy => ?_) hS
  unfold crw
  split
  · rw [cel_ne (by omega), cel_sus (by omega) hr, cel_ne (by omega)]
  · rfl
theorem Co.kadm {B : Int} {c : Nat → Int} (h : Co c) (hS : Sh B c) {e m : Int} (he : (100 ≤ e ∧ e < 107) ∨ (0 ≤ e ∧ e < 48 ∧ (e % 6 = 4 ∨ e % 6 = 5))) : Co (adm c e m) :=
  h.ext (fun y hy => adm_ne (by omega)) hS
theorem Co.kchg {B : Int} {c : Nat → Int} (h : Co c) (hS : Sh B c) : Co (chg c) := h.ext (fun y hy => cel_ne (by omega)) hS
theorem Co.kdrf {B : Int} {c : Nat → Int} (h : Co c) (hS : Sh B c) : Co (drf c) := h.ext (fun y hy => drf_hi (by omega)) hS
theorem Co.kmk5 {B : Int} {c : Nat → Int} (h : Co c) (hS : Sh B c) {f r s : Int} (hf : 0 ≤ f ∧ f < cel c 107) (hr : 0 ≤ r ∧ r < 2) (ho : oco c f r s = 1 ∨ oco c f r s = 2 ∨ oco c f r s = 3) (hB : B + 7 ≤ 100000000) : Co (mk5 c f r s) := by
  have hn := hS.n
  have hf8 : 0 ≤ f ∧ f < 8 := by omega
  obtain ⟨hg, hg2⟩ := gol_ok ho
  have h1 := h.shf hS hf hr hg hg2
  have s1 := hS.kshf hf8 hr hg
  have h2 := h1.kcrw s1 hf8 hr
  have s2 := s1.kcrw hf8 hr (by omega)
  have h3 := h2.kadm s2 (e := 0 + f * 6 + 5) (m := 1) (Or.inr (by omega))
  have s3 := s2.kadm (e := 0 + f * 6 + 5) (m := 1) (k := 1) (Or.inr (by omega)) (by omega) (by omega)
  have h4 := h3.kadm s3 (e := 102) (m := 1) (Or.inl (by omega))
  exact h4.kdrf (s3.kadm (e := 102) (m := 1) (k := 1) (Or.inl (by omega)) (by omega) (by omega))
theorem Co.kswh {B : Int} {c : Nat → Int} (h : Co c) (hS : Sh B c) {r p v : Int} (hr : 0 ≤ r ∧ r < 2) (hp : 0 ≤ p ∧ p < 12) (hv : v = -1 ∨ v = 8) (hw : cel c (48 + r * 12 + p) = -1 ∨ cel c (48 + r * 12 + p) = 8) : Co (swh c r p v) := by
  have e : ∀ y, cel (swh c r p v) y = if 48 + r * 12 + p = y then v else cel c y := by
    intro y
    rw [cel_swh' hr]
    by_cases h2 : 48 + r * 12 + p = y
    · rw [if_pos ⟨h2, hp⟩, if_pos h2]
    · rw [if_neg (fun q => h2 q.1), if_neg h2]
  have hn := hS.n
  intro r' h0 h1
  rw [e 107, if_neg (by omega)]
  refine ⟨fun g hg0 hg1 => ?_, fun q hq0 hq1 => ?_⟩
  · have hpg := hS.pl (f := g) (by omega) ⟨h0, h1⟩
    have hat := h.at ⟨h0, h1⟩ ⟨hg0, hg1⟩
    rw [e (0 + g * 6 + (1 + r')), if_neg (by omega), e]
    by_cases h2 : 48 + r * 12 + p = 48 + r' * 12 + cel c (0 + g * 6 + (1 + r'))
    · rw [← h2] at hat
      omega
    · rw [if_neg h2]
      exact hat
  · rw [e (48 + r' * 12 + q)]
    by_cases h2 : 48 + r * 12 + p = 48 + r' * 12 + q
    · rw [if_pos h2]
      rcases hv with q | q
      · exact Or.inl q
      · exact Or.inr (Or.inl q)
    · rw [if_neg h2]
      rcases h.by ⟨h0, h1⟩ ⟨hq0, hq1⟩ with q1 | q1 | q1
      · exact Or.inl q1
      · exact Or.inr (Or.inl q1)
      · refine Or.inr (Or.inr ⟨q1.1, q1.2.1, ?_⟩)
        rw [e, if_neg (by omega)]
        exact q1.2.2
end COR
