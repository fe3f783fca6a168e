/-! calls of both: what only tells: printed by wip/whole/db35.py -/
section CAL
theorem sm_app {f : Nat → Int} (n : Nat) : ∀ m, sm f (n + m) = sm f n + sm (fun k => f (n + k)) m
  | 0 => by show sm f n = sm f n + 0; omega
  | m + 1 => by
    show sm f (n + m) + f (n + m) = sm f n + (sm (fun k => f (n + k)) m + f (n + m))
    rw [sm_app n m]
    omega
theorem lck24 {c : Nat → Int} : sm (fun k => b2 (0 < usz c 0 (k : Int))) 12 + sm (fun k => b2 (0 < usz c 1 (k : Int))) 12 = sm (fun k => b2 (0 < usz c ((k : Int) / 12) ((k : Int) % 12))) 24 := by
  rw [show (24 : Nat) = 12 + 12 from rfl, sm_app]
  have e1 : sm (fun k => b2 (0 < usz c 0 (k : Int))) 12 = sm (fun k => b2 (0 < usz c ((k : Int) / 12) ((k : Int) % 12))) 12 := sm_cong (fun k hk => by rw [show (k : Int) / 12 = 0 from by omega, show (k : Int) % 12 = (k : Int) from by omega])
  have e2 : sm (fun k => b2 (0 < usz c 1 (k : Int))) 12 = sm (fun k => b2 (0 < usz c (((12 + k : Nat) : Int) / 12) (((12 + k : Nat) : Int) % 12))) 12 := sm_cong (fun k hk => by rw [show ((12 + k : Nat) : Int) / 12 = 1 from by omega, show ((12 + k : Nat) : Int) % 12 = (k : Int) from by omega])
  rw [e1, e2]
theorem kng {B : Int} {c : Nat → Int} (hI : Iv B c) {N : Nat} (hN : cel c 107 = (N : Int)) : sm (fun k => cel c (0 + (k : Int) * 6 + 3)) N = sm (fun k => b2 (cel c (0 + (k : Int) * 6 + 3) = 1)) N := by
  have hn := hI.1.n
  refine sm_cong (fun k hk => ?_)
  have q := hI.1.kg (f := (k : Int)) (by omega)
  by_cases e : cel c (0 + (k : Int) * 6 + 3) = 1
  · rw [b2_t e, e]
  · rw [b2_f e]; omega
theorem K_ferryOf {f w B : Int} {τ : SZ} (h : WL B τ) (hB : B + 200 ≤ 100000000) (hf : Rng f) (hw : Rng w) : Cal m7_ferryOf m8_ferryOf [.inr f, .inr w] ["java/lang/IndexOutOfBoundsException", "java/lang/IllegalArgumentException"] B τ := by
  have hb := h.1.1.1.B
  have hW : WL (B + 200) τ := h.mono (by omega) hB
  have hI := h.1.1
  have hR := h.1.2.2
  have hN : cel (τ 4) 107 = (((cel (τ 4) 107).toNat : Nat) : Int) := by have := hI.1.n; omega
  have c := c_ferryOf hf hw hI.1
  obtain ⟨e, d⟩ := d_ferryOf hI hR hf hw
  by_cases F : 0 ≤ f ∧ f < cel (τ 4) 107
  · simp only [if_pos F] at c d
    by_cases W : 0 ≤ w ∧ w < 6
    · simp only [if_pos W] at c d
      exact cal_0 c d ⟨by decide, by decide⟩ rfl rfl hW.tt
    · simp only [if_neg W] at c d
      exact cal_x 1 c d ⟨by decide, by decide⟩ rfl rfl hW.tt
  · simp only [if_neg F] at c d
    exact cal_x 0 c d ⟨by decide, by decide⟩ rfl rfl hW.tt
theorem K_at {r p B : Int} {τ : SZ} (h : WL B τ) (hB : B + 200 ≤ 100000000) (hr : Rng r) (hp : Rng p) : Cal m7_at m8_at [.inr r, .inr p] ["java/lang/IndexOutOfBoundsException"] B τ := by
  have hb := h.1.1.1.B
  have hW : WL (B + 200) τ := h.mono (by omega) hB
  have hI := h.1.1
  have hR := h.1.2.2
  have hN : cel (τ 4) 107 = (((cel (τ 4) 107).toNat : Nat) : Int) := by have := hI.1.n; omega
  have c := c_at (τ := τ) hr hp
  obtain ⟨e, d⟩ := d_at hI hR hr hp
  by_cases F : (0 ≤ r ∧ r < 2) ∧ (0 ≤ p ∧ p < 12)
  · simp only [if_pos F] at c d
    exact cal_0 c d ⟨by decide, by decide⟩ rfl rfl hW.tt
  · simp only [if_neg F] at c d
    exact cal_x 0 c d ⟨by decide, by decide⟩ rfl rfl hW.tt
theorem K_lockAt {r p B : Int} {τ : SZ} (h : WL B τ) (hB : B + 200 ≤ 100000000) (hr : Rng r) (hp : Rng p) : Cal m7_lockAt m8_lockAt [.inr r, .inr p] ["java/lang/IndexOutOfBoundsException"] B τ := by
  have hb := h.1.1.1.B
  have hW : WL (B + 200) τ := h.mono (by omega) hB
  have hI := h.1.1
  have hR := h.1.2.2
  have hN : cel (τ 4) 107 = (((cel (τ 4) 107).toNat : Nat) : Int) := by have := hI.1.n; omega
  have c := c_lockAt (τ := τ) hr hp
  obtain ⟨e, d⟩ := d_lockAt hI hR hr hp
  by_cases F : (0 ≤ r ∧ r < 2) ∧ (0 ≤ p ∧ p < 12)
  · simp only [if_pos F] at c d
    exact cal_0 c d ⟨by decide, by decide⟩ rfl rfl hW.tt
  · simp only [if_neg F] at c d
    exact cal_x 0 c d ⟨by decide, by decide⟩ rfl rfl hW.tt
theorem K_isFog {r p B : Int} {τ : SZ} (h : WL B τ) (hB : B + 200 ≤ 100000000) (hr : Rng r) (hp : Rng p) : Cal m7_isFog m8_isFog [.inr r, .inr p] ["java/lang/IndexOutOfBoundsException"] B τ := by
  have hb := h.1.1.1.B
  have hW : WL (B + 200) τ := h.mono (by omega) hB
  have hI := h.1.1
  have hR := h.1.2.2
  have hN : cel (τ 4) 107 = (((cel (τ 4) 107).toNat : Nat) : Int) := by have := hI.1.n; omega
  have c := c_isFog hr hp hI.1
  obtain ⟨e, d⟩ := d_isFog hI hR hr hp
  by_cases F : (0 ≤ r ∧ r < 2) ∧ (0 ≤ p ∧ p < 12)
  · simp only [if_pos F] at c d
    exact cal_0 c d ⟨by decide, by decide⟩ rfl rfl hW.tt
  · simp only [if_neg F] at c d
    exact cal_x 0 c d ⟨by decide, by decide⟩ rfl rfl hW.tt
theorem K_turn {B : Int} {τ : SZ} (h : WL B τ) (hB : B + 200 ≤ 100000000) : Cal m7_turn m8_turn [] [] B τ := by
  have hb := h.1.1.1.B
  have hW : WL (B + 200) τ := h.mono (by omega) hB
  have hI := h.1.1
  have hR := h.1.2.2
  have hN : cel (τ 4) 107 = (((cel (τ 4) 107).toNat : Nat) : Int) := by have := hI.1.n; omega
  have c := c_turn (τ := τ)
  obtain ⟨e, d⟩ := d_turn hI hR
  exact cal_0 c d ⟨by decide, by decide⟩ rfl rfl hW.tt
theorem K_would_0 {f r B : Int} {τ : SZ} (h : WL B τ) (hB : B + 200 ≤ 100000000) (hf : Rng f) (hr : Rng r) : Cal m7_would m8_would [.inr f, .inr r, .inr 0] ["java/lang/IndexOutOfBoundsException"] B τ := by
  have hb := h.1.1.1.B
  have hW : WL (B + 200) τ := h.mono (by omega) hB
  have hI := h.1.1
  have hR := h.1.2.2
  have hN : cel (τ 4) 107 = (((cel (τ 4) 107).toNat : Nat) : Int) := by have := hI.1.n; omega
  have c := c_would_0 hf hr hI.1
  obtain ⟨e, d⟩ := d_would_0 hI hR hf hr
  by_cases F : (0 ≤ f ∧ f < cel (τ 4) 107) ∧ (0 ≤ r ∧ r < 2)
  · simp only [if_pos F] at c d
    exact cal_0 c d ⟨by decide, by decide⟩ rfl rfl hW.tt
  · simp only [if_neg F] at c d
    exact cal_x 0 c d ⟨by decide, by decide⟩ rfl rfl hW.tt
theorem K_why_0_0 {f r B : Int} {τ : SZ} (h : WL B τ) (hB : B + 200 ≤ 100000000) (hf : Rng f) (hr : Rng r) : Cal m7_why m8_why [.inr f, .inr r, .inr 0, .inr 0] ["java/lang/IndexOutOfBoundsException", "java/util/NoSuchElementException"] B τ := by
  have hb := h.1.1.1.B
  have hW : WL (B + 200) τ := h.mono (by omega) hB
  have hI := h.1.1
  have hR := h.1.2.2
  have hN : cel (τ 4) 107 = (((cel (τ 4) 107).toNat : Nat) : Int) := by have := hI.1.n; omega
  have c := c_why_0_0 hf hr hI.1
  obtain ⟨e, d⟩ := d_why_0_0 hI hR hf hr
  by_cases F : (0 ≤ f ∧ f < cel (τ 4) 107) ∧ (0 ≤ r ∧ r < 2)
  · simp only [if_pos F] at c d
    by_cases M : ocn (τ 4) f r (-1) = 1 ∨ ocn (τ 4) f r (-1) = 2 ∨ ocn (τ 4) f r (-1) = 3
    · simp only [if_pos M] at c d
      exact cal_x 1 c d ⟨by decide, by decide⟩ rfl rfl hW.tt
    · simp only [if_neg M] at c d
      exact cal_0 c d ⟨by decide, by decide⟩ rfl rfl hW.tt
  · simp only [if_neg F] at c d
    exact cal_x 0 c d ⟨by decide, by decide⟩ rfl rfl hW.tt
theorem K_why_0_1 {f r B : Int} {τ : SZ} (h : WL B τ) (hB : B + 200 ≤ 100000000) (hf : Rng f) (hr : Rng r) : Cal m7_why m8_why [.inr f, .inr r, .inr 0, .inr 1] ["java/lang/IndexOutOfBoundsException", "java/util/NoSuchElementException"] B τ := by
  have hb := h.1.1.1.B
  have hW : WL (B + 200) τ := h.mono (by omega) hB
  have hI := h.1.1
  have hR := h.1.2.2
  have hN : cel (τ 4) 107 = (((cel (τ 4) 107).toNat : Nat) : Int) := by have := hI.1.n; omega
  have c := c_why_0_1 hf hr hI.1
  obtain ⟨e, d⟩ := d_why_0_1 hI hR hf hr
  by_cases F : (0 ≤ f ∧ f < cel (τ 4) 107) ∧ (0 ≤ r ∧ r < 2)
  · simp only [if_pos F] at c d
    by_cases M : ocn (τ 4) f r (-1) = 1 ∨ ocn (τ 4) f r (-1) = 2 ∨ ocn (τ 4) f r (-1) = 3
    · simp only [if_pos M] at c d
      exact cal_x 1 c d ⟨by decide, by decide⟩ rfl rfl hW.tt
    · simp only [if_neg M] at c d
      exact cal_0 c d ⟨by decide, by decide⟩ rfl rfl hW.tt
  · simp only [if_neg F] at c d
    exact cal_x 0 c d ⟨by decide, by decide⟩ rfl rfl hW.tt
theorem K_to_0 {f r B : Int} {τ : SZ} (h : WL B τ) (hB : B + 200 ≤ 100000000) (hf : Rng f) (hr : Rng r) : Cal m7_to m8_to [.inr f, .inr r, .inr 0] ["java/lang/IndexOutOfBoundsException", "java/util/NoSuchElementException"] B τ := by
  have hb := h.1.1.1.B
  have hW : WL (B + 200) τ := h.mono (by omega) hB
  have hI := h.1.1
  have hR := h.1.2.2
  have hN : cel (τ 4) 107 = (((cel (τ 4) 107).toNat : Nat) : Int) := by have := hI.1.n; omega
  have c := c_to_0 hf hr hI.1
  obtain ⟨e, d⟩ := d_to_0 hI hR hf hr
  by_cases F : (0 ≤ f ∧ f < cel (τ 4) 107) ∧ (0 ≤ r ∧ r < 2)
  · simp only [if_pos F] at c d
    by_cases M : ocn (τ 4) f r (-1) = 1 ∨ ocn (τ 4) f r (-1) = 2 ∨ ocn (τ 4) f r (-1) = 3
    · simp only [if_pos M] at c d
      exact cal_0 c d ⟨by decide, by decide⟩ rfl rfl hW.tt
    · simp only [if_neg M] at c d
      exact cal_x 1 c d ⟨by decide, by decide⟩ rfl rfl hW.tt
  · simp only [if_neg F] at c d
    exact cal_x 0 c d ⟨by decide, by decide⟩ rfl rfl hW.tt
theorem K_gain_0 {f r B : Int} {τ : SZ} (h : WL B τ) (hB : B + 200 ≤ 100000000) (hf : Rng f) (hr : Rng r) : Cal m7_gain m8_gain [.inr f, .inr r, .inr 0] ["java/lang/IndexOutOfBoundsException", "java/util/NoSuchElementException"] B τ := by
  have hb := h.1.1.1.B
  have hW : WL (B + 200) τ := h.mono (by omega) hB
  have hI := h.1.1
  have hR := h.1.2.2
  have hN : cel (τ 4) 107 = (((cel (τ 4) 107).toNat : Nat) : Int) := by have := hI.1.n; omega
  have hz := h.2.2.2.2.2.2
  have c := c_gain_0 hf hr hI (by omega) hz.1
  by_cases F : (0 ≤ f ∧ f < cel (τ 4) 107) ∧ (0 ≤ r ∧ r < 2)
  · by_cases M : ocn (τ 4) f r (-1) = 1 ∨ ocn (τ 4) f r (-1) = 2 ∨ ocn (τ 4) f r (-1) = 3
    · simp only [if_pos F, if_pos M] at c
      obtain ⟨q, ⟨e, x, hx, rfl⟩, d⟩ := d_gain_0 (τ := zr τ 5 (mkm (τ 4) f r (-1))) hI hR hz.2.2 hf hr (by omega)
      simp only [if_pos F, if_pos M] at d
      have hm := ocn_mv M
      exact cal_0 c d ⟨by decide, by decide⟩ rfl rfl ((hW.t5 (hI.mkm F.1 F.2 (by omega) hm (by omega)).1.tz).t24 hx)
    · simp only [if_pos F, if_neg M] at c
      obtain ⟨q, ⟨e, x, hx, rfl⟩, d⟩ := d_gain_0 (τ := τ) hI hR hz.2.2 hf hr (by omega)
      simp only [if_pos F, if_neg M] at d
      exact cal_x 1 c d ⟨by decide, by decide⟩ rfl rfl (hW.t24 hx)
  · simp only [if_neg F] at c
    obtain ⟨q, ⟨e, x, hx, rfl⟩, d⟩ := d_gain_0 (τ := τ) hI hR hz.2.2 hf hr (by omega)
    simp only [if_neg F] at d
    exact cal_x 0 c d ⟨by decide, by decide⟩ rfl rfl (hW.t24 hx)
theorem K_would_1 {f r B : Int} {τ : SZ} (h : WL B τ) (hB : B + 200 ≤ 100000000) (hf : Rng f) (hr : Rng r) : Cal m7_would m8_would [.inr f, .inr r, .inr 1] ["java/lang/IndexOutOfBoundsException"] B τ := by
  have hb := h.1.1.1.B
  have hW : WL (B + 200) τ := h.mono (by omega) hB
  have hI := h.1.1
  have hR := h.1.2.2
  have hN : cel (τ 4) 107 = (((cel (τ 4) 107).toNat : Nat) : Int) := by have := hI.1.n; omega
  have c := c_would_1 hf hr hI.1
  obtain ⟨e, d⟩ := d_would_1 hI hR hf hr
  by_cases F : (0 ≤ f ∧ f < cel (τ 4) 107) ∧ (0 ≤ r ∧ r < 2)
  · simp only [if_pos F] at c d
    exact cal_0 c d ⟨by decide, by decide⟩ rfl rfl hW.tt
  · simp only [if_neg F] at c d
    exact cal_x 0 c d ⟨by decide, by decide⟩ rfl rfl hW.tt
theorem K_why_1_0 {f r B : Int} {τ : SZ} (h : WL B τ) (hB : B + 200 ≤ 100000000) (hf : Rng f) (hr : Rng r) : Cal m7_why m8_why [.inr f, .inr r, .inr 1, .inr 0] ["java/lang/IndexOutOfBoundsException", "java/util/NoSuchElementException"] B τ := by
  have hb := h.1.1.1.B
  have hW : WL (B + 200) τ := h.mono (by omega) hB
  have hI := h.1.1
  have hR := h.1.2.2
  have hN : cel (τ 4) 107 = (((cel (τ 4) 107).toNat : Nat) : Int) := by have := hI.1.n; omega
  have c := c_why_1_0 hf hr hI.1
  obtain ⟨e, d⟩ := d_why_1_0 hI hR hf hr
  by_cases F : (0 ≤ f ∧ f < cel (τ 4) 107) ∧ (0 ≤ r ∧ r < 2)
  · simp only [if_pos F] at c d
    by_cases M : ocn (τ 4) f r 1 = 1 ∨ ocn (τ 4) f r 1 = 2 ∨ ocn (τ 4) f r 1 = 3
    · simp only [if_pos M] at c d
      exact cal_x 1 c d ⟨by decide, by decide⟩ rfl rfl hW.tt
    · simp only [if_neg M] at c d
      exact cal_0 c d ⟨by decide, by decide⟩ rfl rfl hW.tt
  · simp only [if_neg F] at c d
    exact cal_x 0 c d ⟨by decide, by decide⟩ rfl rfl hW.tt
theorem K_why_1_1 {f r B : Int} {τ : SZ} (h : WL B τ) (hB : B + 200 ≤ 100000000) (hf : Rng f) (hr : Rng r) : Cal m7_why m8_why [.inr f, .inr r, .inr 1, .inr 1] ["java/lang/IndexOutOfBoundsException", "java/util/NoSuchElementException"] B τ := by
  have hb := h.1.1.1.B
  have hW : WL (B + 200) τ := h.mono (by omega) hB
  have hI := h.1.1
  have hR := h.1.2.2
  have hN : cel (τ 4) 107 = (((cel (τ 4) 107).toNat : Nat) : Int) := by have := hI.1.n; omega
  have c := c_why_1_1 hf hr hI.1
  obtain ⟨e, d⟩ := d_why_1_1 hI hR hf hr
  by_cases F : (0 ≤ f ∧ f < cel (τ 4) 107) ∧ (0 ≤ r ∧ r < 2)
  · simp only [if_pos F] at c d
    by_cases M : ocn (τ 4) f r 1 = 1 ∨ ocn (τ 4) f r 1 = 2 ∨ ocn (τ 4) f r 1 = 3
    · simp only [if_pos M] at c d
      exact cal_x 1 c d ⟨by decide, by decide⟩ rfl rfl hW.tt
    · simp only [if_neg M] at c d
      exact cal_0 c d ⟨by decide, by decide⟩ rfl rfl hW.tt
  · simp only [if_neg F] at c d
    exact cal_x 0 c d ⟨by decide, by decide⟩ rfl rfl hW.tt
theorem K_to_1 {f r B : Int} {τ : SZ} (h : WL B τ) (hB : B + 200 ≤ 100000000) (hf : Rng f) (hr : Rng r) : Cal m7_to m8_to [.inr f, .inr r, .inr 1] ["java/lang/IndexOutOfBoundsException", "java/util/NoSuchElementException"] B τ := by
  have hb := h.1.1.1.B
  have hW : WL (B + 200) τ := h.mono (by omega) hB
  have hI := h.1.1
  have hR := h.1.2.2
  have hN : cel (τ 4) 107 = (((cel (τ 4) 107).toNat : Nat) : Int) := by have := hI.1.n; omega
  have c := c_to_1 hf hr hI.1
  obtain ⟨e, d⟩ := d_to_1 hI hR hf hr
  by_cases F : (0 ≤ f ∧ f < cel (τ 4) 107) ∧ (0 ≤ r ∧ r < 2)
  · simp only [if_pos F] at c d
    by_cases M : ocn (τ 4) f r 1 = 1 ∨ ocn (τ 4) f r 1 = 2 ∨ ocn (τ 4) f r 1 = 3
    · simp only [if_pos M] at c d
      exact cal_0 c d ⟨by decide, by decide⟩ rfl rfl hW.tt
    · simp only [if_neg M] at c d
      exact cal_x 1 c d ⟨by decide, by decide⟩ rfl rfl hW.tt
  · simp only [if_neg F] at c d
    exact cal_x 0 c d ⟨by decide, by decide⟩ rfl rfl hW.tt
theorem K_gain_1 {f r B : Int} {τ : SZ} (h : WL B τ) (hB : B + 200 ≤ 100000000) (hf : Rng f) (hr : Rng r) : Cal m7_gain m8_gain [.inr f, .inr r, .inr 1] ["java/lang/IndexOutOfBoundsException", "java/util/NoSuchElementException"] B τ := by
  have hb := h.1.1.1.B
  have hW : WL (B + 200) τ := h.mono (by omega) hB
  have hI := h.1.1
  have hR := h.1.2.2
  have hN : cel (τ 4) 107 = (((cel (τ 4) 107).toNat : Nat) : Int) := by have := hI.1.n; omega
  have hz := h.2.2.2.2.2.2
  have c := c_gain_1 hf hr hI (by omega) hz.1
  by_cases F : (0 ≤ f ∧ f < cel (τ 4) 107) ∧ (0 ≤ r ∧ r < 2)
  · by_cases M : ocn (τ 4) f r 1 = 1 ∨ ocn (τ 4) f r 1 = 2 ∨ ocn (τ 4) f r 1 = 3
    · simp only [if_pos F, if_pos M] at c
      obtain ⟨q, ⟨e, x, hx, rfl⟩, d⟩ := d_gain_1 (τ := zr τ 5 (mkm (τ 4) f r 1)) hI hR hz.2.2 hf hr (by omega)
      simp only [if_pos F, if_pos M] at d
      have hm := ocn_mv M
      exact cal_0 c d ⟨by decide, by decide⟩ rfl rfl ((hW.t5 (hI.mkm F.1 F.2 (by omega) hm (by omega)).1.tz).t24 hx)
    · simp only [if_pos F, if_neg M] at c
      obtain ⟨q, ⟨e, x, hx, rfl⟩, d⟩ := d_gain_1 (τ := τ) hI hR hz.2.2 hf hr (by omega)
      simp only [if_pos F, if_neg M] at d
      exact cal_x 1 c d ⟨by decide, by decide⟩ rfl rfl (hW.t24 hx)
  · simp only [if_neg F] at c
    obtain ⟨q, ⟨e, x, hx, rfl⟩, d⟩ := d_gain_1 (τ := τ) hI hR hz.2.2 hf hr (by omega)
    simp only [if_neg F] at d
    exact cal_x 0 c d ⟨by decide, by decide⟩ rfl rfl (hW.t24 hx)
theorem K_moves_0 {x B : Int} {τ : SZ} (h : WL B τ) (hB : B + 200 ≤ 100000000) (hx : Rng x) : Cal m7_moves m8_moves [.inr x, .inr 0] ["java/lang/IllegalArgumentException"] B τ := by
  have hb := h.1.1.1.B
  have hW : WL (B + 200) τ := h.mono (by omega) hB
  have hI := h.1.1
  have hR := h.1.2.2
  have hN : cel (τ 4) 107 = (((cel (τ 4) 107).toNat : Nat) : Int) := by have := hI.1.n; omega
  have c := c_moves_0 hx hI.1 hN
  obtain ⟨e, d⟩ := d_moves_0 hI hR hx
  by_cases F : 0 ≤ x ∧ x < 2
  · simp only [if_pos F] at c d
    exact cal_0 c d ⟨by decide, by decide⟩ rfl rfl hW.tt
  · simp only [if_neg F] at c d
    exact cal_x 0 c d ⟨by decide, by decide⟩ rfl rfl hW.tt
theorem K_captures_0 {x B : Int} {τ : SZ} (h : WL B τ) (hB : B + 200 ≤ 100000000) (hx : Rng x) : Cal m7_captures m8_captures [.inr x, .inr 0] ["java/lang/IllegalArgumentException"] B τ := by
  have hb := h.1.1.1.B
  have hW : WL (B + 200) τ := h.mono (by omega) hB
  have hI := h.1.1
  have hR := h.1.2.2
  have hN : cel (τ 4) 107 = (((cel (τ 4) 107).toNat : Nat) : Int) := by have := hI.1.n; omega
  have c := c_captures_0 hx hI.1 hN
  obtain ⟨e, d⟩ := d_captures_0 hI hR hx
  by_cases F : 0 ≤ x ∧ x < 2
  · simp only [if_pos F] at c d
    exact cal_0 c d ⟨by decide, by decide⟩ rfl rfl hW.tt
  · simp only [if_neg F] at c d
    exact cal_x 0 c d ⟨by decide, by decide⟩ rfl rfl hW.tt
theorem K_moves_1 {x B : Int} {τ : SZ} (h : WL B τ) (hB : B + 200 ≤ 100000000) (hx : Rng x) : Cal m7_moves m8_moves [.inr x, .inr 1] ["java/lang/IllegalArgumentException"] B τ := by
  have hb := h.1.1.1.B
  have hW : WL (B + 200) τ := h.mono (by omega) hB
  have hI := h.1.1
  have hR := h.1.2.2
  have hN : cel (τ 4) 107 = (((cel (τ 4) 107).toNat : Nat) : Int) := by have := hI.1.n; omega
  have c := c_moves_1 hx hI.1 hN
  obtain ⟨e, d⟩ := d_moves_1 hI hR hx
  by_cases F : 0 ≤ x ∧ x < 2
  · simp only [if_pos F] at c d
    exact cal_0 c d ⟨by decide, by decide⟩ ((mbf_mbp hI hN).symm) rfl hW.tt
  · simp only [if_neg F] at c d
    exact cal_x 0 c d ⟨by decide, by decide⟩ rfl rfl hW.tt
theorem K_captures_1 {x B : Int} {τ : SZ} (h : WL B τ) (hB : B + 200 ≤ 100000000) (hx : Rng x) : Cal m7_captures m8_captures [.inr x, .inr 1] ["java/lang/IllegalArgumentException"] B τ := by
  have hb := h.1.1.1.B
  have hW : WL (B + 200) τ := h.mono (by omega) hB
  have hI := h.1.1
  have hR := h.1.2.2
  have hN : cel (τ 4) 107 = (((cel (τ 4) 107).toNat : Nat) : Int) := by have := hI.1.n; omega
  have c := c_captures_1 hx hI.1 hN
  obtain ⟨e, d⟩ := d_captures_1 hI hR hx
  by_cases F : 0 ≤ x ∧ x < 2
  · simp only [if_pos F] at c d
    exact cal_0 c d ⟨by decide, by decide⟩ ((cbj_cbd hI F hN).symm) rfl hW.tt
  · simp only [if_neg F] at c d
    exact cal_x 0 c d ⟨by decide, by decide⟩ rfl rfl hW.tt
theorem K_isThreatened {f B : Int} {τ : SZ} (h : WL B τ) (hB : B + 200 ≤ 100000000) (hf : Rng f) : Cal m7_isThreatened m8_isThreatened [.inr f] ["java/lang/IndexOutOfBoundsException"] B τ := by
  have hb := h.1.1.1.B
  have hW : WL (B + 200) τ := h.mono (by omega) hB
  have hI := h.1.1
  have hR := h.1.2.2
  have hN : cel (τ 4) 107 = (((cel (τ 4) 107).toNat : Nat) : Int) := by have := hI.1.n; omega
  have c := c_isThreatened hf hI.1
  by_cases F : 0 ≤ f ∧ f < cel (τ 4) 107
  · simp only [if_pos F] at c
    obtain ⟨e, d⟩ := m_isThreatened (τ := τ) hI hR F
    exact cal_0 c d ⟨by decide, by decide⟩ (thv_jov hI F hN).symm rfl hW.dth
  · simp only [if_neg F] at c
    have d := m_isThreatened_x (τ := τ) hI hR hf F
    exact cal_x 0 c d ⟨by decide, by decide⟩ rfl rfl hW.th
theorem K_best_0 {B : Int} {τ : SZ} (h : WL B τ) (hB : B + 200 ≤ 100000000) : Cal m7_best m8_best [.inr 0] ["java/lang/IllegalArgumentException", "java/util/NoSuchElementException"] B τ := by
  have hb := h.1.1.1.B
  have hW : WL (B + 200) τ := h.mono (by omega) hB
  have hI := h.1.1
  have hR := h.1.2.2
  have hN : cel (τ 4) 107 = (((cel (τ 4) 107).toNat : Nat) : Int) := by have := hI.1.n; omega
  have hz := h.2.2.2.2.2.2
  have hn := hI.1.n
  have c := c_best_0 hI (by omega) hz.1
  have hT := bsd_tz hI (by omega) hz.1 (4 * cel (τ 4) 107).toNat (by omega)
  obtain ⟨q, ⟨e, x, hx, rfl⟩, d⟩ := d_best_0 (τ := zr τ 5 (bsd (τ 4) (τ 5) (4 * cel (τ 4) 107).toNat)) hI hR (M := (4 * cel (τ 4) 107).toNat) (by omega) hz.2.2 (by omega)
  by_cases F : (bsb (τ 4) (4 * cel (τ 4) 107).toNat).1 < 0
  · simp only [if_pos F] at c d
    exact cal_x 1 c d ⟨by decide, by decide⟩ rfl rfl ((hW.t5 hT).t24 hx)
  · simp only [if_neg F] at c d
    exact cal_0 c d ⟨by decide, by decide⟩ rfl rfl ((hW.t5 hT).t24 hx)
theorem K_best_1 {B : Int} {τ : SZ} (h : WL B τ) (hB : B + 200 ≤ 100000000) : Cal m7_best m8_best [.inr 1] ["java/lang/IllegalArgumentException", "java/util/NoSuchElementException"] B τ := by
  have hb := h.1.1.1.B
  have hW : WL (B + 200) τ := h.mono (by omega) hB
  have hI := h.1.1
  have hR := h.1.2.2
  have hN : cel (τ 4) 107 = (((cel (τ 4) 107).toNat : Nat) : Int) := by have := hI.1.n; omega
  have hz := h.2.2.2.2.2.2
  have hn := hI.1.n
  have c := c_best_1 hI (by omega) hz.1
  have hT := bsd_tz hI (by omega) hz.1 (4 * cel (τ 4) 107).toNat (by omega)
  obtain ⟨q, ⟨e, x, hx, rfl⟩, d⟩ := d_best_1 (τ := zr τ 5 (bsd (τ 4) (τ 5) (4 * cel (τ 4) 107).toNat)) hI hR (M := (4 * cel (τ 4) 107).toNat) (by omega) hz.2.2 (by omega)
  by_cases F : (bsb (τ 4) (4 * cel (τ 4) 107).toNat).1 < 0
  · simp only [if_pos F] at c d
    exact cal_x 1 c d ⟨by decide, by decide⟩ rfl rfl ((hW.t5 hT).t24 hx)
  · simp only [if_neg F] at c d
    exact cal_0 c d ⟨by decide, by decide⟩ rfl rfl ((hW.t5 hT).t24 hx)
theorem K_best_2 {B : Int} {τ : SZ} (h : WL B τ) (hB : B + 200 ≤ 100000000) : Cal m7_best m8_best [.inr 2] ["java/lang/IllegalArgumentException", "java/util/NoSuchElementException"] B τ := by
  have hb := h.1.1.1.B
  have hW : WL (B + 200) τ := h.mono (by omega) hB
  have hI := h.1.1
  have hR := h.1.2.2
  have hN : cel (τ 4) 107 = (((cel (τ 4) 107).toNat : Nat) : Int) := by have := hI.1.n; omega
  have hz := h.2.2.2.2.2.2
  have hn := hI.1.n
  have c := c_best_2 hI (by omega) hz.1
  have hT := bsd_tz hI (by omega) hz.1 (4 * cel (τ 4) 107).toNat (by omega)
  obtain ⟨q, ⟨e, x, hx, rfl⟩, d⟩ := d_best_2 (τ := zr τ 5 (bsd (τ 4) (τ 5) (4 * cel (τ 4) 107).toNat)) hI hR (M := (4 * cel (τ 4) 107).toNat) (by omega) hz.2.2 (by omega)
  by_cases F : (bsb (τ 4) (4 * cel (τ 4) 107).toNat).1 < 0
  · simp only [if_pos F] at c d
    exact cal_x 1 c d ⟨by decide, by decide⟩ rfl rfl ((hW.t5 hT).t24 hx)
  · simp only [if_neg F] at c d
    exact cal_0 c d ⟨by decide, by decide⟩ rfl rfl ((hW.t5 hT).t24 hx)
theorem K_best_x {w B : Int} {τ : SZ} (h : WL B τ) (hB : B + 200 ≤ 100000000) (hw : Rng w) (hx : ¬ (0 ≤ w ∧ w ≤ 2)) : Cal m7_best m8_best [.inr w] ["java/lang/IllegalArgumentException", "java/util/NoSuchElementException"] B τ := by
  have hb := h.1.1.1.B
  have hW : WL (B + 200) τ := h.mono (by omega) hB
  have hI := h.1.1
  have hR := h.1.2.2
  have hN : cel (τ 4) 107 = (((cel (τ 4) 107).toNat : Nat) : Int) := by have := hI.1.n; omega
  have hz := h.2.2.2.2.2.2
  have c := c_best_x (τ := τ) hw hx
  obtain ⟨q, ⟨e, x, hx2, rfl⟩, d⟩ := d_best_x (τ := τ) hz.2.2 hw hx
  exact cal_x 0 c d ⟨by decide, by decide⟩ rfl rfl (hW.t24 hx2)
theorem K_toLock {f r B : Int} {τ : SZ} (h : WL B τ) (hB : B + 200 ≤ 100000000) (hf : Rng f) (hr : Rng r) : Cal m7_toLock m8_toLock [.inr f, .inr r] ["java/lang/IndexOutOfBoundsException", "java/util/NoSuchElementException"] B τ := by
  have hb := h.1.1.1.B
  have hW : WL (B + 200) τ := h.mono (by omega) hB
  have hI := h.1.1
  have hR := h.1.2.2
  have hN : cel (τ 4) 107 = (((cel (τ 4) 107).toNat : Nat) : Int) := by have := hI.1.n; omega
  have c := c_toLock hf hr hI.1
  have d := d_toLock hI hR hf hr
  by_cases F : (0 ≤ f ∧ f < cel (τ 4) 107) ∧ (0 ≤ r ∧ r < 2)
  · simp only [if_pos F] at c d
    by_cases W : wtl (τ 4) f r 11 = 0
    · simp only [if_pos W] at c d
      exact cal_x 1 c d ⟨by decide, by decide⟩ rfl rfl hW.th
    · simp only [if_neg W] at c d
      exact cal_0 c d ⟨by decide, by decide⟩ rfl rfl hW.th
  · simp only [if_neg F] at c d
    exact cal_x 0 c d ⟨by decide, by decide⟩ rfl rfl hW.th
theorem K_boldest {p B : Int} {τ : SZ} (h : WL B τ) (hB : B + 200 ≤ 100000000) (hp : Rng p) : Cal m7_boldest m8_boldest [.inr p] ["java/util/NoSuchElementException"] B τ := by
  have hb := h.1.1.1.B
  have hW : WL (B + 200) τ := h.mono (by omega) hB
  have hI := h.1.1
  have hR := h.1.2.2
  have hN : cel (τ 4) 107 = (((cel (τ 4) 107).toNat : Nat) : Int) := by have := hI.1.n; omega
  have c := c_boldest hp hI.1 hN
  by_cases F : 0 ≤ p ∧ p < cel (τ 4) 107
  · have q := ord_is (key := fun k => bdn (τ 4) (k : Int)) (p := p) (N := (cel (τ 4) 107).toNat) (by omega)
    simp only [if_neg q.2] at c
    have d := d_boldest (τ := τ) hI hR hp F
    exact cal_0 c d ⟨by decide, by decide⟩ q.1 rfl hW.th
  · have q := ord_no (key := fun k => bdn (τ 4) (k : Int)) (p := p) (N := (cel (τ 4) 107).toNat) (by omega)
    simp only [if_pos q] at c
    have d := d_boldest_x (τ := τ) hI hR hp F
    exact cal_x 0 c d ⟨by decide, by decide⟩ rfl rfl hW.th
theorem K_farthest {p B : Int} {τ : SZ} (h : WL B τ) (hB : B + 200 ≤ 100000000) (hp : Rng p) : Cal m7_farthest m8_farthest [.inr p] ["java/util/NoSuchElementException"] B τ := by
  have hb := h.1.1.1.B
  have hW : WL (B + 200) τ := h.mono (by omega) hB
  have hI := h.1.1
  have hR := h.1.2.2
  have hN : cel (τ 4) 107 = (((cel (τ 4) 107).toNat : Nat) : Int) := by have := hI.1.n; omega
  have c := c_farthest hp hI.1 hN
  by_cases F : 0 ≤ p ∧ p < cel (τ 4) 107
  · have q := ord_is (key := fun k => wcm (τ 4) (k : Int)) (p := p) (N := (cel (τ 4) 107).toNat) (by omega)
    simp only [if_neg q.2] at c
    have d := d_farthest (τ := τ) hI hR hp F
    exact cal_0 c d ⟨by decide, by decide⟩ q.1 rfl hW.th
  · have q := ord_no (key := fun k => wcm (τ 4) (k : Int)) (p := p) (N := (cel (τ 4) 107).toNat) (by omega)
    simp only [if_pos q] at c
    have d := d_farthest_x (τ := τ) hI hR hp F
    exact cal_x 0 c d ⟨by decide, by decide⟩ rfl rfl hW.th
theorem WL.line {B : Int} {τ : SZ} (h : WL B τ) {l : List Int} (hl : l.length ≤ 12) (hv : ∀ v, v ∈ l → 0 ≤ v ∧ v < 65536) : WL B (lnm (Jvm.Pilot.CFerryDraughtsLaw_law_r9972_b515da.th (lns τ l) 0) l) := by
  obtain ⟨a1, a2, a3, a4, a5, ⟨b1, b2', b3, b4, b5⟩, a7⟩ := h
  have hch : ∀ (b : Nat → Int), (∀ i, 0 ≤ b i ∧ b i < 65536) → ∀ i, 0 ≤ lnl b l i ∧ lnl b l i < 65536 := fun b hb i => by
    unfold lnl
    split
    next q => exact hv _ (getD_mem q)
    next => exact hb i
  refine ⟨a1, a2.of rfl rfl rfl rfl, a3.of rfl rfl rfl rfl, a4.of rfl rfl rfl rfl, a5.of rfl rfl rfl rfl rfl rfl, ⟨rfl, ⟨?_, ?_⟩, hch _ b3, hch _ b4, fun i hi => ?_⟩, a7⟩
  · show 0 ≤ (l.length : Int); omega
  · show (l.length : Int) ≤ 12; omega
  · have hi2 : (i : Int) < (l.length : Int) := hi
    show lnl (τ 28) l i = lnl (τ 20) l i
    unfold lnl
    rw [if_pos (by omega), if_pos (by omega)]
theorem rvl_ch {B : Int} {c : Nat → Int} (hI : Iv B c) {r : Int} (hr : 0 ≤ r ∧ r < 2) : ∀ (k : Nat) (v : Int), v ∈ rvl c r k → 0 ≤ v ∧ v < 65536
  | 0, v, h => absurd h (by simp [rvl])
  | k + 1, v, h => by
    have h : v ∈ rvl c r k ++ [chr c r (k : Int)] := h
    rcases List.mem_append.mp h with h | h
    · exact rvl_ch hI hr k v h
    · rw [List.mem_singleton.mp h]
      have hw := hI.1.wh (p := (k : Int)) hr
      have hl : 0 ≤ whz c r (k : Int) → 60 ≤ ltr c (whz c r (k : Int)) ∧ ltr c (whz c r (k : Int)) < 200 := fun q => ltr_in (by omega)
      unfold chr
      repeat (first | omega | split)
theorem pll_ch {p : Int} (hp : 0 ≤ p ∧ p < 20) : ∀ v, v ∈ pll p → 0 ≤ v ∧ v < 65536 := by
  intro v h
  unfold pll at h
  split at h
  · rcases List.mem_cons.mp h with q | q
    · omega
    · have := List.mem_singleton.mp q; omega
  · have := List.mem_singleton.mp h; omega
theorem fll_ch {B : Int} {c : Nat → Int} (hI : Iv B c) {f : Int} (hf : 0 ≤ f ∧ f < 8) : (fll c f).length ≤ 12 ∧ ∀ v, v ∈ fll c f → 0 ≤ v ∧ v < 65536 := by
  have hp1 := hI.1.p1 hf
  have hp2 := hI.1.p2 hf
  have hsd := hI.1.sd hf
  have hl := ltr_in (c := c) (f := f) (by omega)
  have k1 := pll_len (cel c (0 + f * 6 + 1))
  have k2 := pll_len (cel c (0 + f * 6 + 2))
  unfold fll
  refine ⟨?_, fun v h => ?_⟩
  · simp only [List.length_append, List.length_cons, List.length_nil]; omega
  · rcases List.mem_append.mp h with h | h
    · rcases List.mem_append.mp h with h | h
      · rcases List.mem_append.mp h with h | h
        · rcases List.mem_append.mp h with h | h
          · rcases List.mem_append.mp h with h | h
            · rcases List.mem_append.mp h with h | h
              · exact absurd h (by simp)
              · have := List.mem_singleton.mp h; omega
            · have := List.mem_singleton.mp h; omega
          · have := List.mem_singleton.mp h; omega
        · exact pll_ch (by omega) v h
      · have := List.mem_singleton.mp h; omega
    · exact pll_ch (by omega) v h
theorem K_riverLine {r B : Int} {τ : SZ} (h : WL B τ) (hB : B + 200 ≤ 100000000) (hr : Rng r) : Cal m7_riverLine m8_riverLine [.inr r] ["java/lang/IndexOutOfBoundsException"] B τ := by
  have hb := h.1.1.1.B
  have hW : WL (B + 200) τ := h.mono (by omega) hB
  have hI := h.1.1
  have hR := h.1.2.2
  have hN : cel (τ 4) 107 = (((cel (τ 4) 107).toNat : Nat) : Int) := by have := hI.1.n; omega
  have c := c_riverLine hr hI.1
  by_cases F : 0 ≤ r ∧ r < 2
  · simp only [if_pos F] at c
    have d := d_riverLine (τ := lns τ (rvl (τ 4) r 12)) hI hR hr
    simp only [if_pos F] at d
    exact cal_0 c d ⟨by decide, by decide⟩ rfl rfl (hW.line (by rw [rvl_len]; exact Nat.le_refl 12) (rvl_ch hI F 12))
  · simp only [if_neg F] at c
    have d := d_riverLine (τ := τ) hI hR hr
    simp only [if_neg F] at d
    exact cal_x 0 c d ⟨by decide, by decide⟩ rfl rfl hW.th
theorem K_ferryLine {f B : Int} {τ : SZ} (h : WL B τ) (hB : B + 200 ≤ 100000000) (hf : Rng f) : Cal m7_ferryLine m8_ferryLine [.inr f] ["java/lang/IndexOutOfBoundsException"] B τ := by
  have hb := h.1.1.1.B
  have hW : WL (B + 200) τ := h.mono (by omega) hB
  have hI := h.1.1
  have hR := h.1.2.2
  have hN : cel (τ 4) 107 = (((cel (τ 4) 107).toNat : Nat) : Int) := by have := hI.1.n; omega
  have hn := hI.1.n
  have c := c_ferryLine hf hI.1
  by_cases F : 0 ≤ f ∧ f < cel (τ 4) 107
  · simp only [if_pos F] at c
    have d := d_ferryLine (τ := lns τ (fll (τ 4) f)) hI hR hf
    simp only [if_pos F] at d
    have q := fll_ch hI (f := f) (by omega)
    exact cal_0 c d ⟨by decide, by decide⟩ rfl rfl (hW.line q.1 q.2)
  · simp only [if_neg F] at c
    have d := d_ferryLine (τ := τ) hI hR hf
    simp only [if_neg F] at d
    exact cal_x 0 c d ⟨by decide, by decide⟩ rfl rfl hW.th
theorem K_character {z B : Int} {τ : SZ} (h : WL B τ) (hB : B + 200 ≤ 100000000) (hz : Rng z) : Cal m7_character m8_character [.inr z] ["java/lang/IndexOutOfBoundsException"] B τ := by
  have hb := h.1.1.1.B
  have hW : WL (B + 200) τ := h.mono (by omega) hB
  have hI := h.1.1
  have hR := h.1.2.2
  have hN : cel (τ 4) 107 = (((cel (τ 4) 107).toNat : Nat) : Int) := by have := hI.1.n; omega
  obtain ⟨l1, l2, l3, l4, l5⟩ := h.2.2.2.2.2.1
  have c := c_character hz l2 l3
  obtain ⟨e, d⟩ := d_character (τ := τ) hz (by rw [l1]; omega) l4
  rw [l1] at d
  by_cases F : 0 ≤ z ∧ z < τ 19 1
  · simp only [if_pos F] at c d
    exact cal_0 c d ⟨by decide, by decide⟩ ((l5 z.toNat (by omega)).symm) rfl hW.tt
  · simp only [if_neg F] at c d
    exact cal_x 0 c d ⟨by decide, by decide⟩ rfl rfl hW.tt
theorem WL.app {B : Int} {τ : SZ} (h : WL B τ) {v : Int} (hv : 0 ≤ v ∧ v < 65536) (h6 : ¬ τ 16 1 = 60) : WL B (zr (zr (tad τ v) 21 (zu (zu ((tad τ v) 21) 7 0) 14 ((tad τ v) 21 14 + 1))) 29 (zu ((tad τ v) 29) ((tad τ v) 21 14).toNat v)) := by
  obtain ⟨a1, a2, a3, a4, ⟨b1, b2', b3, b4, b5, b6, b7⟩, a6, a7⟩ := h
  have hz : ∀ (f : Nat → Int), (∀ i, 0 ≤ f i ∧ f i < 65536) → ∀ n i, 0 ≤ zu f n v i ∧ zu f n v i < 65536 := fun f hf n i => by
    unfold zu
    split
    · exact hv
    · exact hf i
  refine ⟨a1, a2.of rfl rfl rfl rfl, a3.of rfl rfl rfl rfl, a4.of rfl rfl rfl rfl, ⟨?_, ?_, hz _ b3 _, hz _ b4 _, fun i hi => ?_, b6, b7⟩, a6.of rfl rfl rfl rfl, a7⟩
  · show τ 21 14 + 1 = τ 16 1 + 1; rw [b1]
  · show 0 ≤ τ 16 1 + 1 ∧ τ 16 1 + 1 ≤ 60; omega
  · have hi : (i : Int) < τ 16 1 + 1 := hi
    show zu (τ 29) (τ 21 14).toNat v i = zu (τ 17) (τ 16 1).toNat v i
    rw [b1]
    by_cases q : i = (τ 16 1).toNat
    · rw [q, zu_at, zu_at]
    · rw [zu_ne q, zu_ne q]; exact b5 i (by omega)
theorem K_append {v B : Int} {τ : SZ} (h : WL B τ) (hB : B + 200 ≤ 100000000) (hv : 0 ≤ v ∧ v < 65536) : Cal m7_append m8_append [.inr v] ["java/lang/IllegalStateException"] B τ := by
  have hb := h.1.1.1.B
  have hW : WL (B + 200) τ := h.mono (by omega) hB
  have hI := h.1.1
  have hR := h.1.2.2
  have hN : cel (τ 4) 107 = (((cel (τ 4) 107).toNat : Nat) : Int) := by have := hI.1.n; omega
  obtain ⟨b1, b2', b3, b4, b5, b6, b7⟩ := h.2.2.2.2.1
  have c := c_append (τ := τ) hv ⟨b2', b3⟩
  by_cases F : τ 16 1 = 60
  · simp only [if_pos F] at c
    have d := d_append (v := v) (τ := τ) (by rw [b1]; exact b2') hv
    rw [b1] at d
    simp only [if_pos F] at d
    exact cal_x 0 c d ⟨by decide, by decide⟩ rfl rfl hW.th
  · simp only [if_neg F] at c
    have e14 : (tad τ v) 21 14 = τ 16 1 := b1
    have d := d_append (v := v) (τ := tad τ v) (by rw [e14]; exact b2') hv
    rw [if_neg (by rw [e14]; exact F)] at d
    exact cal_0 c d ⟨by decide, by decide⟩ (by rw [e14]) rfl (hW.app hv F)
theorem K_errorPosition {B : Int} {τ : SZ} (h : WL B τ) (hB : B + 200 ≤ 100000000) : Cal m7_errorPosition m8_errorPosition [] [] B τ := by
  have hb := h.1.1.1.B
  have hW : WL (B + 200) τ := h.mono (by omega) hB
  have hI := h.1.1
  have hR := h.1.2.2
  have hN : cel (τ 4) 107 = (((cel (τ 4) 107).toNat : Nat) : Int) := by have := hI.1.n; omega
  obtain ⟨b1, b2', b3, b4, b5, b6, b7⟩ := h.2.2.2.2.1
  have c := c_errorPosition (τ := τ)
  obtain ⟨e, d⟩ := d_errorPosition (τ := τ)
  exact cal_0 c d ⟨by decide, by decide⟩ b7.symm rfl hW.tt
theorem K_refusal_0 {z B : Int} {τ : SZ} (h : WL B τ) (hB : B + 200 ≤ 100000000) (hz : Rng z) : Cal m7_refusal m8_refusal [.inr z, .inr 0] ["java/lang/IllegalArgumentException", "java/util/NoSuchElementException"] B τ := by
  have hb := h.1.1.1.B
  have hW : WL (B + 200) τ := h.mono (by omega) hB
  have hI := h.1.1
  have hR := h.1.2.2
  have hN : cel (τ 4) 107 = (((cel (τ 4) 107).toNat : Nat) : Int) := by have := hI.1.n; omega
  obtain ⟨l, l1, l2, l3, l4, l5⟩ := h.2.2.2.1
  have c := c_refusal_0 (τ := τ) hz (by omega)
  obtain ⟨e, d⟩ := d_refusal_0 (τ := τ) hz l5
  by_cases Z : z < 0
  · simp only [if_pos Z] at c
    simp only [if_pos Z] at d
    exact cal_x 0 c d ⟨by decide, by decide⟩ rfl rfl hW.tt
  · simp only [if_neg Z] at c
    by_cases W : τ 9 2 ≤ z
    · simp only [if_pos W] at c
      have q : 2 < z ∨ τ 27 (2 * z).toNat = 0 := by
        by_cases q : 2 < z
        · exact Or.inl q
        · have a := (l4 z.toNat (by omega)).1
          rw [show 2 * z.toNat = (2 * z).toNat from by omega, List.getD_eq_getElem?_getD, List.getElem?_eq_none (by omega)] at a
          exact Or.inr a
      have q2 : z < 0 ∨ 2 < z ∨ τ 27 (2 * z).toNat = 0 := Or.inr q
      simp only [if_neg Z, if_pos q] at d
      exact cal_x 1 c d ⟨by decide, by decide⟩ rfl rfl hW.tt
    · simp only [if_neg W] at c
      have hl : z.toNat < l.length := by omega
      have a := l4 z.toNat (by omega)
      have a3 := l3 z.toNat hl
      rw [show 2 * z.toNat = (2 * z).toNat from by omega] at a
      have q : ¬ (2 < z ∨ τ 27 (2 * z).toNat = 0) := by rw [a.1]; intro w; rcases w with w | w; omega; exact a3.2.2 w
      have q2 : ¬ (z < 0 ∨ 2 < z ∨ τ 27 (2 * z).toNat = 0) := fun w => w.elim Z q
      simp only [if_neg Z, if_neg q, if_neg q2] at d
      exact cal_0 c d ⟨by decide, by decide⟩ (by rw [a3.1, Int.add_zero, a.1]) rfl hW.tt
theorem K_refusal_1 {z B : Int} {τ : SZ} (h : WL B τ) (hB : B + 200 ≤ 100000000) (hz : Rng z) : Cal m7_refusal m8_refusal [.inr z, .inr 1] ["java/lang/IllegalArgumentException", "java/util/NoSuchElementException"] B τ := by
  have hb := h.1.1.1.B
  have hW : WL (B + 200) τ := h.mono (by omega) hB
  have hI := h.1.1
  have hR := h.1.2.2
  have hN : cel (τ 4) 107 = (((cel (τ 4) 107).toNat : Nat) : Int) := by have := hI.1.n; omega
  obtain ⟨l, l1, l2, l3, l4, l5⟩ := h.2.2.2.1
  have c := c_refusal_1 (τ := τ) hz (by omega)
  obtain ⟨e, d⟩ := d_refusal_1 (τ := τ) hz l5
  by_cases Z : z < 0
  · simp only [if_pos Z] at c
    simp only [if_pos Z] at d
    exact cal_x 0 c d ⟨by decide, by decide⟩ rfl rfl hW.tt
  · simp only [if_neg Z] at c
    by_cases W : τ 9 2 ≤ z
    · simp only [if_pos W] at c
      have q : 2 < z ∨ τ 27 (2 * z).toNat = 0 := by
        by_cases q : 2 < z
        · exact Or.inl q
        · have a := (l4 z.toNat (by omega)).1
          rw [show 2 * z.toNat = (2 * z).toNat from by omega, List.getD_eq_getElem?_getD, List.getElem?_eq_none (by omega)] at a
          exact Or.inr a
      have q2 : z < 0 ∨ 2 < z ∨ τ 27 (2 * z).toNat = 0 := Or.inr q
      simp only [if_neg Z, if_pos q] at d
      exact cal_x 1 c d ⟨by decide, by decide⟩ rfl rfl hW.tt
    · simp only [if_neg W] at c
      have hl : z.toNat < l.length := by omega
      have a := l4 z.toNat (by omega)
      have a3 := l3 z.toNat hl
      rw [show 2 * z.toNat = (2 * z).toNat from by omega] at a
      have q : ¬ (2 < z ∨ τ 27 (2 * z).toNat = 0) := by rw [a.1]; intro w; rcases w with w | w; omega; exact a3.2.2 w
      have q2 : ¬ (z < 0 ∨ 2 < z ∨ τ 27 (2 * z).toNat = 0) := fun w => w.elim Z q
      simp only [if_neg Z, if_neg q, if_neg q2] at d
      exact cal_0 c d ⟨by decide, by decide⟩ (by rw [a3.2.1, show (2 * z + 1).toNat = (2 * z).toNat + 1 from by omega, a.2 hl]) rfl hW.tt
theorem K_account_0 {B : Int} {τ : SZ} (h : WL B τ) (hB : B + 200 ≤ 100000000) : Cal m7_account m8_account [.inr 0] ["java/lang/IllegalArgumentException"] B τ := by
  have hb := h.1.1.1.B
  have hW : WL (B + 200) τ := h.mono (by omega) hB
  have hI := h.1.1
  have hR := h.1.2.2
  have hN : cel (τ 4) 107 = (((cel (τ 4) 107).toNat : Nat) : Int) := by have := hI.1.n; omega
  have c := c_account_0 hI.1 hN
  obtain ⟨e, d⟩ := d_account_0 hI hR
  exact cal_0 c d ⟨by decide, by decide⟩ rfl rfl hW.tt
theorem K_account_1 {B : Int} {τ : SZ} (h : WL B τ) (hB : B + 200 ≤ 100000000) : Cal m7_account m8_account [.inr 1] ["java/lang/IllegalArgumentException"] B τ := by
  have hb := h.1.1.1.B
  have hW : WL (B + 200) τ := h.mono (by omega) hB
  have hI := h.1.1
  have hR := h.1.2.2
  have hN : cel (τ 4) 107 = (((cel (τ 4) 107).toNat : Nat) : Int) := by have := hI.1.n; omega
  have c := c_account_1 hI.1 hN
  obtain ⟨e, d⟩ := d_account_1 hI hR
  exact cal_0 c d ⟨by decide, by decide⟩ rfl rfl hW.tt
theorem K_account_2 {B : Int} {τ : SZ} (h : WL B τ) (hB : B + 200 ≤ 100000000) : Cal m7_account m8_account [.inr 2] ["java/lang/IllegalArgumentException"] B τ := by
  have hb := h.1.1.1.B
  have hW : WL (B + 200) τ := h.mono (by omega) hB
  have hI := h.1.1
  have hR := h.1.2.2
  have hN : cel (τ 4) 107 = (((cel (τ 4) 107).toNat : Nat) : Int) := by have := hI.1.n; omega
  have c := c_account_2 hI.1 hN
  obtain ⟨e, d⟩ := d_account_2 hI hR
  exact cal_0 c d ⟨by decide, by decide⟩ (kng hI hN) rfl hW.tt
theorem K_account_3 {B : Int} {τ : SZ} (h : WL B τ) (hB : B + 200 ≤ 100000000) : Cal m7_account m8_account [.inr 3] ["java/lang/IllegalArgumentException"] B τ := by
  have hb := h.1.1.1.B
  have hW : WL (B + 200) τ := h.mono (by omega) hB
  have hI := h.1.1
  have hR := h.1.2.2
  have hN : cel (τ 4) 107 = (((cel (τ 4) 107).toNat : Nat) : Int) := by have := hI.1.n; omega
  have c := c_account_3 hI.1 hN
  obtain ⟨e, d⟩ := d_account_3 hI hR
  exact cal_0 c d ⟨by decide, by decide⟩ rfl rfl hW.tt
theorem K_account_4 {B : Int} {τ : SZ} (h : WL B τ) (hB : B + 200 ≤ 100000000) : Cal m7_account m8_account [.inr 4] ["java/lang/IllegalArgumentException"] B τ := by
  have hb := h.1.1.1.B
  have hW : WL (B + 200) τ := h.mono (by omega) hB
  have hI := h.1.1
  have hR := h.1.2.2
  have hN : cel (τ 4) 107 = (((cel (τ 4) 107).toNat : Nat) : Int) := by have := hI.1.n; omega
  have c := c_account_4 hI.1 hN
  obtain ⟨e, d⟩ := d_account_4 hI hR
  exact cal_0 c d ⟨by decide, by decide⟩ lck24 rfl hW.tt
theorem K_account_5 {B : Int} {τ : SZ} (h : WL B τ) (hB : B + 200 ≤ 100000000) : Cal m7_account m8_account [.inr 5] ["java/lang/IllegalArgumentException"] B τ := by
  have hb := h.1.1.1.B
  have hW : WL (B + 200) τ := h.mono (by omega) hB
  have hI := h.1.1
  have hR := h.1.2.2
  have hN : cel (τ 4) 107 = (((cel (τ 4) 107).toNat : Nat) : Int) := by have := hI.1.n; omega
  have c := c_account_5 hI.1 hN
  obtain ⟨e, d⟩ := d_account_5 hI hR
  exact cal_0 c d ⟨by decide, by decide⟩ rfl rfl hW.tt
theorem K_account_6 {B : Int} {τ : SZ} (h : WL B τ) (hB : B + 200 ≤ 100000000) : Cal m7_account m8_account [.inr 6] ["java/lang/IllegalArgumentException"] B τ := by
  have hb := h.1.1.1.B
  have hW : WL (B + 200) τ := h.mono (by omega) hB
  have hI := h.1.1
  have hR := h.1.2.2
  have hN : cel (τ 4) 107 = (((cel (τ 4) 107).toNat : Nat) : Int) := by have := hI.1.n; omega
  have c := c_account_6 hI.1 hN
  obtain ⟨e, d⟩ := d_account_6 hI hR
  exact cal_0 c d ⟨by decide, by decide⟩ rfl rfl hW.tt
theorem K_account_7 {B : Int} {τ : SZ} (h : WL B τ) (hB : B + 200 ≤ 100000000) : Cal m7_account m8_account [.inr 7] ["java/lang/IllegalArgumentException"] B τ := by
  have hb := h.1.1.1.B
  have hW : WL (B + 200) τ := h.mono (by omega) hB
  have hI := h.1.1
  have hR := h.1.2.2
  have hN : cel (τ 4) 107 = (((cel (τ 4) 107).toNat : Nat) : Int) := by have := hI.1.n; omega
  have c := c_account_7 hI.1 hN
  obtain ⟨e, d⟩ := d_account_7 hI hR
  exact cal_0 c d ⟨by decide, by decide⟩ rfl rfl hW.tt
theorem K_account_8 {B : Int} {τ : SZ} (h : WL B τ) (hB : B + 200 ≤ 100000000) : Cal m7_account m8_account [.inr 8] ["java/lang/IllegalArgumentException"] B τ := by
  have hb := h.1.1.1.B
  have hW : WL (B + 200) τ := h.mono (by omega) hB
  have hI := h.1.1
  have hR := h.1.2.2
  have hN : cel (τ 4) 107 = (((cel (τ 4) 107).toNat : Nat) : Int) := by have := hI.1.n; omega
  have c := c_account_8 hI.1 hN
  obtain ⟨e, d⟩ := d_account_8 hI hR
  exact cal_0 c d ⟨by decide, by decide⟩ rfl rfl hW.tt
theorem K_account_9 {B : Int} {τ : SZ} (h : WL B τ) (hB : B + 200 ≤ 100000000) : Cal m7_account m8_account [.inr 9] ["java/lang/IllegalArgumentException"] B τ := by
  have hb := h.1.1.1.B
  have hW : WL (B + 200) τ := h.mono (by omega) hB
  have hI := h.1.1
  have hR := h.1.2.2
  have hN : cel (τ 4) 107 = (((cel (τ 4) 107).toNat : Nat) : Int) := by have := hI.1.n; omega
  have c := c_account_9 hI.1 hN
  obtain ⟨e, d⟩ := d_account_9 hI hR
  exact cal_0 c d ⟨by decide, by decide⟩ rfl rfl hW.tt
theorem K_account_10 {B : Int} {τ : SZ} (h : WL B τ) (hB : B + 200 ≤ 100000000) : Cal m7_account m8_account [.inr 10] ["java/lang/IllegalArgumentException"] B τ := by
  have hb := h.1.1.1.B
  have hW : WL (B + 200) τ := h.mono (by omega) hB
  have hI := h.1.1
  have hR := h.1.2.2
  have hN : cel (τ 4) 107 = (((cel (τ 4) 107).toNat : Nat) : Int) := by have := hI.1.n; omega
  have c := c_account_10 hI.1 hN
  obtain ⟨e, d⟩ := d_account_10 hI hR
  exact cal_0 c d ⟨by decide, by decide⟩ rfl rfl hW.tt
theorem K_account_11 {B : Int} {τ : SZ} (h : WL B τ) (hB : B + 200 ≤ 100000000) : Cal m7_account m8_account [.inr 11] ["java/lang/IllegalArgumentException"] B τ := by
  have hb := h.1.1.1.B
  have hW : WL (B + 200) τ := h.mono (by omega) hB
  have hI := h.1.1
  have hR := h.1.2.2
  have hN : cel (τ 4) 107 = (((cel (τ 4) 107).toNat : Nat) : Int) := by have := hI.1.n; omega
  have c := c_account_11 hI.1 hN
  obtain ⟨e, d⟩ := d_account_11 hI hR
  exact cal_0 c d ⟨by decide, by decide⟩ rfl rfl hW.tt
theorem K_account_12 {B : Int} {τ : SZ} (h : WL B τ) (hB : B + 200 ≤ 100000000) : Cal m7_account m8_account [.inr 12] ["java/lang/IllegalArgumentException"] B τ := by
  have hb := h.1.1.1.B
  have hW : WL (B + 200) τ := h.mono (by omega) hB
  have hI := h.1.1
  have hR := h.1.2.2
  have hN : cel (τ 4) 107 = (((cel (τ 4) 107).toNat : Nat) : Int) := by have := hI.1.n; omega
  have c := c_account_12 hI.1 hN
  obtain ⟨e, d⟩ := d_account_12 hI hR
  exact cal_0 c d ⟨by decide, by decide⟩ h.2.2.2.2.1.1.symm rfl hW.tt
theorem K_account_13 {B : Int} {τ : SZ} (h : WL B τ) (hB : B + 200 ≤ 100000000) : Cal m7_account m8_account [.inr 13] ["java/lang/IllegalArgumentException"] B τ := by
  have hb := h.1.1.1.B
  have hW : WL (B + 200) τ := h.mono (by omega) hB
  have hI := h.1.1
  have hR := h.1.2.2
  have hN : cel (τ 4) 107 = (((cel (τ 4) 107).toNat : Nat) : Int) := by have := hI.1.n; omega
  have c := c_account_13 hI.1 hN
  obtain ⟨e, d⟩ := d_account_13 hI hR
  exact cal_0 c d ⟨by decide, by decide⟩ h.2.1.2.2.1.symm rfl hW.tt
theorem K_account_x {w B : Int} {τ : SZ} (h : WL B τ) (hB : B + 200 ≤ 100000000) (hw : Rng w) (hx : ¬ (0 ≤ w ∧ w ≤ 13)) : Cal m7_account m8_account [.inr w] ["java/lang/IllegalArgumentException"] B τ := by
  have hb := h.1.1.1.B
  have hW : WL (B + 200) τ := h.mono (by omega) hB
  have hI := h.1.1
  have hR := h.1.2.2
  have hN : cel (τ 4) 107 = (((cel (τ 4) 107).toNat : Nat) : Int) := by have := hI.1.n; omega
  have c := c_account_x (τ := τ) hw hx
  obtain ⟨e, d⟩ := d_account_x (τ := τ) hw hx
  exact cal_x 0 c d ⟨by decide, by decide⟩ rfl rfl hW.tt
theorem K_isWell {B : Int} {τ : SZ} (h : WL B τ) (hB : B + 200 ≤ 100000000) : Cal m7_isWell m8_isWell [] [] B τ := by
  have hb := h.1.1.1.B
  have hW : WL (B + 200) τ := h.mono (by omega) hB
  have hI := h.1.1
  have hR := h.1.2.2
  have hN : cel (τ 4) 107 = (((cel (τ 4) 107).toNat : Nat) : Int) := by have := hI.1.n; omega
  have c := c_isWell hI.1 hN ⟨mbf_mbp hI hN, cbj_cbd hI (by omega) hN⟩ ⟨mbf_mbp hI hN, cbj_cbd hI (by omega) hN⟩ (fun k hk => ⟨Co.whp hI (f := (k : Int)) (r := 0) (by omega) (by omega), Co.whp hI (f := (k : Int)) (r := 1) (by omega) (by omega)⟩) hI.2.2
  obtain ⟨e, d⟩ := d_isWell (τ := τ)
  exact cal_0 c d ⟨by decide, by decide⟩ rfl rfl hW.tt
theorem HX.pop {B : Int} {τ τ' : SZ} (h : HX B τ) (h0 : ¬ τ 14 2 = 0) (h14 : τ' 14 1 = (τ 14 1 + 8 - 1) % 8) (h2 : τ' 14 2 = τ 14 2 - 1) (h15 : τ' 15 = τ 15) (h6 : τ' 21 6 = τ 21 6 - 1) (h26 : τ' 26 = τ 26) : HX B τ' := by
  obtain ⟨a1, a2, a3, a4⟩ := h
  refine ⟨by rw [h14]; omega, by rw [h2]; omega, by rw [h6, a3, h2], fun i i0 i1 => ?_⟩
  rw [h2] at i1 ⊢
  rw [h15, h26, h14]
  have k := a4 (i + 1) (by omega) (by omega)
  rw [show (τ 14 1 + 7 - (i + 1)) % 8 = ((τ 14 1 + 8 - 1) % 8 + 7 - i) % 8 from by omega, show τ 14 2 - 1 - (i + 1) = τ 14 2 - 1 - 1 - i from by omega] at k
  exact k
theorem WL.und {B : Int} {τ : SZ} (h : WL B τ) (h0 : ¬ τ 14 2 = 0) : WL B (zr (zr (hpb τ) 21 (zu (zu ((hpb τ) 21) 7 0) 6 ((hpb τ) 21 6 - 1))) 22 (zc ((hpb τ) 26) ((hpb τ) 22) (109 * ((hpb τ) 21 6 - 1)).toNat 0 109)) := by
  obtain ⟨a1, a2, a3, a4, a5, a6, a7⟩ := h
  refine ⟨?_, a2.pop h0 rfl rfl rfl rfl rfl, a3.of rfl rfl rfl rfl, a4.of rfl rfl rfl rfl, a5.of rfl rfl rfl rfl rfl rfl, a6.of rfl rfl rfl rfl, a7⟩
  show Rl B (zc (τ 15) (τ 4) (((τ 14 1 + 8 - 1) % 8) * 109).toNat 0 109) (zc (τ 26) (τ 22) (109 * (τ 21 6 - 1)).toNat 0 109)
  obtain ⟨b1, b2', b3, b4⟩ := a2
  rw [zc_slc a1.1.1.tz, show 109 * (τ 21 6 - 1) = (τ 21 6 - 1) * 109 from by omega, zc_slc a1.2.2.tz, b3]
  have k := b4 0 (by omega) (by omega)
  rw [show (τ 14 1 + 7 - 0) % 8 = (τ 14 1 + 8 - 1) % 8 from by omega, show τ 14 2 - 1 - 0 = τ 14 2 - 1 from by omega] at k
  exact k
theorem WL.sav {B : Int} {τ : SZ} (h : WL B τ) : WL B (zr (zr (zr (zr τ 6 (τ 4)) 0 (zu (τ 0) 9 1)) 21 (zu (zu (τ 21) 7 0) 4 1)) 25 (τ 22)) := by
  obtain ⟨a1, a2, a3, a4, a5, a6, a7⟩ := h
  exact ⟨a1, a2.of rfl rfl rfl rfl, ⟨a1.1.1.tz, a1.2.2.tz, rfl, ⟨show (0 : Int) ≤ 1 by decide, show (1 : Int) ≤ 1 by decide⟩, fun _ => a1⟩, a4.of rfl rfl rfl rfl, a5.of rfl rfl rfl rfl rfl rfl, a6.of rfl rfl rfl rfl, a7⟩
theorem WL.rst {B : Int} {τ : SZ} (h : WL B τ) (h0 : ¬ τ 0 9 = 0) : WL B (zr (zr (zr (zr τ 4 (τ 6)) 14 (zu (τ 14) 2 0)) 21 (zu (zu (τ 21) 7 0) 6 0)) 22 (τ 25)) := by
  obtain ⟨a1, a2, a3, a4, a5, a6, a7⟩ := h
  have k := a3.2.2.2.2 (by have := a3.2.2.2.1; omega)
  exact ⟨k, ⟨a2.1, ⟨show (0 : Int) ≤ 0 by decide, show (0 : Int) ≤ 8 by decide⟩, rfl, fun i i0 i1 => by have i1 : i < 0 := i1; omega⟩, a3.of rfl rfl rfl rfl, a4.of rfl rfl rfl rfl, a5.of rfl rfl rfl rfl rfl rfl, a6.of rfl rfl rfl rfl, a7⟩
theorem K_undo {B : Int} {τ : SZ} (h : WL B τ) (hB : B + 200 ≤ 100000000) : Cal m7_undo m8_undo [] ["java/lang/IllegalStateException"] B τ := by
  have hb := h.1.1.1.B
  have hW : WL (B + 200) τ := h.mono (by omega) hB
  have hI := h.1.1
  have hR := h.1.2.2
  have hN : cel (τ 4) 107 = (((cel (τ 4) 107).toNat : Nat) : Int) := by have := hI.1.n; omega
  obtain ⟨b1, b2', b3, b4⟩ := h.2.1
  have c := c_undo (τ := τ) b1 b2'
  by_cases F : τ 14 2 = 0
  · simp only [if_pos F] at c
    have d := d_undo (τ := τ) (by rw [b3]; exact b2')
    rw [if_pos (by rw [b3]; exact F)] at d
    exact cal_x 0 c d ⟨by decide, by decide⟩ rfl rfl hW.th
  · simp only [if_neg F] at c
    have e6 : (hpb τ) 21 6 = τ 14 2 := b3
    have d := d_undo (τ := hpb τ) (by rw [e6]; exact b2')
    rw [if_neg (by rw [e6]; exact F)] at d
    exact cal_0 c d ⟨by decide, by decide⟩ (by rw [e6]) rfl (hW.und F)
theorem K_save {B : Int} {τ : SZ} (h : WL B τ) (hB : B + 200 ≤ 100000000) : Cal m7_save m8_save [] [] B τ := by
  have hb := h.1.1.1.B
  have hW : WL (B + 200) τ := h.mono (by omega) hB
  have hI := h.1.1
  have hR := h.1.2.2
  have hN : cel (τ 4) 107 = (((cel (τ 4) 107).toNat : Nat) : Int) := by have := hI.1.n; omega
  have s := h.2.2.1
  have c := c_save (τ := τ) hI.1.tz s.1
  have d := d_save (τ := zr (zr τ 6 (τ 4)) 0 (zu (τ 0) 9 1)) hR.tz s.2.1
  exact cal_0 c d ⟨by decide, by decide⟩ (hR.n hI.1.n.1).symm rfl hW.sav
theorem K_restore {B : Int} {τ : SZ} (h : WL B τ) (hB : B + 200 ≤ 100000000) : Cal m7_restore m8_restore [] ["java/lang/IllegalStateException"] B τ := by
  have hb := h.1.1.1.B
  have hW : WL (B + 200) τ := h.mono (by omega) hB
  have hI := h.1.1
  have hR := h.1.2.2
  have hN : cel (τ 4) 107 = (((cel (τ 4) 107).toNat : Nat) : Int) := by have := hI.1.n; omega
  have s := h.2.2.1
  have c := c_restore (τ := τ) hI.1.tz s.1 s.2.2.2.1
  by_cases F : τ 0 9 = 0
  · simp only [if_pos F] at c
    have d := d_restore (τ := τ) hR.tz s.2.1 (by rw [s.2.2.1]; exact s.2.2.2.1)
    rw [if_pos (by rw [s.2.2.1]; exact F)] at d
    exact cal_x 0 c d ⟨by decide, by decide⟩ rfl rfl hW.th
  · simp only [if_neg F] at c
    have e4 : (zr (zr τ 4 (τ 6)) 14 (zu (τ 14) 2 0)) 21 4 = τ 0 9 := s.2.2.1
    have d := d_restore (τ := zr (zr τ 4 (τ 6)) 14 (zu (τ 14) 2 0)) hR.tz s.2.1 (by rw [e4]; exact s.2.2.2.1)
    rw [if_neg (by rw [e4]; exact F)] at d
    have k := s.2.2.2.2 (by have := s.2.2.2.1; omega)
    exact cal_0 c d ⟨by decide, by decide⟩ (k.2.2.n k.1.1.n.1).symm rfl (hW.rst F)
end CAL
