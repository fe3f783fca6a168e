/-! what holds of a row of numbers at every time -/
section INV
def Iv (B : Int) (c : Nat → Int) : Prop := Sh B c ∧ Co c ∧ cel c 106 = cel c 107 + cel c 104
theorem crw_hi {c : Nat → Int} {f r y : Int} (hf : 0 ≤ f ∧ f < 8) (hr : 0 ≤ r ∧ r < 2) (hy : 96 ≤ y) (hy2 : y ≠ 105) : cel (crw c f r) y = cel c y := by
  unfold crw
  split
  · rw [cel_ne (by omega), cel_sus (Or.inr (by omega)) hr, cel_ne (by omega)]
  · rfl
theorem shf_hi {c : Nat → Int} {f r p y : Int} (hf : 0 ≤ f ∧ f < 8) (hr : 0 ≤ r ∧ r < 2) (hy : 72 ≤ y) : cel (shf c f r p) y = cel c y := by
  unfold shf
  rw [cel_ne (by omega), cel_swh (Or.inr (by omega)) hr, cel_swh (Or.inr (by omega)) hr]
theorem mk5_hi {c : Nat → Int} {f r s y : Int} (hf : 0 ≤ f ∧ f < 8) (hr : 0 ≤ r ∧ r < 2) (hy : 98 ≤ y) (h2 : y ≠ 102) (h5 : y ≠ 105) : cel (mk5 c f r s) y = cel c y := by
  unfold mk5 mk4
  rw [drf_hi (by omega), adm_ne (by omega), adm_ne (by omega), crw_hi hf hr (by omega) h5, shf_hi hf hr (by omega)]
theorem sht_hi {c : Nat → Int} {r b p y : Int} (hr : 0 ≤ r ∧ r < 2) (hy : 72 ≤ y) : cel (sht c r b p) y = cel c y := by
  unfold sht
  rw [cel_swh (Or.inr (by omega)) hr, cel_swh (Or.inr (by omega)) hr]
theorem chg_ne {c : Nat → Int} {y : Int} (h : y ≠ 108) : cel (chg c) y = cel c y := cel_ne (by omega)
theorem adm_at {c : Nat → Int} {e m : Int} (h : 0 ≤ e ∧ e < 109) : cel (adm c e m) e = cel c e + m := cel_eq h
/-- what is jumped over, seen behind the move -/
theorem mk5_ov {B : Int} {c : Nat → Int} (hS : Sh B c) {f r s : Int} (hf : 0 ≤ f ∧ f < 8) (hr : 0 ≤ r ∧ r < 2) (hs : s = 1 ∨ s = -1) (hg : (0 ≤ gol c f r s ∧ gol c f r s < 12) ∧ cel c (48 + r * 12 + gol c f r s) = -1) {y : Int} (hy : 48 ≤ y ∧ y < 72) (h1 : y ≠ 48 + r * 12 + cel c (0 + f * 6 + (1 + r))) (h2 : cel c y ≠ -1) : cel (mk5 c f r s) y = cel c y := by
  have hg1 := hg.1
  have ha : cel (shf c f r (gol c f r s)) y = cel c y := by
    rw [cel_shf hf hr hg.1, if_neg (by omega), if_neg (fun q => h2 (by rw [← q]; exact hg.2)), if_neg (fun q => h1 q.1.symm)]
  unfold mk5 mk4
  rw [drf_hi (by omega), adm_ne (by omega), adm_ne (by omega)]
  unfold crw
  split
  · rw [cel_ne (by omega), cel_sus (Or.inl (by omega)) hr, cel_ne (by omega)]; exact ha
  · exact ha
theorem mk5_old {B : Int} {c : Nat → Int} (hS : Sh B c) {f r s : Int} (hf : 0 ≤ f ∧ f < 8) (hr : 0 ≤ r ∧ r < 2) (hg : (0 ≤ gol c f r s ∧ gol c f r s < 12) ∧ cel c (48 + r * 12 + gol c f r s) = -1) (hw : cel c (48 + r * 12 + cel c (0 + f * 6 + (1 + r))) = f) : cel (mk5 c f r s) (48 + r * 12 + cel c (0 + f * 6 + (1 + r))) = -1 := by
  have hp := hS.pl hf hr
  have hg1 := hg.1
  have ha : cel (shf c f r (gol c f r s)) (48 + r * 12 + cel c (0 + f * 6 + (1 + r))) = -1 := by
    rw [cel_shf hf hr hg.1, if_neg (by omega), if_neg (fun q => by rw [← q, hg.2] at hw; omega), if_pos ⟨rfl, by omega⟩]
  unfold mk5 mk4
  rw [drf_hi (by omega), adm_ne (by omega), adm_ne (by omega)]
  unfold crw
  split
  · rw [cel_ne (by omega), cel_sus (Or.inl (by omega)) hr, cel_ne (by omega)]; exact ha
  · exact ha
theorem mk7_eq (c : Nat → Int) (f g : Int) : mk7 c f g = rmv (adm (adm (adm c (100 + (0 + cel c (0 + f * 6 + 0))) (1 + cel c (0 + g * 6 + 3))) (0 + f * 6 + 4) 1) 104 1) g := rfl
theorem mk7_pre {B : Int} {c : Nat → Int} (hS : Sh B c) (hC : Co c) {f g : Int} (hf : 0 ≤ f ∧ f < 8) (hg : 0 ≤ g ∧ g < cel c 107) (hB : B + 4 ≤ 100000000) :
    Sh (B + 4) (adm (adm (adm c (100 + (0 + cel c (0 + f * 6 + 0))) (1 + cel c (0 + g * 6 + 3))) (0 + f * 6 + 4) 1) 104 1) ∧ Co (adm (adm (adm c (100 + (0 + cel c (0 + f * 6 + 0))) (1 + cel c (0 + g * 6 + 3))) (0 + f * 6 + 4) 1) 104 1) := by
  have hs := hS.sd hf
  have hn := hS.n
  have hk := hS.kg (f := g) (by omega)
  have h1 := (hS.kmk7 hf hg hB).1
  have c1 := hC.kadm hS (e := 100 + (0 + cel c (0 + f * 6 + 0))) (m := 1 + cel c (0 + g * 6 + 3)) (Or.inl (by omega))
  have h2 := h1.kadm (e := 0 + f * 6 + 4) (m := 1) (k := 1) (Or.inr (by omega)) (by omega) (by omega)
  have c2 := c1.kadm h1 (e := 0 + f * 6 + 4) (m := 1) (Or.inr (by omega))
  have h3 := h2.kadm (e := 104) (m := 1) (k := 1) (Or.inl (by omega)) (by omega) (by omega)
  have c3 := c2.kadm h2 (e := 104) (m := 1) (Or.inl (by omega))
  exact ⟨h3.mono (by omega) (by omega), c3⟩
theorem Iv.mkm {B : Int} {c : Nat → Int} (h : Iv B c) {f r s : Int} (hf : 0 ≤ f ∧ f < cel c 107) (hr : 0 ≤ r ∧ r < 2) (hs : s = 1 ∨ s = -1) (ho : oco c f r s = 1 ∨ oco c f r s = 2 ∨ oco c f r s = 3) (hB : B + 7 ≤ 100000000) : Iv (B + 7) (mkm c f r s) := by
  obtain ⟨hS, hC, hE⟩ := h
  have hn := hS.n
  have hf8 : 0 ≤ f ∧ f < 8 := by omega
  have hg := gol_ok ho
  have hp := hS.pl hf8 hr
  have hov : ovr c f r s = -1 ∨ ovr c f r s = 8 ∨ (0 ≤ ovr c f r s ∧ ovr c f r s < cel c 107) := hC.ov (p := cel c (0 + f * 6 + (1 + r)) + s) hr
  refine ⟨hS.kmkm hf8 hr hg.1 hov hB, ?_⟩
  have h5 := (hS.kmk5 hf8 hr hg.1 (by omega)).2
  have c5 := hC.kmk5 hS hf hr ho hB
  have hsd := h5.sd hf8
  have e7 := mk5_107 (c := c) (s := s) hf8 hr
  have e6 : cel (mk5 c f r s) 106 = cel c 106 := mk5_hi hf8 hr (by omega) (by omega) (by omega)
  have e4 : cel (mk5 c f r s) 104 = cel c 104 := mk5_hi hf8 hr (by omega) (by omega) (by omega)
  unfold Jvm.Pilot.CFerryDraughtsLaw_law_r9972_b515da.mkm
  split
  next q =>
    have hin : 0 ≤ cel c (0 + f * 6 + (1 + r)) + s ∧ cel c (0 + f * 6 + (1 + r)) + s < 12 := by
      unfold ovr whz at q
      split at q
      · assumption
      · omega
    have q2 : cel c (48 + r * 12 + (cel c (0 + f * 6 + (1 + r)) + s)) = 8 := by
      unfold ovr whz at q
      rw [if_pos hin] at q
      exact q
    have w1 : cel (mk5 c f r s) (48 + r * 12 + (cel c (0 + f * 6 + (1 + r)) + s)) = 8 := by
      rw [mk5_ov hS hf8 hr hs hg (by omega) (by omega) (by omega)]; exact q2
    have w0 : cel (mk5 c f r s) (48 + r * 12 + cel c (0 + f * 6 + (1 + r))) = -1 := mk5_old hS hf8 hr hg (hC.at hr hf)
    have k1 := c5.kswh h5 hr hin (v := -1) (Or.inl rfl) (Or.inr w1)
    have k2 := k1.kswh (h5.kswh hr (by omega)) hr (p := cel c (0 + f * 6 + (1 + r))) (by omega) (v := 8) (Or.inr rfl) (Or.inl (by
      rw [cel_swh' hr, if_neg (by omega)]; exact w0))
    refine ⟨k2.kchg (h5.ksht hr), ?_⟩
    rw [chg_ne (by omega), chg_ne (by omega), chg_ne (by omega), sht_hi hr (by omega), sht_hi hr (by omega), sht_hi hr (by omega), e6, e7, e4]
    exact hE
  next q =>
    split
    next q2 =>
      refine ⟨c5.kchg h5, ?_⟩
      rw [chg_ne (by omega), chg_ne (by omega), chg_ne (by omega), e6, e7, e4]
      exact hE
    next q2 =>
      have hgn : 0 ≤ ovr c f r s ∧ ovr c f r s < cel (mk5 c f r s) 107 := by rw [e7]; omega
      have hk := h5.kg (f := ovr c f r s) (by omega)
      obtain ⟨p1, p2⟩ := mk7_pre h5 c5 hf8 hgn (by omega)
      have hg3 : 0 ≤ ovr c f r s ∧ ovr c f r s < cel (adm (adm (adm (mk5 c f r s) (100 + (0 + cel (mk5 c f r s) (0 + f * 6 + 0))) (1 + cel (mk5 c f r s) (0 + ovr c f r s * 6 + 3))) (0 + f * 6 + 4) 1) 104 1) 107 := by
        rw [adm_ne (by omega), adm_ne (by omega), adm_ne (by omega)]; exact hgn
      have c7 : Co (mk7 (mk5 c f r s) f (ovr c f r s)) := p2.krmv p1 hg3
      have s7 := (h5.kmk7 hf8 hgn (by omega)).2
      obtain ⟨_, _, v3, v4⟩ := cel_rmv p1 p2 hg3
      have x6 : cel (mk7 (mk5 c f r s) f (ovr c f r s)) 106 = cel c 106 := by
        rw [mk7_eq, v3 106 (by omega) (by omega), adm_ne (by omega), adm_ne (by omega), adm_ne (by omega), e6]
      have x4 : cel (mk7 (mk5 c f r s) f (ovr c f r s)) 104 = cel c 104 + 1 := by
        rw [mk7_eq, v3 104 (by omega) (by omega), adm_at (by omega), adm_ne (by omega), adm_ne (by omega), e4]
      have x7 : cel (mk7 (mk5 c f r s) f (ovr c f r s)) 107 = cel c 107 - 1 := by
        rw [mk7_eq, v4, adm_ne (by omega), adm_ne (by omega), adm_ne (by omega), e7]
      split
      · refine ⟨c7, ?_⟩
        rw [x6, x4, x7]
        omega
      · refine ⟨c7.kchg s7, ?_⟩
        rw [chg_ne (by omega), chg_ne (by omega), chg_ne (by omega), x6, x4, x7]
        omega
theorem Iv.psT {B : Int} {c : Nat → Int} (h : Iv B c) (hB : B + 1 ≤ 100000000) : Iv (B + 1) (psT c) := by
  obtain ⟨hS, hC, hE⟩ := h
  have h1 := hS.kadm (e := 103) (m := 1) (k := 1) (Or.inl (by omega)) (by omega) hB
  refine ⟨hS.kpsT hB, ((hC.kadm hS (e := 103) (m := 1) (Or.inl (by omega))).kdrf h1).kchg h1.kdrf, ?_⟩
  unfold Jvm.Pilot.CFerryDraughtsLaw_law_r9972_b515da.psT
  rw [chg_ne (by omega), chg_ne (by omega), chg_ne (by omega), drf_hi (by omega), drf_hi (by omega), drf_hi (by omega), adm_ne (by omega), adm_ne (by omega), adm_ne (by omega)]
  exact hE
theorem Iv.adf {B : Int} {c : Nat → Int} (h : Iv B c) {x p q : Int} (ho : obF c x p q = 0) (hB : B + 1 ≤ 100000000) : Iv (B + 1) (adf c x p q) := by
  obtain ⟨hS, hC, hE⟩ := h
  have hn := hS.n
  unfold obF at ho
  split at ho
  · omega
  next q1 =>
    split at ho
    · omega
    next q2 =>
      split at ho
      · omega
      next q3 =>
        split at ho
        · omega
        next q4 =>
          have r1 := Decidable.not_not.mp q1
          have r3 := Decidable.not_not.mp q3
          have r4 := Decidable.not_not.mp q4
          refine ⟨hS.kadf r1.1 r1.2.1 r1.2.2 (by omega) hB, hC.kadf hS (by omega) r1.2.1 r1.2.2 r3.2 r4.2, ?_⟩
          have A : ∀ y, cel (Jvm.Pilot.CFerryDraughtsLaw_law_r9972_b515da.adf c x p q) y = _ := fun y => cel_adf (x := x) (y := y) ⟨hn.1, by omega⟩ r1.2.1 r1.2.2
          rw [A 106, if_pos rfl, A 107, if_neg (by omega), if_pos rfl, A 104]
          repeat rw [if_neg (by omega)]
          omega
theorem Iv.tug {B : Int} {c : Nat → Int} (h : Iv B c) {r p : Int} (ho : obT c r p = 0) : Iv B (swh c r p 8) := by
  obtain ⟨hS, hC, hE⟩ := h
  unfold obT at ho
  split at ho
  · omega
  next q1 =>
    split at ho
    · omega
    next q2 =>
      split at ho
      · omega
      next q3 =>
        have r1 := Decidable.not_not.mp q1
        have r3 := Decidable.not_not.mp q3
        refine ⟨hS.kswh r1.1 (by omega), hC.kswh hS r1.1 r1.2 (Or.inr rfl) (Or.inl r3.2), ?_⟩
        rw [cel_swh (by omega) r1.1, cel_swh (by omega) r1.1, cel_swh (by omega) r1.1]
        exact hE
theorem Iv.lck {B : Int} {c : Nat → Int} (h : Iv B c) {r p v : Int} (ho : obL c r p v = 0) : Iv B (sus c r p v) := by
  obtain ⟨hS, hC, hE⟩ := h
  unfold obL at ho
  split at ho
  · omega
  next q1 =>
    split at ho
    · omega
    next q2 =>
      have r1 := Decidable.not_not.mp q1
      have r2 := Decidable.not_not.mp q2
      refine ⟨hS.ksus r1.1 r2, hC.ext (fun y hy => cel_sus (by omega) r1.1) hS, ?_⟩
      rw [cel_sus (by omega) r1.1, cel_sus (by omega) r1.1, cel_sus (by omega) r1.1]
      exact hE
theorem Iv.fgg {B : Int} {c : Nat → Int} (h : Iv B c) {r p v : Int} (ho : obG c r p v = 0) : Iv B (sce (sce c (96 + r) p) (98 + r) v) := by
  obtain ⟨hS, hC, hE⟩ := h
  unfold obG at ho
  split at ho
  · omega
  next q1 =>
    split at ho
    · omega
    next q2 =>
      have r1 := Decidable.not_not.mp q1
      have r2 := Decidable.not_not.mp q2
      have k1 := hS.fgs (z := 96 + r) (v := p) (by omega) (by omega)
      refine ⟨k1.fws (by omega) r2, hC.ext (fun y hy => by rw [cel_ne (by omega), cel_ne (by omega)]) hS, ?_⟩
      rw [cel_ne (by omega), cel_ne (by omega), cel_ne (by omega), cel_ne (by omega), cel_ne (by omega), cel_ne (by omega)]
      exact hE
theorem obM_ok {c : Nat → Int} {f r s : Int} (ho : obM c f r s = 0) : (0 ≤ f ∧ f < cel c 107) ∧ (0 ≤ r ∧ r < 2) ∧ (oco c f r s = 1 ∨ oco c f r s = 2 ∨ oco c f r s = 3) := by
  unfold obM at ho
  split at ho
  · omega
  next q1 =>
    have r1 := Decidable.not_not.mp q1
    split at ho
    next q2 =>
      refine ⟨r1.1, r1.2, ?_⟩
      unfold ocn at q2
      split at q2
      · exact q2
      · omega
    · omega
end INV
