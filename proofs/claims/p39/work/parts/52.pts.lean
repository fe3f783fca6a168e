/-! the points of a move stand in its side's account -/
section PTS
theorem mk5_sd {c : Nat → Int} {f r s : Int} (hf : 0 ≤ f ∧ f < 8) (hr : 0 ≤ r ∧ r < 2) : cel (mk5 c f r s) (0 + f * 6 + 0) = cel c (0 + f * 6 + 0) := by
  unfold mk5 mk4
  rw [drf_hi (by omega), adm_ne (by omega), adm_ne (by omega)]
  have e1 : ∀ d : Nat → Int, cel (crw d f r) (0 + f * 6 + 0) = cel d (0 + f * 6 + 0) := by
    intro d
    unfold crw
    split
    · rw [cel_ne (by omega), cel_sus' hr, if_neg (by omega), cel_ne (by omega)]
    · rfl
  rw [e1]
  unfold shf
  rw [cel_ne (by omega), cel_swh' hr, if_neg (by omega), cel_swh' hr, if_neg (by omega)]
theorem pts_mkm {B : Int} {c : Nat → Int} (h : Iv B c) {f r s : Int} (hf : 0 ≤ f ∧ f < cel c 107) (hr : 0 ≤ r ∧ r < 2) (hs : s = 1 ∨ s = -1) (ho : oco c f r s = 1 ∨ oco c f r s = 2 ∨ oco c f r s = 3) (hB : B + 7 ≤ 100000000) :
    cel (mkm c f r s) (100 + cel c (0 + f * 6 + 0)) = cel c (100 + cel c (0 + f * 6 + 0)) + mkp c f r s := by
  obtain ⟨hS, hC, hE⟩ := h
  have hn := hS.n
  have hf8 : 0 ≤ f ∧ f < 8 := by omega
  have hg := gol_ok ho
  have hov : ovr c f r s = -1 ∨ ovr c f r s = 8 ∨ (0 ≤ ovr c f r s ∧ ovr c f r s < cel c 107) := hC.ov (p := cel c (0 + f * 6 + (1 + r)) + s) hr
  have h5 := (hS.kmk5 hf8 hr hg.1 (by omega)).2
  have c5 := hC.kmk5 hS hf hr ho hB
  have hsd := hS.sd hf8
  have es := mk5_sd (c := c) (s := s) hf8 hr
  have e7 := mk5_107 (c := c) (s := s) hf8 hr
  have e5 : cel (mk5 c f r s) (100 + cel c (0 + f * 6 + 0)) = cel c (100 + cel c (0 + f * 6 + 0)) := mk5_hi hf8 hr (by omega) (by omega) (by omega)
  unfold mkm mkp
  by_cases q : ovr c f r s = 8
  · rw [if_pos q, if_pos q, chg_ne (by omega), sht_hi hr (by omega), e5]
    omega
  · rw [if_neg q, if_neg q]
    by_cases q2 : ovr c f r s = -1
    · rw [if_pos q2, if_pos q2, chg_ne (by omega), e5]
      omega
    · rw [if_neg q2, if_neg q2]
      have hgn : 0 ≤ ovr c f r s ∧ ovr c f r s < cel (mk5 c f r s) 107 := by rw [e7]; omega
      obtain ⟨p1, p2⟩ := mk7_pre h5 c5 hf8 hgn (by omega)
      have hg3 : 0 ≤ ovr c f r s ∧ ovr c f r s < cel (adm (adm (adm (mk5 c f r s) (100 + (0 + cel (mk5 c f r s) (0 + f * 6 + 0))) (1 + cel (mk5 c f r s) (0 + ovr c f r s * 6 + 3))) (0 + f * 6 + 4) 1) 104 1) 107 := by
        rw [es, adm_ne (by omega), adm_ne (by omega), adm_ne (by omega)]; exact hgn
      obtain ⟨_, _, v3, v4⟩ := cel_rmv p1 p2 hg3
      have x : cel (mk7 (mk5 c f r s) f (ovr c f r s)) (100 + cel c (0 + f * 6 + 0)) = cel c (100 + cel c (0 + f * 6 + 0)) + (1 + cel (mk5 c f r s) (0 + ovr c f r s * 6 + 3)) := by
        rw [mk7_eq, v3 (100 + cel c (0 + f * 6 + 0)) (by omega) (by omega), adm_ne (by omega), adm_ne (by omega), es, Int.zero_add, adm_at (by omega), e5]
      split
      · exact x
      · rw [chg_ne (by omega)]; exact x
end PTS
