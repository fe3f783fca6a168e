/-! run, called of both -/
section CLR
theorem K_run {B : Int} {τ : SZ} (h : WL B τ) (hB : B + 400 ≤ 100000000) : Cal m7_run m8_run [] ["java/lang/IllegalArgumentException", "java/lang/UnsupportedOperationException"] B τ := by
  have hb := h.1.1.1.B
  have hW : WL (B + 200) τ := h.mono (by omega) (by omega)
  have hI := h.1.1
  have hG := h.1.2.1
  have hR := h.1.2.2
  have hH := h.2.1
  have hz := h.2.2.2.2.2.2
  have h6 : 0 ≤ τ 21 6 ∧ τ 21 6 ≤ 8 := by rw [hH.2.2.1]; exact hH.2.1
  obtain ⟨b1, b2', b3, b4, b5, b6, b7⟩ := h.2.2.2.2.1
  have hp := rdl_pr (n := τ 16 1) (f := τ 17) b2'.1 13 0 (τ 18) [] (Int.le_refl 0) b2'.1 b6 (fun m hm => absurd hm (by simp)) (fun m hm => absurd hm (by simp))
  have e0 : ((([] : List (Int × List Int)).length : Nat) : Int) = 0 := rfl
  rw [e0] at hp
  obtain ⟨r1, r2, r3, r4, r5, r6⟩ := hp
  have hpr : prl (τ 21 14) (τ 29) 13 0 [] = prl (τ 16 1) (τ 17) 13 0 [] := by rw [b1]; exact prl_eq (sg_eq b5) 13 0 []
  generalize hP : prl (τ 16 1) (τ 17) 13 0 [] = pr at r1 r2 r3 r5 r6 hpr
  have h13 : pr.2.2.length ≤ 13 := by simpa using r6
  have s18 : rns τ 18 = (rdl (τ 16 1) (τ 17) 13 0 0 (τ 18)).2.2.2 := rfl
  have s3 : rns τ 16 3 = (rdl (τ 16 1) (τ 17) 13 0 0 (τ 18)).2.2.1 := rfl
  have s4 : rns τ 16 4 = (rdl (τ 16 1) (τ 17) 13 0 0 (τ 18)).2.1 := rfl
  have s1 : rns τ 16 1 = 0 := rfl
  have eo : rdo (τ 16 1) (τ 17) (τ 18) = rdl (τ 16 1) (τ 17) 13 0 0 (τ 18) := rfl
  have tn : ∀ a, a ≠ 16 → a ≠ 18 → rns τ a = τ a := fun a n1 n2 => by unfold rns rdt; rw [zr_ne n1, zr_ne n1, zr_ne n2]
  have hol : ∀ i : Nat, i < pr.2.2.length → 0 ≤ odw (rns τ 18) i 0 ∧ odw (rns τ 18) i 0 ≤ 5 := fun i hi => by
    have q := r5 i hi
    rw [s18]
    show 0 ≤ (rdl (τ 16 1) (τ 17) 13 0 0 (τ 18)).2.2.2 ((i : Int) * 4 + 0).toNat ∧ (rdl (τ 16 1) (τ 17) 13 0 0 (τ 18)).2.2.2 ((i : Int) * 4 + 0).toNat ≤ 5
    rw [show ((i : Int) * 4 + 0).toNat = i * 4 from by omega, q.2.1]
    exact q.1
  have c := c_run (τ := τ) (M := pr.2.2.length) hI (by omega) ⟨b2', b3⟩ (by rw [eo, r1]; split; exact Or.inr rfl; exact Or.inl rfl) (by rw [s3, r3]) h13 (by rw [s18]; exact r4) hol hz.1 hH.1 hH.2.1
  have dm : ∀ τ1 : SZ, τ1 22 = τ 22 → τ1 21 = τ 21 → τ1 29 = τ 29 → τ1 23 = τ 23 → ∃ V τ2, Prun τ1 τ2 pr (τ 4) V ∧ RZ 11 m8_run [.inl 21] τ1 (.inl (some (.inr V), τ2)) := by
    intro τ1 x1 x2 x3 x4
    have q := p_run (τ := τ1) (c := τ 4) hI (by rw [x1]; exact hR) hG (by rw [x2, b1]; exact b2') (by rw [x3]; exact b4) (by rw [x4]; exact hz.2.1) (by rw [x2]; exact h6) (by omega)
    rw [x2, x3, hpr] at q
    exact q
  cases hok : pr.1 with
  | false =>
    have r1' : (rdo (τ 16 1) (τ 17) (τ 18)).1 = 0 := by rw [eo, r1, hok]; rfl
    rw [if_pos r1'] at c
    obtain ⟨V, τ2, ⟨p1, p2, p3, p4, p5, p6, p7⟩, d⟩ := dm (rns τ) (tn 22 (by decide) (by decide)) (tn 21 (by decide) (by decide)) (tn 29 (by decide) (by decide)) (tn 23 (by decide) (by decide))
    obtain ⟨q1, q2, q3, q4, q5, q6⟩ := p6 hok
    have E : ∀ a, (a ≠ 21 ∧ a ≠ 22 ∧ a ≠ 23 ∧ a ≠ 26 ∧ a ≠ 27 ∧ a ≠ 30) → τ2 a = rns τ a := fun a n => p1 a n.1 n.2.1 n.2.2.1 n.2.2.2.1 n.2.2.2.2.1 n.2.2.2.2.2
    refine cal_x 0 c d ⟨by decide, by decide⟩ rfl q1 (hW.run (τ1 := rns τ) (fun a _ _ _ _ _ _ _ n8 n9 => tn a n8 n9) p1 ⟨p3 4 (by decide) (by decide) (by decide) (by decide) (by decide) (by decide) (by decide) (by decide) (by decide), p3 12 (by decide) (by decide) (by decide) (by decide) (by decide) (by decide) (by decide) (by decide) (by decide)⟩ ?_ ?_ ?_ ⟨p4, ?_, ?_, ?_⟩ ?_ p2)
    · rw [E 4 (by decide), q2]; exact hW.1
    · exact hW.2.1.of (E 14 (by decide)) (E 15 (by decide)) q3 q5
    · exact hW.2.2.2.1.of (E 9 (by decide)) (E 10 (by decide)) (E 11 (by decide)) q4
    · rw [E 16 (by decide)]; rfl
    · rw [p5, E 16 (by decide), s4, r2]
    · rw [E 18 (by decide), s18]; exact r4
    · rw [E 5 (by decide)]; exact hz.1
  | true =>
    have r1' : ¬ (rdo (τ 16 1) (τ 17) (τ 18)).1 = 0 := by rw [eo, r1, hok]; decide
    rw [if_neg r1'] at c
    have hwf : ∀ e, e ∈ pr.2.2 → WFo e := by
      obtain ⟨V, τ2, ⟨_, _, _, _, _, _, p7⟩, _⟩ := dm τ rfl rfl rfl rfl
      exact (p7 hok).1.2
    have hLL : rnl (rns τ 18) pr.2.2.length 0 (τ 4) = rnL pr.2.2 0 (τ 4) := by
      have q := rnl_L (od := rns τ 18) (by rw [s18]; exact r5) hwf pr.2.2.length 0 (τ 4) (by omega)
      exact q
    rw [hLL] at c
    obtain ⟨x1, x2, x3⟩ := rnL_iv pr.2.2 0 (τ 4) hI hG (by omega)
    generalize hX : rnL pr.2.2 0 (τ 4) = x at c x1 x2 x3
    have hIx : Iv (B + 200) x.2.2 := x1.1.mono (by omega) (by omega)
    rcases x3 with x3 | x3 | ⟨x3, x4, x5⟩
    · -- all orders are done
      have hc : rnr (rns τ) (rns τ 18) x (pr.2.2.length : Int) = .inl (some (.inr (pr.2.2.length : Int)), zr (hkp (zr (rns τ) 5 x.2.2)) 4 x.2.2) := by
        unfold rnr
        rw [if_neg (by omega), if_neg (by omega)]
      rw [hc] at c
      obtain ⟨V, τ2, ⟨p1, p2, p3, p4, p5, p6, p7⟩, d⟩ := dm (zr (hkp (zr (rns τ) 5 x.2.2)) 4 x.2.2) rfl rfl rfl rfl
      obtain ⟨_, k1, k2, k3, k4, k5, k6⟩ := p7 hok
      rw [hX] at k1 k2 k3 k4 k5 k6
      rw [if_pos x3] at k1 k2
      obtain ⟨q1, q2, q3⟩ := k3 x3
      have E : ∀ a, (a ≠ 21 ∧ a ≠ 22 ∧ a ≠ 23 ∧ a ≠ 26 ∧ a ≠ 27 ∧ a ≠ 30) → τ2 a = zr (hkp (zr (rns τ) 5 x.2.2)) 4 x.2.2 a := fun a n => p1 a n.1 n.2.1 n.2.2.1 n.2.2.2.1 n.2.2.2.2.1 n.2.2.2.2.2
      refine cal_0 c d ⟨by decide, by decide⟩ k1.symm k2 (hW.run (τ1 := zr (hkp (zr (rns τ) 5 x.2.2)) 4 x.2.2) (fun a n1 n2 n3 n4 n5 n6 n7 n8 n9 => ?_) p1 ⟨p3 4 (by decide) (by decide) (by decide) (by decide) (by decide) (by decide) (by decide) (by decide) (by decide), p3 12 (by decide) (by decide) (by decide) (by decide) (by decide) (by decide) (by decide) (by decide) (by decide)⟩ ?_ ?_ ?_ ⟨p4, ?_, ?_, ?_⟩ ?_ p2)
      · unfold hkp
        rw [zr_ne n1, zr_ne n6, zr_ne n7, zr_ne n2]
        exact tn a n8 n9
      · rw [E 4 (by decide)]; exact ⟨hIx, x1.2, q1⟩
      · exact hW.2.1.push (τ' := τ2) hW.1 (by rw [E 14 (by decide)]; rfl) (by rw [E 14 (by decide)]; rfl) (by rw [E 15 (by decide)]; rfl) q3 q2
      · exact hW.2.2.2.1.of (E 9 (by decide)) (E 10 (by decide)) (E 11 (by decide)) (k5 (by omega))
      · rw [E 16 (by decide)]; rfl
      · rw [p5, E 16 (by decide)]; show _ = rns τ 16 4; rw [s4, r2]
      · rw [E 18 (by decide)]; show Og (rns τ 18); rw [s18]; exact r4
      · rw [E 5 (by decide)]; exact hIx.1.tz
    · -- an order throws
      have hc : rnr (rns τ) (rns τ 18) x (pr.2.2.length : Int) = .inr ("java/lang/IllegalArgumentException", zr (rns τ) 5 x.2.2) := by
        unfold rnr
        rw [if_neg (by omega), if_pos x3]
      rw [hc] at c
      obtain ⟨V, τ2, ⟨p1, p2, p3, p4, p5, p6, p7⟩, d⟩ := dm (zr (rns τ) 5 x.2.2) rfl rfl rfl rfl
      obtain ⟨_, k1, k2, k3, k4, k5, k6⟩ := p7 hok
      rw [hX] at k1 k2 k3 k4 k5 k6
      rw [if_neg (by omega), if_neg (by omega)] at k2
      obtain ⟨q1, q2, q3⟩ := k4 (by omega)
      have E : ∀ a, (a ≠ 21 ∧ a ≠ 22 ∧ a ≠ 23 ∧ a ≠ 26 ∧ a ≠ 27 ∧ a ≠ 30) → τ2 a = zr (rns τ) 5 x.2.2 a := fun a n => p1 a n.1 n.2.1 n.2.2.1 n.2.2.2.1 n.2.2.2.2.1 n.2.2.2.2.2
      refine cal_x 0 c d ⟨by decide, by decide⟩ rfl k2 (hW.run (τ1 := zr (rns τ) 5 x.2.2) (fun a n1 n2 n3 n4 n5 n6 n7 n8 n9 => ?_) p1 ⟨p3 4 (by decide) (by decide) (by decide) (by decide) (by decide) (by decide) (by decide) (by decide) (by decide), p3 12 (by decide) (by decide) (by decide) (by decide) (by decide) (by decide) (by decide) (by decide) (by decide)⟩ ?_ ?_ ?_ ⟨p4, ?_, ?_, ?_⟩ ?_ p2)
      · rw [zr_ne n2]; exact tn a n8 n9
      · rw [E 4 (by decide), q1]; exact hW.1
      · exact hW.2.1.of (E 14 (by decide)) (E 15 (by decide)) q2 q3
      · exact hW.2.2.2.1.of (E 9 (by decide)) (E 10 (by decide)) (E 11 (by decide)) (k5 (by omega))
      · rw [E 16 (by decide)]; rfl
      · rw [p5, E 16 (by decide)]; show _ = rns τ 16 4; rw [s4, r2]
      · rw [E 18 (by decide)]; show Og (rns τ 18); rw [s18]; exact r4
      · rw [E 5 (by decide)]; exact hIx.1.tz
    · -- an order is refused
      have hi : x.2.1 < pr.2.2.length := by omega
      rw [show x.2.1 - 0 = x.2.1 from by omega] at x5
      have hmem : pr.2.2.getD x.2.1 (0, []) ∈ pr.2.2 := getD_mem hi
      obtain ⟨w0, w1⟩ := wf_ar (od := rns τ 18) (by rw [s18]; exact r5) hi (hwf _ hmem)
      have w2 := (w1 x.2.2).2.2 (zr (rns τ) 5 x.2.2)
      have hw5 : 0 ≤ (pr.2.2.getD x.2.1 (0, [])).1 ∧ (pr.2.2.getD x.2.1 (0, [])).1 ≤ 5 := by have := (hwf _ hmem).1; omega
      have hrr := rrW_is hIx hw5 x5
      have hc : rnr (rns τ) (rns τ 18) x (pr.2.2.length : Int) = .inr ("java/lang/UnsupportedOperationException", rpa (rsW (zr (rns τ) 5 x.2.2) x.2.2 (pr.2.2.getD x.2.1 (0, [])).1 ((pr.2.2.getD x.2.1 (0, [])).2.getD 0 0) ((pr.2.2.getD x.2.1 (0, [])).2.getD 1 0) ((pr.2.2.getD x.2.1 (0, [])).2.getD 2 0)) 6 (x.2.1 : Int)) := by
        unfold rnr
        rw [if_pos x3, w2]
      rw [hc] at c
      generalize hrw : rrW x.2.2 (pr.2.2.getD x.2.1 (0, [])).1 ((pr.2.2.getD x.2.1 (0, [])).2.getD 0 0) ((pr.2.2.getD x.2.1 (0, [])).2.getD 1 0) ((pr.2.2.getD x.2.1 (0, [])).2.getD 2 0) = rr at hrr
      -- the state that the class leaves
      have fin : ∀ τ1 : SZ, rpa (rsW (zr (rns τ) 5 x.2.2) x.2.2 (pr.2.2.getD x.2.1 (0, [])).1 ((pr.2.2.getD x.2.1 (0, [])).2.getD 0 0) ((pr.2.2.getD x.2.1 (0, [])).2.getD 1 0) ((pr.2.2.getD x.2.1 (0, [])).2.getD 2 0)) 6 (x.2.1 : Int) = τ1 →
          (∀ a, a ≠ 9 → a ≠ 10 → a ≠ 11 → τ1 a = zr (rns τ) 5 x.2.2 a) → (∀ τ2 : SZ, τ2 9 = τ1 9 → τ2 10 = τ1 10 → τ2 11 = τ1 11 → ((τ2 27 0 = 6 ∧ τ2 27 1 = (x.2.1 : Int) ∧ (τ2 27 2, τ2 27 3, τ2 27 4, τ2 27 5) = rr) ∧ ∀ i, 6 ≤ i → τ2 27 i = τ 27 i) → RX τ2) →
          Cal m7_run m8_run [] ["java/lang/IllegalArgumentException", "java/lang/UnsupportedOperationException"] B τ := by
        intro τ1 ht1 hta hrx
        rw [ht1] at c
        obtain ⟨V, τ2, ⟨p1, p2, p3, p4, p5, p6, p7⟩, d⟩ := dm τ1 (by rw [hta 22 (by decide) (by decide) (by decide)]; rfl) (by rw [hta 21 (by decide) (by decide) (by decide)]; rfl) (by rw [hta 29 (by decide) (by decide) (by decide)]; rfl) (by rw [hta 23 (by decide) (by decide) (by decide)]; rfl)
        obtain ⟨_, k1, k2, k3, k4, k5, k6⟩ := p7 hok
        rw [hX] at k1 k2 k3 k4 k5 k6
        rw [if_neg (by omega), if_pos x3] at k2
        obtain ⟨q1, q2, q3⟩ := k4 (by omega)
        have k6' := k6 x3
        rw [hrw, hta 27 (by decide) (by decide) (by decide)] at k6'
        have E : ∀ a, (a ≠ 21 ∧ a ≠ 22 ∧ a ≠ 23 ∧ a ≠ 26 ∧ a ≠ 27 ∧ a ≠ 30) → τ2 a = τ1 a := fun a n => p1 a n.1 n.2.1 n.2.2.1 n.2.2.2.1 n.2.2.2.2.1 n.2.2.2.2.2
        have E2 : ∀ a, ((a ≠ 21 ∧ a ≠ 22 ∧ a ≠ 23 ∧ a ≠ 26 ∧ a ≠ 27 ∧ a ≠ 30) ∧ (a ≠ 9 ∧ a ≠ 10 ∧ a ≠ 11)) → τ2 a = zr (rns τ) 5 x.2.2 a := fun a n => (E a n.1).trans (hta a n.2.1 n.2.2.1 n.2.2.2)
        have t21 : τ1 21 = τ 21 := by rw [hta 21 (by decide) (by decide) (by decide)]; rfl
        refine cal_x 1 c d ⟨by decide, by decide⟩ rfl k2 (hW.run (τ1 := τ1) (fun a n1 n2 n3 n4 n5 n6 n7 n8 n9 => ?_) p1 ⟨p3 4 (by decide) (by decide) (by decide) (by decide) (by decide) (by decide) (by decide) (by decide) (by decide), p3 12 (by decide) (by decide) (by decide) (by decide) (by decide) (by decide) (by decide) (by decide) (by decide)⟩ ?_ ?_ ?_ ⟨p4, ?_, ?_, ?_⟩ ?_ p2)
        · rw [hta a n3 n4 n5, zr_ne n2]; exact tn a n8 n9
        · rw [E2 4 (by decide), q1, hta 22 (by decide) (by decide) (by decide)]; exact hW.1
        · exact hW.2.1.of (E2 14 (by decide)) (E2 15 (by decide)) (by rw [q2, hta 26 (by decide) (by decide) (by decide)]; rfl) (by rw [q3, t21])
        · exact hrx τ2 (E 9 (by decide)) (E 10 (by decide)) (E 11 (by decide)) k6'
        · rw [E2 16 (by decide)]; rfl
        · rw [p5, E2 16 (by decide)]; show _ = rns τ 16 4; rw [s4, r2]
        · rw [E2 18 (by decide)]; show Og (rns τ 18); rw [s18]; exact r4
        · rw [E2 5 (by decide)]; exact hIx.1.tz
      rcases hrr with ⟨y1, y2, y3, y4, y5, y6, y7⟩ | ⟨y1, y2, y3, y4, y5, y6, y7⟩
      · refine fin _ rfl (fun a n1 n2 n3 => ?_) (fun τ2 f9 f10 f11 k => ?_)
        · rw [y7]
          unfold rpa rkp
          rw [zr_ne n1, zr_ne n3, zr_ne n2, zr_ne n1, zr_ne n3, zr_ne n2, zr_ne n1, zr_ne n3, zr_ne n2]
        · rw [y7] at f9 f10 f11
          obtain ⟨⟨g0, g1, g2⟩, g3⟩ := k
          rw [← g2] at y2 y3 y4 y5 y6 f9 f10 f11
          have y2 : τ2 27 2 = 4 := y2
          refine RX.run2 (τ := τ) (σ := zr (rns τ) 5 x.2.2) (i := (x.2.1 : Int)) (w := 4) (d := τ2 27 3) (w2 := τ2 27 4) (d2 := τ2 27 5) hW.2.2.2.1 (by omega) (by decide) y4 ⟨⟨by decide, by decide⟩, y3, y5, y6⟩ f9 f10 f11 ⟨g0, g1, y2, rfl, rfl, rfl⟩ g3
      · refine fin _ rfl (fun a n1 n2 n3 => ?_) (fun τ2 f9 f10 f11 k => ?_)
        · rw [y7]
          unfold rpa rkp
          rw [zr_ne n1, zr_ne n3, zr_ne n2, zr_ne n1, zr_ne n3, zr_ne n2]
        · rw [y7] at f9 f10 f11
          obtain ⟨⟨g0, g1, g2⟩, g3⟩ := k
          rw [← g2] at y2 y3 y4 y5 y6 f9 f10 f11
          exact RX.run1 (τ := τ) (σ := zr (rns τ) 5 x.2.2) (i := (x.2.1 : Int)) (w := τ2 27 2) (d := τ2 27 3) hW.2.2.2.1 (by omega) y2 ⟨y3, y4⟩ f9 f10 f11 ⟨g0, g1, rfl, rfl, y5, y6⟩ g3
end CLR
