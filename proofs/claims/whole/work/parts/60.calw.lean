/-! calls of both: what changes: printed by wip/whole/db36.py -/
section CAW
theorem WL.ok {B : Int} {τ τ2 : SZ} {c' : Nat → Int} {a1 a2 a3 w d w2 d2 ob : Int} (h : WL B τ) (hB : B + 200 ≤ 100000000) (hc : Iv (B + 200) c') (hg : Tg c') (ho : ob = 0) (hP : Pub (zr (hkp τ) 4 c') τ2 ob a1 a2 a3 w d w2 d2 c') : WL (B + 200) τ2 := by
  have hb := h.1.1.1.B
  obtain ⟨a1, a2, a3, a4, a5, a6, a7⟩ := h
  obtain ⟨p1, p2, p3, p4, p5, p6, p7, p8⟩ := hP
  obtain ⟨q1, q2, q3⟩ := p5 ho
  have q4 := p8 (by omega)
  have e : ∀ a, a ≠ 21 → a ≠ 22 → a ≠ 23 → a ≠ 26 → a ≠ 27 → τ2 a = zr (hkp τ) 4 c' a := p1
  have s : ∀ i, i ≠ 6 → i ≠ 7 → i ≠ 9 → i ≠ 10 → τ2 21 i = τ 21 i := p3
  refine ⟨⟨?_, ?_, ?_⟩, (a2.push (τ' := τ2) a1 ?_ ?_ ?_ ?_ ?_).mono (by omega) hB, ?_, ?_, ?_, ?_, ?_, p2, ?_⟩
  · rw [e 4 (by decide) (by decide) (by decide) (by decide) (by decide)]; exact hc
  · rw [e 4 (by decide) (by decide) (by decide) (by decide) (by decide)]; exact hg
  · rw [e 4 (by decide) (by decide) (by decide) (by decide) (by decide)]; exact q1
  · rw [e 14 (by decide) (by decide) (by decide) (by decide) (by decide)]; rfl
  · rw [e 14 (by decide) (by decide) (by decide) (by decide) (by decide)]; rfl
  · rw [e 15 (by decide) (by decide) (by decide) (by decide) (by decide)]; rfl
  · rw [q3]; rfl
  · rw [q2]; rfl
  · exact (a3.of (e 0 (by decide) (by decide) (by decide) (by decide) (by decide)) (e 6 (by decide) (by decide) (by decide) (by decide) (by decide)) (e 25 (by decide) (by decide) (by decide) (by decide) (by decide)) (s 4 (by decide) (by decide) (by decide) (by decide))).mono (by omega) hB
  · exact a4.of (e 9 (by decide) (by decide) (by decide) (by decide) (by decide)) (e 10 (by decide) (by decide) (by decide) (by decide) (by decide)) (e 11 (by decide) (by decide) (by decide) (by decide) (by decide)) q4
  · exact a5.of (e 16 (by decide) (by decide) (by decide) (by decide) (by decide)) (e 17 (by decide) (by decide) (by decide) (by decide) (by decide)) (e 18 (by decide) (by decide) (by decide) (by decide) (by decide)) (e 29 (by decide) (by decide) (by decide) (by decide) (by decide)) (s 14 (by decide) (by decide) (by decide) (by decide)) (s 17 (by decide) (by decide) (by decide) (by decide))
  · exact a6.of (e 19 (by decide) (by decide) (by decide) (by decide) (by decide)) (e 20 (by decide) (by decide) (by decide) (by decide) (by decide)) (e 28 (by decide) (by decide) (by decide) (by decide) (by decide)) (s 12 (by decide) (by decide) (by decide) (by decide))
  · rw [e 5 (by decide) (by decide) (by decide) (by decide) (by decide)]; exact a7.1
  · rw [e 24 (by decide) (by decide) (by decide) (by decide) (by decide)]; exact a7.2.2
/-- both rows as they were; the reasons of a refusal -/
theorem WL.rfs {B : Int} {τ τ1 τ2 : SZ} (h : WL B τ) (e1 : ∀ a, a ≠ 9 → a ≠ 10 → a ≠ 11 → τ1 a = τ a) (e2 : ∀ a, a ≠ 21 → a ≠ 22 → a ≠ 23 → a ≠ 26 → a ≠ 27 → τ2 a = τ1 a) (h23 : Tz (τ2 23)) (s1 : ∀ i, i ≠ 6 → i ≠ 7 → i ≠ 9 → i ≠ 10 → τ2 21 i = τ1 21 i) (q : τ2 22 = τ1 22 ∧ τ2 26 = τ1 26 ∧ τ2 21 6 = τ1 21 6) (hr : RX τ2) : WL B τ2 := by
  obtain ⟨a1, a2, a3, a4, a5, a6, a7⟩ := h
  have e : ∀ a, a ≠ 9 → a ≠ 10 → a ≠ 11 → a ≠ 21 → a ≠ 22 → a ≠ 23 → a ≠ 26 → a ≠ 27 → τ2 a = τ a := fun a n1 n2 n3 n4 n5 n6 n7 n8 => (e2 a n4 n5 n6 n7 n8).trans (e1 a n1 n2 n3)
  have t21 : τ1 21 = τ 21 := e1 21 (by decide) (by decide) (by decide)
  have s : ∀ i, i ≠ 6 → i ≠ 7 → i ≠ 9 → i ≠ 10 → τ2 21 i = τ 21 i := fun i n1 n2 n3 n4 => by rw [s1 i n1 n2 n3 n4, t21]
  have e22 : τ2 22 = τ 22 := q.1.trans (e1 22 (by decide) (by decide) (by decide))
  have e26 : τ2 26 = τ 26 := q.2.1.trans (e1 26 (by decide) (by decide) (by decide))
  have e6 : τ2 21 6 = τ 21 6 := by rw [q.2.2, t21]
  have E : ∀ a, (a ≠ 9 ∧ a ≠ 10 ∧ a ≠ 11 ∧ a ≠ 21 ∧ a ≠ 22 ∧ a ≠ 23 ∧ a ≠ 26 ∧ a ≠ 27) → τ2 a = τ a := fun a n => e a n.1 n.2.1 n.2.2.1 n.2.2.2.1 n.2.2.2.2.1 n.2.2.2.2.2.1 n.2.2.2.2.2.2.1 n.2.2.2.2.2.2.2
  refine ⟨?_, a2.of (E 14 (by decide)) (E 15 (by decide)) e26 e6, a3.of (E 0 (by decide)) (E 6 (by decide)) (E 25 (by decide)) (s 4 (by decide) (by decide) (by decide) (by decide)), hr,
    a5.of (E 16 (by decide)) (E 17 (by decide)) (E 18 (by decide)) (E 29 (by decide)) (s 14 (by decide) (by decide) (by decide) (by decide)) (s 17 (by decide) (by decide) (by decide) (by decide)),
    a6.of (E 19 (by decide)) (E 20 (by decide)) (E 28 (by decide)) (s 12 (by decide) (by decide) (by decide) (by decide)), ?_, h23, ?_⟩
  · rw [E 4 (by decide), e22]; exact a1
  · rw [E 5 (by decide)]; exact a7.1
  · rw [E 24 (by decide)]; exact a7.2.2
theorem WL.non {B : Int} {τ τ2 : SZ} {c' : Nat → Int} {a1 a2 a3 w d w2 d2 ob : Int} (h : WL B τ) (h0 : ¬ ob = 0) (h3 : ¬ ob = 3) (hP : Pub τ τ2 ob a1 a2 a3 w d w2 d2 c') : WL B τ2 := by
  obtain ⟨p1, p2, p3, p4, p5, p6, p7, p8⟩ := hP
  exact h.rfs (τ1 := τ) (fun a _ _ _ => rfl) p1 p2 p3 (p6 h0) (h.2.2.2.1.of (p1 9 (by decide) (by decide) (by decide) (by decide) (by decide)) (p1 10 (by decide) (by decide) (by decide) (by decide) (by decide)) (p1 11 (by decide) (by decide) (by decide) (by decide) (by decide)) (p8 h3))
abbrev Sm (v : Int) : Prop := -1000 ≤ v ∧ v ≤ 1000
theorem zu6_sm {f : Nat → Int} {a b c d : Int} (hf : ∀ i, -1000 ≤ f i ∧ f i ≤ 1000) (h : Sm a ∧ Sm b ∧ Sm c ∧ Sm d) : ∀ i, -1000 ≤ zu (zu (zu (zu (zu (zu f 0 a) 1 b) 2 c) 3 d) 4 0) 5 0 i ∧ zu (zu (zu (zu (zu (zu f 0 a) 1 b) 2 c) 3 d) 4 0) 5 0 i ≤ 1000 := by
  have key : ∀ (g : Nat → Int) (n : Nat) (v : Int), (∀ i, -1000 ≤ g i ∧ g i ≤ 1000) → Sm v → ∀ i, -1000 ≤ zu g n v i ∧ zu g n v i ≤ 1000 := fun g n v hg hv i => by
    unfold zu
    split
    · exact hv
    · exact hg i
  exact key _ _ _ (key _ _ _ (key _ _ _ (key _ _ _ (key _ _ _ (key _ _ _ hf h.1) h.2.1) h.2.2.1) h.2.2.2) ⟨by decide, by decide⟩) ⟨by decide, by decide⟩
theorem RX.one {τ τ2 : SZ} {w d : Int} (h : RX τ) (hw : ¬ w = 0) (hs : Sm w ∧ Sm d) (e9 : τ2 9 = (rkp τ w d) 9) (e10 : τ2 10 = (rkp τ w d) 10) (e11 : τ2 11 = (rkp τ w d) 11) (e27 : τ2 27 = zu (zu (zu (zu (zu (zu (τ 27) 0 w) 1 d) 2 0) 3 0) 4 0) 5 0) : RX τ2 := by
  obtain ⟨_, _, _, _, _, l5⟩ := h
  refine ⟨[(w, d)], by simp, by rw [e9]; rfl, fun i hi => ?_, fun i hi => ?_, fun i => ?_⟩
  · have e : i = 0 := by simpa using hi
    subst e
    rw [e10, e11]
    exact ⟨rfl, rfl, hw⟩
  · rw [e27]
    have e : i = 0 ∨ i = 1 ∨ i = 2 := by omega
    rcases e with rfl | rfl | rfl
    · exact ⟨rfl, fun _ => rfl⟩
    · exact ⟨rfl, fun h => absurd h (by simp)⟩
    · exact ⟨rfl, fun h => absurd h (by simp)⟩
  · rw [e27]; exact zu6_sm l5 ⟨hs.1, hs.2, ⟨by decide, by decide⟩, ⟨by decide, by decide⟩⟩ i
theorem RX.two {τ τ2 : SZ} {w d w2 d2 : Int} (h : RX τ) (hw : ¬ w = 0) (hw2 : ¬ w2 = 0) (hs : Sm w ∧ Sm d ∧ Sm w2 ∧ Sm d2) (e9 : τ2 9 = (rpa (rkp τ w2 d2) w d) 9) (e10 : τ2 10 = (rpa (rkp τ w2 d2) w d) 10) (e11 : τ2 11 = (rpa (rkp τ w2 d2) w d) 11) (e27 : τ2 27 = zu (zu (zu (zu (zu (zu (τ 27) 0 w) 1 d) 2 w2) 3 d2) 4 0) 5 0) : RX τ2 := by
  obtain ⟨_, _, _, _, _, l5⟩ := h
  refine ⟨[(w, d), (w2, d2)], by simp, by rw [e9]; rfl, fun i hi => ?_, fun i hi => ?_, fun i => ?_⟩
  · have e : i = 0 ∨ i = 1 := by have : i < 2 := hi; omega
    rw [e10, e11]
    rcases e with rfl | rfl
    · exact ⟨rfl, rfl, hw⟩
    · exact ⟨rfl, rfl, hw2⟩
  · rw [e27]
    have e : i = 0 ∨ i = 1 ∨ i = 2 := by omega
    rcases e with rfl | rfl | rfl
    · exact ⟨rfl, fun _ => rfl⟩
    · exact ⟨rfl, fun _ => rfl⟩
    · exact ⟨rfl, fun h => absurd h (by simp)⟩
  · rw [e27]; exact zu6_sm l5 hs i
theorem WL.rf1 {B : Int} {τ τ2 : SZ} {c' : Nat → Int} {a1 a2 a3 w d ob : Int} (h : WL B τ) (h3 : ob = 3) (hw : ¬ w = 0) (hs : Sm w ∧ Sm d) (hP : Pub (rkp τ w d) τ2 ob a1 a2 a3 w d 0 0 c') : WL B τ2 := by
  obtain ⟨p1, p2, p3, p4, p5, p6, p7, p8⟩ := hP
  have t : ∀ a, a ≠ 9 → a ≠ 10 → a ≠ 11 → rkp τ w d a = τ a := fun a n1 n2 n3 => by unfold rkp; rw [zr_ne n1, zr_ne n3, zr_ne n2]
  exact h.rfs t p1 p2 p3 (p6 (by omega)) (h.2.2.2.1.one hw hs (p1 9 (by decide) (by decide) (by decide) (by decide) (by decide)) (p1 10 (by decide) (by decide) (by decide) (by decide) (by decide)) (p1 11 (by decide) (by decide) (by decide) (by decide) (by decide)) (p7 h3))
theorem WL.rf2 {B : Int} {τ τ2 : SZ} {c' : Nat → Int} {a1 a2 a3 w d w2 d2 ob : Int} (h : WL B τ) (h3 : ob = 3) (hw : ¬ w = 0) (hw2 : ¬ w2 = 0) (hs : Sm w ∧ Sm d ∧ Sm w2 ∧ Sm d2) (hP : Pub (rpa (rkp τ w2 d2) w d) τ2 ob a1 a2 a3 w d w2 d2 c') : WL B τ2 := by
  obtain ⟨p1, p2, p3, p4, p5, p6, p7, p8⟩ := hP
  have t : ∀ a, a ≠ 9 → a ≠ 10 → a ≠ 11 → rpa (rkp τ w2 d2) w d a = τ a := fun a n1 n2 n3 => by unfold rpa rkp; rw [zr_ne n1, zr_ne n3, zr_ne n2, zr_ne n1, zr_ne n3, zr_ne n2]
  exact h.rfs t p1 p2 p3 (p6 (by omega)) (h.2.2.2.1.two hw hw2 hs (p1 9 (by decide) (by decide) (by decide) (by decide) (by decide)) (p1 10 (by decide) (by decide) (by decide) (by decide) (by decide)) (p1 11 (by decide) (by decide) (by decide) (by decide) (by decide)) (p7 h3))
/-! what a refusal tells is small -/
theorem smF {c : Nat → Int} {x p q : Int} (h : obF c x p q = 3) : ¬ rwF c = 0 ∧ Sm (rwF c) ∧ Sm (rdF c p q) := by
  unfold obF at h
  split at h
  · omega
  next k =>
    have k2 := Decidable.not_not.mp k
    unfold rwF rdF
    refine ⟨by split <;> decide, by split <;> exact ⟨by decide, by decide⟩, ?_⟩
    split
    · exact ⟨by decide, by decide⟩
    · split <;> (unfold Sm; omega)
theorem smT {c : Nat → Int} {r p : Int} (h : obT c r p = 3) : ¬ rwT c r = 0 ∧ Sm (rwT c r) ∧ Sm (rdT c r p) := by
  unfold obT at h
  split at h
  · omega
  next k =>
    have k2 := Decidable.not_not.mp k
    unfold rwT rdT
    refine ⟨by split <;> decide, by split <;> exact ⟨by decide, by decide⟩, ?_⟩
    split
    · exact ⟨by decide, by decide⟩
    · unfold Sm; omega
theorem smL {c : Nat → Int} {r p v : Int} (h : obL c r p v = 3) : Sm v := by
  unfold obL at h
  split at h
  · omega
  · split at h
    · omega
    · unfold Sm; omega
theorem smG {c : Nat → Int} {r p v : Int} (h : obG c r p v = 3) : Sm v := by
  unfold obG at h
  split at h
  · omega
  · split at h
    · omega
    · unfold Sm; omega
theorem smM {B : Int} {c : Nat → Int} (hI : Iv B c) {f r s : Int} (hs : s = 1 ∨ s = -1) (h : obM c f r s = 3) : Sm f ∧ ¬ ocn c f r s = 0 ∧ Sm (ocn c f r s) ∧ Sm (dtl c (ocn c f r s) f r s) := by
  have hn := hI.1.n
  have ho := @ocn_in c f r s
  unfold obM at h
  split at h
  · omega
  next k =>
    have k2 := Decidable.not_not.mp k
    have hd := dtl_in hI.1 (x := ocn c f r s) (f := f) (r := r) (s := s) (by omega) k2.2 hs
    unfold Sm
    omega
theorem smP {B : Int} {c : Nat → Int} (hI : Iv B c) : Sm (fsm c (cel c 107).toNat 0) := by
  have hn := hI.1.n
  have q := @fsm_in c (cel c 107).toNat 0
  unfold Sm
  omega
theorem K_ferry {x p q B : Int} {τ : SZ} (h : WL B τ) (hB : B + 400 ≤ 100000000) (hx : Rng x) (hp : Rng p) (hq : Rng q) : Cal m7_ferry m8_ferry [.inr x, .inr p, .inr q] ["java/lang/IllegalArgumentException", "java/lang/UnsupportedOperationException"] B τ := by
  have hb := h.1.1.1.B
  have hW : WL (B + 200) τ := h.mono (by omega) (by omega)
  have hI := h.1.1
  have hG := h.1.2.1
  have hR := h.1.2.2
  have hN : cel (τ 4) 107 = (((cel (τ 4) 107).toNat : Nat) : Int) := by have := hI.1.n; omega
  have hH := h.2.1
  have hz := h.2.2.2.2.2.2
  have h6 : 0 ≤ τ 21 6 ∧ τ 21 6 ≤ 8 := by rw [hH.2.2.1]; exact hH.2.1
  have c := c_ferry hx hp hq hI (by omega) hH.1 hH.2.1
  rcases (@obF_in (τ 4) x p q) with o | o | o
  · rw [if_neg (by omega), if_neg (by omega)] at c
    obtain ⟨τ2, hP, d⟩ := p_ferry (τ := zr (hkp τ) 4 (adf (τ 4) x p q)) hI hR hz.2.1 h6 hx hp hq
    rw [if_pos o] at d
    exact cal_0 c d ⟨by decide, by decide⟩ rfl (by rw [hP.2.2.2.1, if_pos o]) (WL.ok h (by omega) ((hI.adf o (by omega)).mono (by omega) (by omega)) (hG.adf hI.1 o) o hP)
  · rw [if_pos o] at c
    obtain ⟨τ2, hP, d⟩ := p_ferry (τ := τ) hI hR hz.2.1 h6 hx hp hq
    rw [if_neg (by omega)] at d
    exact cal_x 0 c d ⟨by decide, by decide⟩ rfl (by rw [hP.2.2.2.1, if_neg (by omega), if_neg (by omega), if_pos o]; rfl) (WL.non hW (by omega) (by omega) hP)
  · rw [if_neg (by omega), if_pos o] at c
    obtain ⟨τ2, hP, d⟩ := p_ferry (τ := rkp τ (rwF (τ 4)) (rdF (τ 4) p q)) hI hR hz.2.1 h6 hx hp hq
    rw [if_neg (by omega)] at d
    have sm := smF o
    exact cal_x 1 c d ⟨by decide, by decide⟩ rfl (by rw [hP.2.2.2.1, if_neg (by omega), if_neg (by omega), if_neg (by omega)]; rfl) (WL.rf1 hW o sm.1 sm.2 hP)
theorem K_tug {r p B : Int} {τ : SZ} (h : WL B τ) (hB : B + 400 ≤ 100000000) (hr : Rng r) (hp : Rng p) : Cal m7_tug m8_tug [.inr r, .inr p] ["java/lang/IndexOutOfBoundsException", "java/lang/UnsupportedOperationException"] B τ := by
  have hb := h.1.1.1.B
  have hW : WL (B + 200) τ := h.mono (by omega) (by omega)
  have hI := h.1.1
  have hG := h.1.2.1
  have hR := h.1.2.2
  have hN : cel (τ 4) 107 = (((cel (τ 4) 107).toNat : Nat) : Int) := by have := hI.1.n; omega
  have hH := h.2.1
  have hz := h.2.2.2.2.2.2
  have h6 : 0 ≤ τ 21 6 ∧ τ 21 6 ≤ 8 := by rw [hH.2.2.1]; exact hH.2.1
  have c := c_tug hr hp hI (by omega) hH.1 hH.2.1
  rcases (@obT_in (τ 4) r p) with o | o | o
  · rw [if_neg (by omega), if_neg (by omega)] at c
    obtain ⟨τ2, hP, d⟩ := p_tug (τ := zr (hkp τ) 4 (swh (τ 4) r p 8)) hI hR hz.2.1 h6 hG hr hp
    rw [if_pos o] at d
    exact cal_0 c d ⟨by decide, by decide⟩ rfl (by rw [hP.2.2.2.1, if_pos o]) (WL.ok h (by omega) ((hI.tug o).mono (by omega) (by omega)) (hG.tug o) o hP)
  · rw [if_pos o] at c
    obtain ⟨τ2, hP, d⟩ := p_tug (τ := τ) hI hR hz.2.1 h6 hG hr hp
    rw [if_neg (by omega)] at d
    exact cal_x 0 c d ⟨by decide, by decide⟩ rfl (by rw [hP.2.2.2.1, if_neg (by omega), if_pos o]; rfl) (WL.non hW (by omega) (by omega) hP)
  · rw [if_neg (by omega), if_pos o] at c
    obtain ⟨τ2, hP, d⟩ := p_tug (τ := rkp τ (rwT (τ 4) r) (rdT (τ 4) r p)) hI hR hz.2.1 h6 hG hr hp
    rw [if_neg (by omega)] at d
    have sm := smT o
    exact cal_x 1 c d ⟨by decide, by decide⟩ rfl (by rw [hP.2.2.2.1, if_neg (by omega), if_neg (by omega), if_neg (by omega)]; rfl) (WL.rf1 hW o sm.1 sm.2 hP)
theorem K_lock {r p v B : Int} {τ : SZ} (h : WL B τ) (hB : B + 400 ≤ 100000000) (hr : Rng r) (hp : Rng p) (hv : Rng v) : Cal m7_lock m8_lock [.inr r, .inr p, .inr v] ["java/lang/IndexOutOfBoundsException", "java/lang/IllegalArgumentException", "java/lang/UnsupportedOperationException"] B τ := by
  have hb := h.1.1.1.B
  have hW : WL (B + 200) τ := h.mono (by omega) (by omega)
  have hI := h.1.1
  have hG := h.1.2.1
  have hR := h.1.2.2
  have hN : cel (τ 4) 107 = (((cel (τ 4) 107).toNat : Nat) : Int) := by have := hI.1.n; omega
  have hH := h.2.1
  have hz := h.2.2.2.2.2.2
  have h6 : 0 ≤ τ 21 6 ∧ τ 21 6 ≤ 8 := by rw [hH.2.2.1]; exact hH.2.1
  have c := c_lock hr hp hv hI (by omega) hH.1 hH.2.1
  rcases (@obL_in (τ 4) r p v) with o | o | o | o
  · rw [if_neg (by omega), if_neg (by omega), if_neg (by omega)] at c
    obtain ⟨τ2, hP, d⟩ := p_lock (τ := zr (hkp τ) 4 (sus (τ 4) r p v)) hI hR hz.2.1 h6 hr hp hv
    rw [if_pos o] at d
    exact cal_0 c d ⟨by decide, by decide⟩ rfl (by rw [hP.2.2.2.1, if_pos o]) (WL.ok h (by omega) ((hI.lck o).mono (by omega) (by omega)) (hG.cao (w := 2) (x := r) (y := p) (z := v) hI o (by omega)) o hP)
  · rw [if_pos o] at c
    obtain ⟨τ2, hP, d⟩ := p_lock (τ := τ) hI hR hz.2.1 h6 hr hp hv
    rw [if_neg (by omega)] at d
    exact cal_x 0 c d ⟨by decide, by decide⟩ rfl (by rw [hP.2.2.2.1, if_neg (by omega), if_pos o]; rfl) (WL.non hW (by omega) (by omega) hP)
  · rw [if_neg (by omega), if_pos o] at c
    obtain ⟨τ2, hP, d⟩ := p_lock (τ := τ) hI hR hz.2.1 h6 hr hp hv
    rw [if_neg (by omega)] at d
    exact cal_x 1 c d ⟨by decide, by decide⟩ rfl (by rw [hP.2.2.2.1, if_neg (by omega), if_neg (by omega), if_pos o]; rfl) (WL.non hW (by omega) (by omega) hP)
  · rw [if_neg (by omega), if_neg (by omega), if_pos o] at c
    obtain ⟨τ2, hP, d⟩ := p_lock (τ := rkp τ 3 v) hI hR hz.2.1 h6 hr hp hv
    rw [if_neg (by omega)] at d
    have sm := smL o
    exact cal_x 2 c d ⟨by decide, by decide⟩ rfl (by rw [hP.2.2.2.1, if_neg (by omega), if_neg (by omega), if_neg (by omega)]; rfl) (WL.rf1 hW o (by decide) ⟨⟨by decide, by decide⟩, sm⟩ hP)
theorem K_fog {r p v B : Int} {τ : SZ} (h : WL B τ) (hB : B + 400 ≤ 100000000) (hr : Rng r) (hp : Rng p) (hv : Rng v) : Cal m7_fog m8_fog [.inr r, .inr p, .inr v] ["java/lang/IndexOutOfBoundsException", "java/lang/IllegalArgumentException", "java/lang/UnsupportedOperationException"] B τ := by
  have hb := h.1.1.1.B
  have hW : WL (B + 200) τ := h.mono (by omega) (by omega)
  have hI := h.1.1
  have hG := h.1.2.1
  have hR := h.1.2.2
  have hN : cel (τ 4) 107 = (((cel (τ 4) 107).toNat : Nat) : Int) := by have := hI.1.n; omega
  have hH := h.2.1
  have hz := h.2.2.2.2.2.2
  have h6 : 0 ≤ τ 21 6 ∧ τ 21 6 ≤ 8 := by rw [hH.2.2.1]; exact hH.2.1
  have c := c_fog hr hp hv hI (by omega) hH.1 hH.2.1
  rcases (@obG_in (τ 4) r p v) with o | o | o | o
  · rw [if_neg (by omega), if_neg (by omega), if_neg (by omega)] at c
    obtain ⟨τ2, hP, d⟩ := p_fog (τ := zr (hkp τ) 4 (sce (sce (τ 4) (96 + r) p) (98 + r) v)) hI hR hz.2.1 h6 hr hp hv
    rw [if_pos o] at d
    exact cal_0 c d ⟨by decide, by decide⟩ rfl (by rw [hP.2.2.2.1, if_pos o]) (WL.ok h (by omega) ((hI.fgg o).mono (by omega) (by omega)) (hG.cao (w := 3) (x := r) (y := p) (z := v) hI o (by omega)) o hP)
  · rw [if_pos o] at c
    obtain ⟨τ2, hP, d⟩ := p_fog (τ := τ) hI hR hz.2.1 h6 hr hp hv
    rw [if_neg (by omega)] at d
    exact cal_x 0 c d ⟨by decide, by decide⟩ rfl (by rw [hP.2.2.2.1, if_neg (by omega), if_pos o]; rfl) (WL.non hW (by omega) (by omega) hP)
  · rw [if_neg (by omega), if_pos o] at c
    obtain ⟨τ2, hP, d⟩ := p_fog (τ := τ) hI hR hz.2.1 h6 hr hp hv
    rw [if_neg (by omega)] at d
    exact cal_x 1 c d ⟨by decide, by decide⟩ rfl (by rw [hP.2.2.2.1, if_neg (by omega), if_neg (by omega), if_pos o]; rfl) (WL.non hW (by omega) (by omega) hP)
  · rw [if_neg (by omega), if_neg (by omega), if_pos o] at c
    obtain ⟨τ2, hP, d⟩ := p_fog (τ := rkp τ 3 v) hI hR hz.2.1 h6 hr hp hv
    rw [if_neg (by omega)] at d
    have sm := smG o
    exact cal_x 2 c d ⟨by decide, by decide⟩ rfl (by rw [hP.2.2.2.1, if_neg (by omega), if_neg (by omega), if_neg (by omega)]; rfl) (WL.rf1 hW o (by decide) ⟨⟨by decide, by decide⟩, sm⟩ hP)
theorem K_move_0 {f r B : Int} {τ : SZ} (h : WL B τ) (hB : B + 400 ≤ 100000000) (hf : Rng f) (hr : Rng r) : Cal m7_move m8_move [.inr f, .inr r, .inr 0] ["java/lang/IndexOutOfBoundsException", "java/lang/UnsupportedOperationException"] B τ := by
  have hb := h.1.1.1.B
  have hW : WL (B + 200) τ := h.mono (by omega) (by omega)
  have hI := h.1.1
  have hG := h.1.2.1
  have hR := h.1.2.2
  have hN : cel (τ 4) 107 = (((cel (τ 4) 107).toNat : Nat) : Int) := by have := hI.1.n; omega
  have hH := h.2.1
  have hz := h.2.2.2.2.2.2
  have h6 : 0 ≤ τ 21 6 ∧ τ 21 6 ≤ 8 := by rw [hH.2.2.1]; exact hH.2.1
  have c := c_move_0 hf hr hI (by omega) hH.1 hH.2.1
  rcases (@obM_in (τ 4) f r (-1)) with o | o | o
  · rw [if_neg (by omega), if_neg (by omega)] at c
    obtain ⟨τ2, hP, d⟩ := p_move_0 (τ := zr (hkp τ) 4 (mkm (τ 4) f r (-1))) hI hR hz.2.1 h6 (by omega) hf hr
    rw [if_pos o] at d
    exact cal_0 c d ⟨by decide, by decide⟩ rfl (by rw [hP.2.2.2.1, if_pos o]) (WL.ok h (by omega) ((hI.mkm (obM_ok o).1 (obM_ok o).2.1 (Or.inr rfl) (obM_ok o).2.2 (by omega)).mono (by omega) (by omega)) (hG.mkm hI (obM_ok o).1 (obM_ok o).2.1 (Or.inr rfl) (obM_ok o).2.2 (by omega)) o hP)
  · rw [if_pos o] at c
    obtain ⟨τ2, hP, d⟩ := p_move_0 (τ := τ) hI hR hz.2.1 h6 (by omega) hf hr
    rw [if_neg (by omega)] at d
    exact cal_x 0 c d ⟨by decide, by decide⟩ rfl (by rw [hP.2.2.2.1, if_neg (by omega), if_pos o]; rfl) (WL.non hW (by omega) (by omega) hP)
  · rw [if_neg (by omega), if_pos o] at c
    obtain ⟨τ2, hP, d⟩ := p_move_0 (τ := rpa (rkp τ (ocn (τ 4) f r (-1)) (dtl (τ 4) (ocn (τ 4) f r (-1)) f r (-1))) 4 f) hI hR hz.2.1 h6 (by omega) hf hr
    rw [if_neg (by omega)] at d
    have sm := smM hI (Or.inr rfl) o
    exact cal_x 1 c d ⟨by decide, by decide⟩ rfl (by rw [hP.2.2.2.1, if_neg (by omega), if_neg (by omega), if_neg (by omega)]; rfl) (WL.rf2 hW o (by decide) sm.2.1 ⟨⟨by decide, by decide⟩, sm.1, sm.2.2⟩ hP)
theorem K_move_1 {f r B : Int} {τ : SZ} (h : WL B τ) (hB : B + 400 ≤ 100000000) (hf : Rng f) (hr : Rng r) : Cal m7_move m8_move [.inr f, .inr r, .inr 1] ["java/lang/IndexOutOfBoundsException", "java/lang/UnsupportedOperationException"] B τ := by
  have hb := h.1.1.1.B
  have hW : WL (B + 200) τ := h.mono (by omega) (by omega)
  have hI := h.1.1
  have hG := h.1.2.1
  have hR := h.1.2.2
  have hN : cel (τ 4) 107 = (((cel (τ 4) 107).toNat : Nat) : Int) := by have := hI.1.n; omega
  have hH := h.2.1
  have hz := h.2.2.2.2.2.2
  have h6 : 0 ≤ τ 21 6 ∧ τ 21 6 ≤ 8 := by rw [hH.2.2.1]; exact hH.2.1
  have c := c_move_1 hf hr hI (by omega) hH.1 hH.2.1
  rcases (@obM_in (τ 4) f r 1) with o | o | o
  · rw [if_neg (by omega), if_neg (by omega)] at c
    obtain ⟨τ2, hP, d⟩ := p_move_1 (τ := zr (hkp τ) 4 (mkm (τ 4) f r 1)) hI hR hz.2.1 h6 (by omega) hf hr
    rw [if_pos o] at d
    exact cal_0 c d ⟨by decide, by decide⟩ rfl (by rw [hP.2.2.2.1, if_pos o]) (WL.ok h (by omega) ((hI.mkm (obM_ok o).1 (obM_ok o).2.1 (Or.inl rfl) (obM_ok o).2.2 (by omega)).mono (by omega) (by omega)) (hG.mkm hI (obM_ok o).1 (obM_ok o).2.1 (Or.inl rfl) (obM_ok o).2.2 (by omega)) o hP)
  · rw [if_pos o] at c
    obtain ⟨τ2, hP, d⟩ := p_move_1 (τ := τ) hI hR hz.2.1 h6 (by omega) hf hr
    rw [if_neg (by omega)] at d
    exact cal_x 0 c d ⟨by decide, by decide⟩ rfl (by rw [hP.2.2.2.1, if_neg (by omega), if_pos o]; rfl) (WL.non hW (by omega) (by omega) hP)
  · rw [if_neg (by omega), if_pos o] at c
    obtain ⟨τ2, hP, d⟩ := p_move_1 (τ := rpa (rkp τ (ocn (τ 4) f r 1) (dtl (τ 4) (ocn (τ 4) f r 1) f r 1)) 4 f) hI hR hz.2.1 h6 (by omega) hf hr
    rw [if_neg (by omega)] at d
    have sm := smM hI (Or.inl rfl) o
    exact cal_x 1 c d ⟨by decide, by decide⟩ rfl (by rw [hP.2.2.2.1, if_neg (by omega), if_neg (by omega), if_neg (by omega)]; rfl) (WL.rf2 hW o (by decide) sm.2.1 ⟨⟨by decide, by decide⟩, sm.1, sm.2.2⟩ hP)
theorem K_pass {B : Int} {τ : SZ} (h : WL B τ) (hB : B + 400 ≤ 100000000) : Cal m7_pass m8_pass [] ["java/lang/UnsupportedOperationException"] B τ := by
  have hb := h.1.1.1.B
  have hW : WL (B + 200) τ := h.mono (by omega) (by omega)
  have hI := h.1.1
  have hG := h.1.2.1
  have hR := h.1.2.2
  have hN : cel (τ 4) 107 = (((cel (τ 4) 107).toNat : Nat) : Int) := by have := hI.1.n; omega
  have hH := h.2.1
  have hz := h.2.2.2.2.2.2
  have h6 : 0 ≤ τ 21 6 ∧ τ 21 6 ≤ 8 := by rw [hH.2.2.1]; exact hH.2.1
  have c := c_pass hI (by omega) hH.1 hH.2.1
  rcases (@obP_in (τ 4)) with o | o
  · rw [if_neg (by omega)] at c
    obtain ⟨τ2, hP, d⟩ := p_pass (τ := zr (hkp τ) 4 (psT (τ 4))) hI hR hz.2.1 h6 (by omega)
    rw [if_pos o] at d
    exact cal_0 c d ⟨by decide, by decide⟩ rfl (by rw [hP.2.2.2.1, if_pos o]) (WL.ok h (by omega) ((hI.psT (by omega)).mono (by omega) (by omega)) (hG.cao (w := 5) (x := 0) (y := 0) (z := 0) hI o (by omega)) o hP)
  · rw [if_pos o] at c
    obtain ⟨τ2, hP, d⟩ := p_pass (τ := rkp τ 5 (fsm (τ 4) (cel (τ 4) 107).toNat 0)) hI hR hz.2.1 h6 (by omega)
    rw [if_neg (by omega)] at d
    have sm := smP hI
    exact cal_x 0 c d ⟨by decide, by decide⟩ rfl (by rw [hP.2.2.2.1, if_neg (by omega), if_neg (by omega), if_neg (by omega)]; rfl) (WL.rf1 hW o (by decide) ⟨⟨by decide, by decide⟩, sm⟩ hP)
end CAW
