/-! contracts of the class of the rivers, part three: printed by wip/whole/db3.py -/
section RIV3

theorem s_addTug {ρ a : Nat} {r p : Int} {τ : SZ} (hρ : RA ρ a) (hr : -1000 ≤ r ∧ r ≤ 1000) (hp : Rng p) (hB : Bd (τ a)) : RZ 4 m5_addTug [.inl ρ, .inr r, .inr p] τ (.inl (some (.inr (tgs (swh (τ a) r p 8) r)), zr τ a (swh (τ a) r p 8))) := by
  obtain ⟨hp1, hp2⟩ := hp
  have hB2 : Bd (swh (τ a) r p 8) := swh_bd hB (by omega)
  rcases hρ with ⟨rfl, rfl⟩ | ⟨rfl, rfl⟩ | ⟨rfl, rfl⟩
  · refine Ex.call ?_ rfl rfl
    show Ex _ _ (cod m5_addTug 0, [some (.inl 1), some (.inr r), some (.inr p)], [], τ) _ _
    refine ex_k 4 (P := none) (g := (cod m5_addTug 4, [some (.inl 1), some (.inr r), some (.inr p)], [.inr 8, .inr p, .inr r, .inl 1], τ)) rfl trivial ?_
    refine ex_c (s_setWho (τ := τ) (r := r) (p := p) (v := 8) (Or.inl ⟨rfl, rfl⟩) (by omega) ⟨by omega, by omega⟩) (is := cod m5_addTug 5) (L := [some (.inl 1), some (.inr r), some (.inr p)]) (st := []) rfl rfl rfl ?_
    show Ex _ _ (cod m5_addTug 5, [some (.inl 1), some (.inr r), some (.inr p)], [], (zr τ 4 (swh (τ 4) r p 8))) _ _
    refine ex_k 2 (P := none) (g := (cod m5_addTug 7, [some (.inl 1), some (.inr r), some (.inr p)], [.inr r, .inl 1], (zr τ 4 (swh (τ 4) r p 8)))) rfl trivial ?_
    refine ex_c (s_tugsOn (τ := (zr τ 4 (swh (τ 4) r p 8))) (r := r) (Or.inl ⟨rfl, rfl⟩) (by omega) hB2) (is := cod m5_addTug 8) (L := [some (.inl 1), some (.inr r), some (.inr p)]) (st := []) rfl rfl rfl ?_
    show Ex _ _ (cod m5_addTug 8, [some (.inl 1), some (.inr r), some (.inr p)], [.inr (sm (fun k => b2 (whz (swh (τ 4) r p 8) r (k : Int) = 8)) 12)], (zr τ 4 (swh (τ 4) r p 8))) _ _
    exact ex_r rfl trivial rfl (rfl)
  · refine Ex.call ?_ rfl rfl
    show Ex _ _ (cod m5_addTug 0, [some (.inl 2), some (.inr r), some (.inr p)], [], τ) _ _
    refine ex_k 4 (P := none) (g := (cod m5_addTug 4, [some (.inl 2), some (.inr r), some (.inr p)], [.inr 8, .inr p, .inr r, .inl 2], τ)) rfl trivial ?_
    refine ex_c (s_setWho (τ := τ) (r := r) (p := p) (v := 8) (Or.inr (Or.inl ⟨rfl, rfl⟩)) (by omega) ⟨by omega, by omega⟩) (is := cod m5_addTug 5) (L := [some (.inl 2), some (.inr r), some (.inr p)]) (st := []) rfl rfl rfl ?_
    show Ex _ _ (cod m5_addTug 5, [some (.inl 2), some (.inr r), some (.inr p)], [], (zr τ 5 (swh (τ 5) r p 8))) _ _
    refine ex_k 2 (P := none) (g := (cod m5_addTug 7, [some (.inl 2), some (.inr r), some (.inr p)], [.inr r, .inl 2], (zr τ 5 (swh (τ 5) r p 8)))) rfl trivial ?_
    refine ex_c (s_tugsOn (τ := (zr τ 5 (swh (τ 5) r p 8))) (r := r) (Or.inr (Or.inl ⟨rfl, rfl⟩)) (by omega) hB2) (is := cod m5_addTug 8) (L := [some (.inl 2), some (.inr r), some (.inr p)]) (st := []) rfl rfl rfl ?_
    show Ex _ _ (cod m5_addTug 8, [some (.inl 2), some (.inr r), some (.inr p)], [.inr (sm (fun k => b2 (whz (swh (τ 5) r p 8) r (k : Int) = 8)) 12)], (zr τ 5 (swh (τ 5) r p 8))) _ _
    exact ex_r rfl trivial rfl (rfl)
  · refine Ex.call ?_ rfl rfl
    show Ex _ _ (cod m5_addTug 0, [some (.inl 3), some (.inr r), some (.inr p)], [], τ) _ _
    refine ex_k 4 (P := none) (g := (cod m5_addTug 4, [some (.inl 3), some (.inr r), some (.inr p)], [.inr 8, .inr p, .inr r, .inl 3], τ)) rfl trivial ?_
    refine ex_c (s_setWho (τ := τ) (r := r) (p := p) (v := 8) (Or.inr (Or.inr ⟨rfl, rfl⟩)) (by omega) ⟨by omega, by omega⟩) (is := cod m5_addTug 5) (L := [some (.inl 3), some (.inr r), some (.inr p)]) (st := []) rfl rfl rfl ?_
    show Ex _ _ (cod m5_addTug 5, [some (.inl 3), some (.inr r), some (.inr p)], [], (zr τ 6 (swh (τ 6) r p 8))) _ _
    refine ex_k 2 (P := none) (g := (cod m5_addTug 7, [some (.inl 3), some (.inr r), some (.inr p)], [.inr r, .inl 3], (zr τ 6 (swh (τ 6) r p 8)))) rfl trivial ?_
    refine ex_c (s_tugsOn (τ := (zr τ 6 (swh (τ 6) r p 8))) (r := r) (Or.inr (Or.inr ⟨rfl, rfl⟩)) (by omega) hB2) (is := cod m5_addTug 8) (L := [some (.inl 3), some (.inr r), some (.inr p)]) (st := []) rfl rfl rfl ?_
    show Ex _ _ (cod m5_addTug 8, [some (.inl 3), some (.inr r), some (.inr p)], [.inr (sm (fun k => b2 (whz (swh (τ 6) r p 8) r (k : Int) = 8)) 12)], (zr τ 6 (swh (τ 6) r p 8))) _ _
    exact ex_r rfl trivial rfl (rfl)
def crw (c : Nat → Int) (f r : Int) : Nat → Int := if 0 < usz c r (cel c (0 + f * 6 + (1 + r))) ∧ cel c (0 + f * 6 + 3) = 0 then (sce (sus (sce c (0 + f * 6 + 3) 1) r (cel c (0 + f * 6 + (1 + r))) ((usz c r (cel c (0 + f * 6 + (1 + r)))) - 1)) 105 (cel (sus (sce c (0 + f * 6 + 3) 1) r (cel c (0 + f * 6 + (1 + r))) ((usz c r (cel c (0 + f * 6 + (1 + r)))) - 1)) 105 + 1)) else c
theorem s_crownAtLock {ρ a : Nat} {f r : Int} {τ : SZ} (hρ : RA ρ a) (hf : -1000 ≤ f ∧ f ≤ 1000) (hr : 0 ≤ r ∧ r < 2) (hB : Bd (τ a)) : RZ 4 m5_crownAtLock [.inl ρ, .inr f, .inr r] τ (.inl (none, zr τ a (crw (τ a) f r))) := by
  have hb1 := cel_bd hB (0 + f * 6 + (1 + r))
  have hb2 := usz_bd hB r (cel (τ a) (0 + f * 6 + (1 + r)))
  have hb3 := cel_bd hB (0 + f * 6 + 3)
  rcases hρ with ⟨rfl, rfl⟩ | ⟨rfl, rfl⟩ | ⟨rfl, rfl⟩
  · refine Ex.call ?_ rfl rfl
    show Ex _ _ (cod m5_crownAtLock 0, [some (.inl 1), some (.inr f), some (.inr r), none, none], [], τ) _ _
    refine ex_k 5 (P := none) (g := (cod m5_crownAtLock 5, [some (.inl 1), some (.inr f), some (.inr r), none, none], [.inr (1 + r), .inr f, .inl 1], τ)) rfl trivial ?_
    refine ex_c (s_number (τ := τ) (f := f) (w := 1 + r) (Or.inl ⟨rfl, rfl⟩) (by omega) (by omega)) (is := cod m5_crownAtLock 6) (L := [some (.inl 1), some (.inr f), some (.inr r), none, none]) (st := []) rfl rfl rfl ?_
    show Ex _ _ (cod m5_crownAtLock 6, [some (.inl 1), some (.inr f), some (.inr r), none, none], [.inr (cel (τ 4) (0 + f * 6 + (1 + r)))], τ) _ _
    refine ex_k 4 (P := none) (g := (cod m5_crownAtLock 10, [some (.inl 1), some (.inr f), some (.inr r), some (.inr (cel (τ 4) (0 + f * 6 + (1 + r)))), none], [.inr (cel (τ 4) (0 + f * 6 + (1 + r))), .inr r, .inl 1], τ)) rfl trivial ?_
    refine ex_c (s_usesAt (τ := τ) (r := r) (p := cel (τ 4) (0 + f * 6 + (1 + r))) (Or.inl ⟨rfl, rfl⟩) (by omega) ⟨by omega, by omega⟩) (is := cod m5_crownAtLock 11) (L := [some (.inl 1), some (.inr f), some (.inr r), some (.inr (cel (τ 4) (0 + f * 6 + (1 + r)))), none]) (st := []) rfl rfl rfl ?_
    show Ex _ _ (cod m5_crownAtLock 11, [some (.inl 1), some (.inr f), some (.inr r), some (.inr (cel (τ 4) (0 + f * 6 + (1 + r)))), none], [.inr (usz (τ 4) r (cel (τ 4) (0 + f * 6 + (1 + r))))], τ) _ _
    refine ex_k 2 (P := none) (g := (cod m5_crownAtLock 13, [some (.inl 1), some (.inr f), some (.inr r), some (.inr (cel (τ 4) (0 + f * 6 + (1 + r)))), some (.inr (usz (τ 4) r (cel (τ 4) (0 + f * 6 + (1 + r)))))], [.inr (usz (τ 4) r (cel (τ 4) (0 + f * 6 + (1 + r))))], τ)) rfl trivial ?_
    refine ex_b (P := (usz (τ 4) r (cel (τ 4) (0 + f * 6 + (1 + r)))) ≤ 0) (ct := (cod m5_crownAtLock 35, [some (.inl 1), some (.inr f), some (.inr r), some (.inr (cel (τ 4) (0 + f * 6 + (1 + r)))), some (.inr (usz (τ 4) r (cel (τ 4) (0 + f * 6 + (1 + r)))))], [], τ)) (cf := (cod m5_crownAtLock 14, [some (.inl 1), some (.inr f), some (.inr r), some (.inr (cel (τ 4) (0 + f * 6 + (1 + r)))), some (.inr (usz (τ 4) r (cel (τ 4) (0 + f * 6 + (1 + r)))))], [], τ)) rfl ⟨by omega, by omega⟩ (fun h1 => ?_) (fun h1 => ?_)
    · first
      | (exfalso; omega)
      | (
          exact ex_r rfl rfl rfl (rV (by unfold crw; first | (rw [if_pos (show _ ∧ _ from ⟨by omega, by omega⟩)]; simp only [zr_zr]; done) | (rw [if_neg (fun q => by have q1 := q.1; have q2 := q.2; omega)]; exact zr_self.symm) | (rw [if_neg (fun q => by have q1 := q.1; have q2 := q.2; omega)]; exact zr_self))))
    · first
      | (exfalso; omega)
      | (
          refine ex_k 3 (P := none) (g := (cod m5_crownAtLock 17, [some (.inl 1), some (.inr f), some (.inr r), some (.inr (cel (τ 4) (0 + f * 6 + (1 + r)))), some (.inr (usz (τ 4) r (cel (τ 4) (0 + f * 6 + (1 + r)))))], [.inr 3, .inr f, .inl 1], τ)) rfl trivial ?_
          refine ex_c (s_number (τ := τ) (f := f) (w := 3) (Or.inl ⟨rfl, rfl⟩) (by omega) (by omega)) (is := cod m5_crownAtLock 18) (L := [some (.inl 1), some (.inr f), some (.inr r), some (.inr (cel (τ 4) (0 + f * 6 + (1 + r)))), some (.inr (usz (τ 4) r (cel (τ 4) (0 + f * 6 + (1 + r)))))]) (st := []) rfl rfl rfl ?_
          show Ex _ _ (cod m5_crownAtLock 18, [some (.inl 1), some (.inr f), some (.inr r), some (.inr (cel (τ 4) (0 + f * 6 + (1 + r)))), some (.inr (usz (τ 4) r (cel (τ 4) (0 + f * 6 + (1 + r)))))], [.inr (cel (τ 4) (0 + f * 6 + 3))], τ) _ _
          refine ex_b (P := ¬ (cel (τ 4) (0 + f * 6 + 3)) = 0) (ct := (cod m5_crownAtLock 35, [some (.inl 1), some (.inr f), some (.inr r), some (.inr (cel (τ 4) (0 + f * 6 + (1 + r)))), some (.inr (usz (τ 4) r (cel (τ 4) (0 + f * 6 + (1 + r)))))], [], τ)) (cf := (cod m5_crownAtLock 19, [some (.inl 1), some (.inr f), some (.inr r), some (.inr (cel (τ 4) (0 + f * 6 + (1 + r)))), some (.inr (usz (τ 4) r (cel (τ 4) (0 + f * 6 + (1 + r)))))], [], τ)) rfl ⟨by omega, by omega⟩ (fun h2 => ?_) (fun h2 => ?_)
          · first
            | (exfalso; omega)
            | (
                exact ex_r rfl rfl rfl (rV (by unfold crw; first | (rw [if_pos (show _ ∧ _ from ⟨by omega, by omega⟩)]; simp only [zr_zr]; done) | (rw [if_neg (fun q => by have q1 := q.1; have q2 := q.2; omega)]; exact zr_self.symm) | (rw [if_neg (fun q => by have q1 := q.1; have q2 := q.2; omega)]; exact zr_self))))
          · first
            | (exfalso; omega)
            | (
                refine ex_k 4 (P := none) (g := (cod m5_crownAtLock 23, [some (.inl 1), some (.inr f), some (.inr r), some (.inr (cel (τ 4) (0 + f * 6 + (1 + r)))), some (.inr (usz (τ 4) r (cel (τ 4) (0 + f * 6 + (1 + r)))))], [.inr 1, .inr 3, .inr f, .inl 1], τ)) rfl trivial ?_
                refine ex_c (s_setNumber (τ := τ) (f := f) (w := 3) (v := 1) (Or.inl ⟨rfl, rfl⟩) (by omega) (by omega)) (is := cod m5_crownAtLock 24) (L := [some (.inl 1), some (.inr f), some (.inr r), some (.inr (cel (τ 4) (0 + f * 6 + (1 + r)))), some (.inr (usz (τ 4) r (cel (τ 4) (0 + f * 6 + (1 + r)))))]) (st := []) rfl rfl rfl ?_
                show Ex _ _ (cod m5_crownAtLock 24, [some (.inl 1), some (.inr f), some (.inr r), some (.inr (cel (τ 4) (0 + f * 6 + (1 + r)))), some (.inr (usz (τ 4) r (cel (τ 4) (0 + f * 6 + (1 + r)))))], [], (zr τ 4 (sce (τ 4) (0 + f * 6 + 3) 1))) _ _
                refine ex_k 6 (P := none) (g := (cod m5_crownAtLock 30, [some (.inl 1), some (.inr f), some (.inr r), some (.inr (cel (τ 4) (0 + f * 6 + (1 + r)))), some (.inr (usz (τ 4) r (cel (τ 4) (0 + f * 6 + (1 + r)))))], [.inr ((usz (τ 4) r (cel (τ 4) (0 + f * 6 + (1 + r)))) - 1), .inr (cel (τ 4) (0 + f * 6 + (1 + r))), .inr r, .inl 1], (zr τ 4 (sce (τ 4) (0 + f * 6 + 3) 1)))) rfl trivial ?_
                refine ex_c (s_setUses (τ := (zr τ 4 (sce (τ 4) (0 + f * 6 + 3) 1))) (r := r) (p := cel (τ 4) (0 + f * 6 + (1 + r))) (v := (usz (τ 4) r (cel (τ 4) (0 + f * 6 + (1 + r)))) - 1) (Or.inl ⟨rfl, rfl⟩) (by omega) ⟨by omega, by omega⟩) (is := cod m5_crownAtLock 31) (L := [some (.inl 1), some (.inr f), some (.inr r), some (.inr (cel (τ 4) (0 + f * 6 + (1 + r)))), some (.inr (usz (τ 4) r (cel (τ 4) (0 + f * 6 + (1 + r)))))]) (st := []) rfl rfl rfl ?_
                show Ex _ _ (cod m5_crownAtLock 31, [some (.inl 1), some (.inr f), some (.inr r), some (.inr (cel (τ 4) (0 + f * 6 + (1 + r)))), some (.inr (usz (τ 4) r (cel (τ 4) (0 + f * 6 + (1 + r)))))], [], (zr (zr τ 4 (sce (τ 4) (0 + f * 6 + 3) 1)) 4 (sus (sce (τ 4) (0 + f * 6 + 3) 1) r (cel (τ 4) (0 + f * 6 + (1 + r))) ((usz (τ 4) r (cel (τ 4) (0 + f * 6 + (1 + r)))) - 1)))) _ _
                refine ex_k 3 (P := none) (g := (cod m5_crownAtLock 34, [some (.inl 1), some (.inr f), some (.inr r), some (.inr (cel (τ 4) (0 + f * 6 + (1 + r)))), some (.inr (usz (τ 4) r (cel (τ 4) (0 + f * 6 + (1 + r)))))], [.inr 1, .inr 5, .inl 1], (zr (zr τ 4 (sce (τ 4) (0 + f * 6 + 3) 1)) 4 (sus (sce (τ 4) (0 + f * 6 + 3) 1) r (cel (τ 4) (0 + f * 6 + (1 + r))) ((usz (τ 4) r (cel (τ 4) (0 + f * 6 + (1 + r)))) - 1))))) rfl trivial ?_
                refine ex_c (s_addToTotal (τ := (zr (zr τ 4 (sce (τ 4) (0 + f * 6 + 3) 1)) 4 (sus (sce (τ 4) (0 + f * 6 + 3) 1) r (cel (τ 4) (0 + f * 6 + (1 + r))) ((usz (τ 4) r (cel (τ 4) (0 + f * 6 + (1 + r)))) - 1)))) (w := 5) (m := 1) (Or.inl ⟨rfl, rfl⟩) (by omega)) (is := cod m5_crownAtLock 35) (L := [some (.inl 1), some (.inr f), some (.inr r), some (.inr (cel (τ 4) (0 + f * 6 + (1 + r)))), some (.inr (usz (τ 4) r (cel (τ 4) (0 + f * 6 + (1 + r)))))]) (st := []) rfl rfl rfl ?_
                show Ex _ _ (cod m5_crownAtLock 35, [some (.inl 1), some (.inr f), some (.inr r), some (.inr (cel (τ 4) (0 + f * 6 + (1 + r)))), some (.inr (usz (τ 4) r (cel (τ 4) (0 + f * 6 + (1 + r)))))], [], (zr (zr (zr τ 4 (sce (τ 4) (0 + f * 6 + 3) 1)) 4 (sus (sce (τ 4) (0 + f * 6 + 3) 1) r (cel (τ 4) (0 + f * 6 + (1 + r))) ((usz (τ 4) r (cel (τ 4) (0 + f * 6 + (1 + r)))) - 1))) 4 (sce (sus (sce (τ 4) (0 + f * 6 + 3) 1) r (cel (τ 4) (0 + f * 6 + (1 + r))) ((usz (τ 4) r (cel (τ 4) (0 + f * 6 + (1 + r)))) - 1)) 105 (cel (sus (sce (τ 4) (0 + f * 6 + 3) 1) r (cel (τ 4) (0 + f * 6 + (1 + r))) ((usz (τ 4) r (cel (τ 4) (0 + f * 6 + (1 + r)))) - 1)) 105 + 1)))) _ _
                exact ex_r rfl rfl rfl (rV (by unfold crw; first | (rw [if_pos (show _ ∧ _ from ⟨by omega, by omega⟩)]; simp only [zr_zr]; done) | (rw [if_neg (fun q => by have q1 := q.1; have q2 := q.2; omega)]; exact zr_self.symm) | (rw [if_neg (fun q => by have q1 := q.1; have q2 := q.2; omega)]; exact zr_self)))))
  · refine Ex.call ?_ rfl rfl
    show Ex _ _ (cod m5_crownAtLock 0, [some (.inl 2), some (.inr f), some (.inr r), none, none], [], τ) _ _
    refine ex_k 5 (P := none) (g := (cod m5_crownAtLock 5, [some (.inl 2), some (.inr f), some (.inr r), none, none], [.inr (1 + r), .inr f, .inl 2], τ)) rfl trivial ?_
    refine ex_c (s_number (τ := τ) (f := f) (w := 1 + r) (Or.inr (Or.inl ⟨rfl, rfl⟩)) (by omega) (by omega)) (is := cod m5_crownAtLock 6) (L := [some (.inl 2), some (.inr f), some (.inr r), none, none]) (st := []) rfl rfl rfl ?_
    show Ex _ _ (cod m5_crownAtLock 6, [some (.inl 2), some (.inr f), some (.inr r), none, none], [.inr (cel (τ 5) (0 + f * 6 + (1 + r)))], τ) _ _
    refine ex_k 4 (P := none) (g := (cod m5_crownAtLock 10, [some (.inl 2), some (.inr f), some (.inr r), some (.inr (cel (τ 5) (0 + f * 6 + (1 + r)))), none], [.inr (cel (τ 5) (0 + f * 6 + (1 + r))), .inr r, .inl 2], τ)) rfl trivial ?_
    refine ex_c (s_usesAt (τ := τ) (r := r) (p := cel (τ 5) (0 + f * 6 + (1 + r))) (Or.inr (Or.inl ⟨rfl, rfl⟩)) (by omega) ⟨by omega, by omega⟩) (is := cod m5_crownAtLock 11) (L := [some (.inl 2), some (.inr f), some (.inr r), some (.inr (cel (τ 5) (0 + f * 6 + (1 + r)))), none]) (st := []) rfl rfl rfl ?_
    show Ex _ _ (cod m5_crownAtLock 11, [some (.inl 2), some (.inr f), some (.inr r), some (.inr (cel (τ 5) (0 + f * 6 + (1 + r)))), none], [.inr (usz (τ 5) r (cel (τ 5) (0 + f * 6 + (1 + r))))], τ) _ _
    refine ex_k 2 (P := none) (g := (cod m5_crownAtLock 13, [some (.inl 2), some (.inr f), some (.inr r), some (.inr (cel (τ 5) (0 + f * 6 + (1 + r)))), some (.inr (usz (τ 5) r (cel (τ 5) (0 + f * 6 + (1 + r)))))], [.inr (usz (τ 5) r (cel (τ 5) (0 + f * 6 + (1 + r))))], τ)) rfl trivial ?_
    refine ex_b (P := (usz (τ 5) r (cel (τ 5) (0 + f * 6 + (1 + r)))) ≤ 0) (ct := (cod m5_crownAtLock 35, [some (.inl 2), some (.inr f), some (.inr r), some (.inr (cel (τ 5) (0 + f * 6 + (1 + r)))), some (.inr (usz (τ 5) r (cel (τ 5) (0 + f * 6 + (1 + r)))))], [], τ)) (cf := (cod m5_crownAtLock 14, [some (.inl 2), some (.inr f), some (.inr r), some (.inr (cel (τ 5) (0 + f * 6 + (1 + r)))), some (.inr (usz (τ 5) r (cel (τ 5) (0 + f * 6 + (1 + r)))))], [], τ)) rfl ⟨by omega, by omega⟩ (fun h1 => ?_) (fun h1 => ?_)
    · first
      | (exfalso; omega)
      | (
          exact ex_r rfl rfl rfl (rV (by unfold crw; first | (rw [if_pos (show _ ∧ _ from ⟨by omega, by omega⟩)]; simp only [zr_zr]; done) | (rw [if_neg (fun q => by have q1 := q.1; have q2 := q.2; omega)]; exact zr_self.symm) | (rw [if_neg (fun q => by have q1 := q.1; have q2 := q.2; omega)]; exact zr_self))))
    · first
      | (exfalso; omega)
      | (
          refine ex_k 3 (P := none) (g := (cod m5_crownAtLock 17, [some (.inl 2), some (.inr f), some (.inr r), some (.inr (cel (τ 5) (0 + f * 6 + (1 + r)))), some (.inr (usz (τ 5) r (cel (τ 5) (0 + f * 6 + (1 + r)))))], [.inr 3, .inr f, .inl 2], τ)) rfl trivial ?_
          refine ex_c (s_number (τ := τ) (f := f) (w := 3) (Or.inr (Or.inl ⟨rfl, rfl⟩)) (by omega) (by omega)) (is := cod m5_crownAtLock 18) (L := [some (.inl 2), some (.inr f), some (.inr r), some (.inr (cel (τ 5) (0 + f * 6 + (1 + r)))), some (.inr (usz (τ 5) r (cel (τ 5) (0 + f * 6 + (1 + r)))))]) (st := []) rfl rfl rfl ?_
          show Ex _ _ (cod m5_crownAtLock 18, [some (.inl 2), some (.inr f), some (.inr r), some (.inr (cel (τ 5) (0 + f * 6 + (1 + r)))), some (.inr (usz (τ 5) r (cel (τ 5) (0 + f * 6 + (1 + r)))))], [.inr (cel (τ 5) (0 + f * 6 + 3))], τ) _ _
          refine ex_b (P := ¬ (cel (τ 5) (0 + f * 6 + 3)) = 0) (ct := (cod m5_crownAtLock 35, [some (.inl 2), some (.inr f), some (.inr r), some (.inr (cel (τ 5) (0 + f * 6 + (1 + r)))), some (.inr (usz (τ 5) r (cel (τ 5) (0 + f * 6 + (1 + r)))))], [], τ)) (cf := (cod m5_crownAtLock 19, [some (.inl 2), some (.inr f), some (.inr r), some (.inr (cel (τ 5) (0 + f * 6 + (1 + r)))), some (.inr (usz (τ 5) r (cel (τ 5) (0 + f * 6 + (1 + r)))))], [], τ)) rfl ⟨by omega, by omega⟩ (fun h2 => ?_) (fun h2 => ?_)
          · first
            | (exfalso; omega)
            | (
                exact ex_r rfl rfl rfl (rV (by unfold crw; first | (rw [if_pos (show _ ∧ _ from ⟨by omega, by omega⟩)]; simp only [zr_zr]; done) | (rw [if_neg (fun q => by have q1 := q.1; have q2 := q.2; omega)]; exact zr_self.symm) | (rw [if_neg (fun q => by have q1 := q.1; have q2 := q.2; omega)]; exact zr_self))))
          · first
            | (exfalso; omega)
            | (
                refine ex_k 4 (P := none) (g := (cod m5_crownAtLock 23, [some (.inl 2), some (.inr f), some (.inr r), some (.inr (cel (τ 5) (0 + f * 6 + (1 + r)))), some (.inr (usz (τ 5) r (cel (τ 5) (0 + f * 6 + (1 + r)))))], [.inr 1, .inr 3, .inr f, .inl 2], τ)) rfl trivial ?_
                refine ex_c (s_setNumber (τ := τ) (f := f) (w := 3) (v := 1) (Or.inr (Or.inl ⟨rfl, rfl⟩)) (by omega) (by omega)) (is := cod m5_crownAtLock 24) (L := [some (.inl 2), some (.inr f), some (.inr r), some (.inr (cel (τ 5) (0 + f * 6 + (1 + r)))), some (.inr (usz (τ 5) r (cel (τ 5) (0 + f * 6 + (1 + r)))))]) (st := []) rfl rfl rfl ?_
                show Ex _ _ (cod m5_crownAtLock 24, [some (.inl 2), some (.inr f), some (.inr r), some (.inr (cel (τ 5) (0 + f * 6 + (1 + r)))), some (.inr (usz (τ 5) r (cel (τ 5) (0 + f * 6 + (1 + r)))))], [], (zr τ 5 (sce (τ 5) (0 + f * 6 + 3) 1))) _ _
                refine ex_k 6 (P := none) (g := (cod m5_crownAtLock 30, [some (.inl 2), some (.inr f), some (.inr r), some (.inr (cel (τ 5) (0 + f * 6 + (1 + r)))), some (.inr (usz (τ 5) r (cel (τ 5) (0 + f * 6 + (1 + r)))))], [.inr ((usz (τ 5) r (cel (τ 5) (0 + f * 6 + (1 + r)))) - 1), .inr (cel (τ 5) (0 + f * 6 + (1 + r))), .inr r, .inl 2], (zr τ 5 (sce (τ 5) (0 + f * 6 + 3) 1)))) rfl trivial ?_
                refine ex_c (s_setUses (τ := (zr τ 5 (sce (τ 5) (0 + f * 6 + 3) 1))) (r := r) (p := cel (τ 5) (0 + f * 6 + (1 + r))) (v := (usz (τ 5) r (cel (τ 5) (0 + f * 6 + (1 + r)))) - 1) (Or.inr (Or.inl ⟨rfl, rfl⟩)) (by omega) ⟨by omega, by omega⟩) (is := cod m5_crownAtLock 31) (L := [some (.inl 2), some (.inr f), some (.inr r), some (.inr (cel (τ 5) (0 + f * 6 + (1 + r)))), some (.inr (usz (τ 5) r (cel (τ 5) (0 + f * 6 + (1 + r)))))]) (st := []) rfl rfl rfl ?_
                show Ex _ _ (cod m5_crownAtLock 31, [some (.inl 2), some (.inr f), some (.inr r), some (.inr (cel (τ 5) (0 + f * 6 + (1 + r)))), some (.inr (usz (τ 5) r (cel (τ 5) (0 + f * 6 + (1 + r)))))], [], (zr (zr τ 5 (sce (τ 5) (0 + f * 6 + 3) 1)) 5 (sus (sce (τ 5) (0 + f * 6 + 3) 1) r (cel (τ 5) (0 + f * 6 + (1 + r))) ((usz (τ 5) r (cel (τ 5) (0 + f * 6 + (1 + r)))) - 1)))) _ _
                refine ex_k 3 (P := none) (g := (cod m5_crownAtLock 34, [some (.inl 2), some (.inr f), some (.inr r), some (.inr (cel (τ 5) (0 + f * 6 + (1 + r)))), some (.inr (usz (τ 5) r (cel (τ 5) (0 + f * 6 + (1 + r)))))], [.inr 1, .inr 5, .inl 2], (zr (zr τ 5 (sce (τ 5) (0 + f * 6 + 3) 1)) 5 (sus (sce (τ 5) (0 + f * 6 + 3) 1) r (cel (τ 5) (0 + f * 6 + (1 + r))) ((usz (τ 5) r (cel (τ 5) (0 + f * 6 + (1 + r)))) - 1))))) rfl trivial ?_
                refine ex_c (s_addToTotal (τ := (zr (zr τ 5 (sce (τ 5) (0 + f * 6 + 3) 1)) 5 (sus (sce (τ 5) (0 + f * 6 + 3) 1) r (cel (τ 5) (0 + f * 6 + (1 + r))) ((usz (τ 5) r (cel (τ 5) (0 + f * 6 + (1 + r)))) - 1)))) (w := 5) (m := 1) (Or.inr (Or.inl ⟨rfl, rfl⟩)) (by omega)) (is := cod m5_crownAtLock 35) (L := [some (.inl 2), some (.inr f), some (.inr r), some (.inr (cel (τ 5) (0 + f * 6 + (1 + r)))), some (.inr (usz (τ 5) r (cel (τ 5) (0 + f * 6 + (1 + r)))))]) (st := []) rfl rfl rfl ?_
                show Ex _ _ (cod m5_crownAtLock 35, [some (.inl 2), some (.inr f), some (.inr r), some (.inr (cel (τ 5) (0 + f * 6 + (1 + r)))), some (.inr (usz (τ 5) r (cel (τ 5) (0 + f * 6 + (1 + r)))))], [], (zr (zr (zr τ 5 (sce (τ 5) (0 + f * 6 + 3) 1)) 5 (sus (sce (τ 5) (0 + f * 6 + 3) 1) r (cel (τ 5) (0 + f * 6 + (1 + r))) ((usz (τ 5) r (cel (τ 5) (0 + f * 6 + (1 + r)))) - 1))) 5 (sce (sus (sce (τ 5) (0 + f * 6 + 3) 1) r (cel (τ 5) (0 + f * 6 + (1 + r))) ((usz (τ 5) r (cel (τ 5) (0 + f * 6 + (1 + r)))) - 1)) 105 (cel (sus (sce (τ 5) (0 + f * 6 + 3) 1) r (cel (τ 5) (0 + f * 6 + (1 + r))) ((usz (τ 5) r (cel (τ 5) (0 + f * 6 + (1 + r)))) - 1)) 105 + 1)))) _ _
                exact ex_r rfl rfl rfl (rV (by unfold crw; first | (rw [if_pos (show _ ∧ _ from ⟨by omega, by omega⟩)]; simp only [zr_zr]; done) | (rw [if_neg (fun q => by have q1 := q.1; have q2 := q.2; omega)]; exact zr_self.symm) | (rw [if_neg (fun q => by have q1 := q.1; have q2 := q.2; omega)]; exact zr_self)))))
  · refine Ex.call ?_ rfl rfl
    show Ex _ _ (cod m5_crownAtLock 0, [some (.inl 3), some (.inr f), some (.inr r), none, none], [], τ) _ _
    refine ex_k 5 (P := none) (g := (cod m5_crownAtLock 5, [some (.inl 3), some (.inr f), some (.inr r), none, none], [.inr (1 + r), .inr f, .inl 3], τ)) rfl trivial ?_
    refine ex_c (s_number (τ := τ) (f := f) (w := 1 + r) (Or.inr (Or.inr ⟨rfl, rfl⟩)) (by omega) (by omega)) (is := cod m5_crownAtLock 6) (L := [some (.inl 3), some (.inr f), some (.inr r), none, none]) (st := []) rfl rfl rfl ?_
    show Ex _ _ (cod m5_crownAtLock 6, [some (.inl 3), some (.inr f), some (.inr r), none, none], [.inr (cel (τ 6) (0 + f * 6 + (1 + r)))], τ) _ _
    refine ex_k 4 (P := none) (g := (cod m5_crownAtLock 10, [some (.inl 3), some (.inr f), some (.inr r), some (.inr (cel (τ 6) (0 + f * 6 + (1 + r)))), none], [.inr (cel (τ 6) (0 + f * 6 + (1 + r))), .inr r, .inl 3], τ)) rfl trivial ?_
    refine ex_c (s_usesAt (τ := τ) (r := r) (p := cel (τ 6) (0 + f * 6 + (1 + r))) (Or.inr (Or.inr ⟨rfl, rfl⟩)) (by omega) ⟨by omega, by omega⟩) (is := cod m5_crownAtLock 11) (L := [some (.inl 3), some (.inr f), some (.inr r), some (.inr (cel (τ 6) (0 + f * 6 + (1 + r)))), none]) (st := []) rfl rfl rfl ?_
    show Ex _ _ (cod m5_crownAtLock 11, [some (.inl 3), some (.inr f), some (.inr r), some (.inr (cel (τ 6) (0 + f * 6 + (1 + r)))), none], [.inr (usz (τ 6) r (cel (τ 6) (0 + f * 6 + (1 + r))))], τ) _ _
    refine ex_k 2 (P := none) (g := (cod m5_crownAtLock 13, [some (.inl 3), some (.inr f), some (.inr r), some (.inr (cel (τ 6) (0 + f * 6 + (1 + r)))), some (.inr (usz (τ 6) r (cel (τ 6) (0 + f * 6 + (1 + r)))))], [.inr (usz (τ 6) r (cel (τ 6) (0 + f * 6 + (1 + r))))], τ)) rfl trivial ?_
    refine ex_b (P := (usz (τ 6) r (cel (τ 6) (0 + f * 6 + (1 + r)))) ≤ 0) (ct := (cod m5_crownAtLock 35, [some (.inl 3), some (.inr f), some (.inr r), some (.inr (cel (τ 6) (0 + f * 6 + (1 + r)))), some (.inr (usz (τ 6) r (cel (τ 6) (0 + f * 6 + (1 + r)))))], [], τ)) (cf := (cod m5_crownAtLock 14, [some (.inl 3), some (.inr f), some (.inr r), some (.inr (cel (τ 6) (0 + f * 6 + (1 + r)))), some (.inr (usz (τ 6) r (cel (τ 6) (0 + f * 6 + (1 + r)))))], [], τ)) rfl ⟨by omega, by omega⟩ (fun h1 => ?_) (fun h1 => ?_)
    · first
      | (exfalso; omega)
      | (
          exact ex_r rfl rfl rfl (rV (by unfold crw; first | (rw [if_pos (show _ ∧ _ from ⟨by omega, by omega⟩)]; simp only [zr_zr]; done) | (rw [if_neg (fun q => by have q1 := q.1; have q2 := q.2; omega)]; exact zr_self.symm) | (rw [if_neg (fun q => by have q1 := q.1; have q2 := q.2; omega)]; exact zr_self))))
    · first
      | (exfalso; omega)
      | (
          refine ex_k 3 (P := none) (g := (cod m5_crownAtLock 17, [some (.inl 3), some (.inr f), some (.inr r), some (.inr (cel (τ 6) (0 + f * 6 + (1 + r)))), some (.inr (usz (τ 6) r (cel (τ 6) (0 + f * 6 + (1 + r)))))], [.inr 3, .inr f, .inl 3], τ)) rfl trivial ?_
          refine ex_c (s_number (τ := τ) (f := f) (w := 3) (Or.inr (Or.inr ⟨rfl, rfl⟩)) (by omega) (by omega)) (is := cod m5_crownAtLock 18) (L := [some (.inl 3), some (.inr f), some (.inr r), some (.inr (cel (τ 6) (0 + f * 6 + (1 + r)))), some (.inr (usz (τ 6) r (cel (τ 6) (0 + f * 6 + (1 + r)))))]) (st := []) rfl rfl rfl ?_
          show Ex _ _ (cod m5_crownAtLock 18, [some (.inl 3), some (.inr f), some (.inr r), some (.inr (cel (τ 6) (0 + f * 6 + (1 + r)))), some (.inr (usz (τ 6) r (cel (τ 6) (0 + f * 6 + (1 + r)))))], [.inr (cel (τ 6) (0 + f * 6 + 3))], τ) _ _
          refine ex_b (P := ¬ (cel (τ 6) (0 + f * 6 + 3)) = 0) (ct := (cod m5_crownAtLock 35, [some (.inl 3), some (.inr f), some (.inr r), some (.inr (cel (τ 6) (0 + f * 6 + (1 + r)))), some (.inr (usz (τ 6) r (cel (τ 6) (0 + f * 6 + (1 + r)))))], [], τ)) (cf := (cod m5_crownAtLock 19, [some (.inl 3), some (.inr f), some (.inr r), some (.inr (cel (τ 6) (0 + f * 6 + (1 + r)))), some (.inr (usz (τ 6) r (cel (τ 6) (0 + f * 6 + (1 + r)))))], [], τ)) rfl ⟨by omega, by omega⟩ (fun h2 => ?_) (fun h2 => ?_)
          · first
            | (exfalso; omega)
            | (
                exact ex_r rfl rfl rfl (rV (by unfold crw; first | (rw [if_pos (show _ ∧ _ from ⟨by omega, by omega⟩)]; simp only [zr_zr]; done) | (rw [if_neg (fun q => by have q1 := q.1; have q2 := q.2; omega)]; exact zr_self.symm) | (rw [if_neg (fun q => by have q1 := q.1; have q2 := q.2; omega)]; exact zr_self))))
          · first
            | (exfalso; omega)
            | (
                refine ex_k 4 (P := none) (g := (cod m5_crownAtLock 23, [some (.inl 3), some (.inr f), some (.inr r), some (.inr (cel (τ 6) (0 + f * 6 + (1 + r)))), some (.inr (usz (τ 6) r (cel (τ 6) (0 + f * 6 + (1 + r)))))], [.inr 1, .inr 3, .inr f, .inl 3], τ)) rfl trivial ?_
                refine ex_c (s_setNumber (τ := τ) (f := f) (w := 3) (v := 1) (Or.inr (Or.inr ⟨rfl, rfl⟩)) (by omega) (by omega)) (is := cod m5_crownAtLock 24) (L := [some (.inl 3), some (.inr f), some (.inr r), some (.inr (cel (τ 6) (0 + f * 6 + (1 + r)))), some (.inr (usz (τ 6) r (cel (τ 6) (0 + f * 6 + (1 + r)))))]) (st := []) rfl rfl rfl ?_
                show Ex _ _ (cod m5_crownAtLock 24, [some (.inl 3), some (.inr f), some (.inr r), some (.inr (cel (τ 6) (0 + f * 6 + (1 + r)))), some (.inr (usz (τ 6) r (cel (τ 6) (0 + f * 6 + (1 + r)))))], [], (zr τ 6 (sce (τ 6) (0 + f * 6 + 3) 1))) _ _
                refine ex_k 6 (P := none) (g := (cod m5_crownAtLock 30, [some (.inl 3), some (.inr f), some (.inr r), some (.inr (cel (τ 6) (0 + f * 6 + (1 + r)))), some (.inr (usz (τ 6) r (cel (τ 6) (0 + f * 6 + (1 + r)))))], [.inr ((usz (τ 6) r (cel (τ 6) (0 + f * 6 + (1 + r)))) - 1), .inr (cel (τ 6) (0 + f * 6 + (1 + r))), .inr r, .inl 3], (zr τ 6 (sce (τ 6) (0 + f * 6 + 3) 1)))) rfl trivial ?_
                refine ex_c (s_setUses (τ := (zr τ 6 (sce (τ 6) (0 + f * 6 + 3) 1))) (r := r) (p := cel (τ 6) (0 + f * 6 + (1 + r))) (v := (usz (τ 6) r (cel (τ 6) (0 + f * 6 + (1 + r)))) - 1) (Or.inr (Or.inr ⟨rfl, rfl⟩)) (by omega) ⟨by omega, by omega⟩) (is := cod m5_crownAtLock 31) (L := [some (.inl 3), some (.inr f), some (.inr r), some (.inr (cel (τ 6) (0 + f * 6 + (1 + r)))), some (.inr (usz (τ 6) r (cel (τ 6) (0 + f * 6 + (1 + r)))))]) (st := []) rfl rfl rfl ?_
                show Ex _ _ (cod m5_crownAtLock 31, [some (.inl 3), some (.inr f), some (.inr r), some (.inr (cel (τ 6) (0 + f * 6 + (1 + r)))), some (.inr (usz (τ 6) r (cel (τ 6) (0 + f * 6 + (1 + r)))))], [], (zr (zr τ 6 (sce (τ 6) (0 + f * 6 + 3) 1)) 6 (sus (sce (τ 6) (0 + f * 6 + 3) 1) r (cel (τ 6) (0 + f * 6 + (1 + r))) ((usz (τ 6) r (cel (τ 6) (0 + f * 6 + (1 + r)))) - 1)))) _ _
                refine ex_k 3 (P := none) (g := (cod m5_crownAtLock 34, [some (.inl 3), some (.inr f), some (.inr r), some (.inr (cel (τ 6) (0 + f * 6 + (1 + r)))), some (.inr (usz (τ 6) r (cel (τ 6) (0 + f * 6 + (1 + r)))))], [.inr 1, .inr 5, .inl 3], (zr (zr τ 6 (sce (τ 6) (0 + f * 6 + 3) 1)) 6 (sus (sce (τ 6) (0 + f * 6 + 3) 1) r (cel (τ 6) (0 + f * 6 + (1 + r))) ((usz (τ 6) r (cel (τ 6) (0 + f * 6 + (1 + r)))) - 1))))) rfl trivial ?_
                refine ex_c (s_addToTotal (τ := (zr (zr τ 6 (sce (τ 6) (0 + f * 6 + 3) 1)) 6 (sus (sce (τ 6) (0 + f * 6 + 3) 1) r (cel (τ 6) (0 + f * 6 + (1 + r))) ((usz (τ 6) r (cel (τ 6) (0 + f * 6 + (1 + r)))) - 1)))) (w := 5) (m := 1) (Or.inr (Or.inr ⟨rfl, rfl⟩)) (by omega)) (is := cod m5_crownAtLock 35) (L := [some (.inl 3), some (.inr f), some (.inr r), some (.inr (cel (τ 6) (0 + f * 6 + (1 + r)))), some (.inr (usz (τ 6) r (cel (τ 6) (0 + f * 6 + (1 + r)))))]) (st := []) rfl rfl rfl ?_
                show Ex _ _ (cod m5_crownAtLock 35, [some (.inl 3), some (.inr f), some (.inr r), some (.inr (cel (τ 6) (0 + f * 6 + (1 + r)))), some (.inr (usz (τ 6) r (cel (τ 6) (0 + f * 6 + (1 + r)))))], [], (zr (zr (zr τ 6 (sce (τ 6) (0 + f * 6 + 3) 1)) 6 (sus (sce (τ 6) (0 + f * 6 + 3) 1) r (cel (τ 6) (0 + f * 6 + (1 + r))) ((usz (τ 6) r (cel (τ 6) (0 + f * 6 + (1 + r)))) - 1))) 6 (sce (sus (sce (τ 6) (0 + f * 6 + 3) 1) r (cel (τ 6) (0 + f * 6 + (1 + r))) ((usz (τ 6) r (cel (τ 6) (0 + f * 6 + (1 + r)))) - 1)) 105 (cel (sus (sce (τ 6) (0 + f * 6 + 3) 1) r (cel (τ 6) (0 + f * 6 + (1 + r))) ((usz (τ 6) r (cel (τ 6) (0 + f * 6 + (1 + r)))) - 1)) 105 + 1)))) _ _
                exact ex_r rfl rfl rfl (rV (by unfold crw; first | (rw [if_pos (show _ ∧ _ from ⟨by omega, by omega⟩)]; simp only [zr_zr]; done) | (rw [if_neg (fun q => by have q1 := q.1; have q2 := q.2; omega)]; exact zr_self.symm) | (rw [if_neg (fun q => by have q1 := q.1; have q2 := q.2; omega)]; exact zr_self)))))
def dr1 (c : Nat → Int) (b w : Int) : Nat → Int := if 0 < cel c w then sce c b ((cel c b + 1) % 12) else c
def drf (c : Nat → Int) : Nat → Int := dr1 (dr1 c 96 98) 97 99
theorem s_driftFog {ρ a : Nat}  {τ : SZ} (hρ : RA ρ a) (hF : Fb (τ a)) (hB : Bd (τ a)) : RZ 3 m5_driftFog [.inl ρ] τ (.inl (none, zr τ a (drf (τ a)))) := by
  have hb1 := cel_bd hB 98
  have hb2 := cel_bd hB 99
  have hf1 : 0 ≤ cel (τ a) 96 ∧ cel (τ a) 96 < 12 := hF 0 (by omega) (by omega)
  have hf2 : 0 ≤ cel (τ a) 97 ∧ cel (τ a) 97 < 12 := hF 1 (by omega) (by omega)
  have e1 : cel (sce (τ a) 96 ((cel (τ a) 96 + 1) % 12)) 99 = cel (τ a) 99 := cel_ne (by omega)
  have e2 : cel (sce (τ a) 96 ((cel (τ a) 96 + 1) % 12)) 97 = cel (τ a) 97 := cel_ne (by omega)
  rcases hρ with ⟨rfl, rfl⟩ | ⟨rfl, rfl⟩ | ⟨rfl, rfl⟩
  · refine Ex.call ?_ rfl rfl
    show Ex _ _ (cod m5_driftFog 0, [some (.inl 1), none], [], τ) _ _
    refine ex_k 4 (P := none) (g := (cod m5_driftFog 4, [some (.inl 1), some (.inr 0)], [.inr 2, .inr 0], τ)) rfl trivial ?_
    refine ex_b (P := 2 ≤ 0) (ct := (cod m5_driftFog 23, [some (.inl 1), some (.inr 0)], [], τ)) (cf := (cod m5_driftFog 5, [some (.inl 1), some (.inr 0)], [], τ)) rfl ⟨⟨by decide, by decide⟩, ⟨by decide, by decide⟩⟩ (fun hh => absurd hh (by decide)) (fun _ => ?_)
    refine ex_k 2 (P := none) (g := (cod m5_driftFog 7, [some (.inl 1), some (.inr 0)], [.inr 0, .inl 1], τ)) rfl trivial ?_
    refine ex_c (s_fogWidth (τ := τ) (r := 0) (Or.inl ⟨rfl, rfl⟩) (by omega)) (is := cod m5_driftFog 8) (L := [some (.inl 1), some (.inr 0)]) (st := []) rfl rfl rfl ?_
    show Ex _ _ (cod m5_driftFog 8, [some (.inl 1), some (.inr 0)], [.inr (cel (τ 4) 98)], τ) _ _
    refine ex_b (P := (cel (τ 4) 98) ≤ 0) (ct := (cod m5_driftFog 21, [some (.inl 1), some (.inr 0)], [], τ)) (cf := (cod m5_driftFog 9, [some (.inl 1), some (.inr 0)], [], τ)) rfl ⟨by omega, by omega⟩ (fun h2 => ?_) (fun h2 => ?_)
    · first
      | (exfalso; omega)
      | (
          refine ex_k 4 (P := none) (g := (cod m5_driftFog 4, [some (.inl 1), some (.inr 1)], [.inr 2, .inr 1], τ)) rfl trivial ?_
          refine ex_b (P := 2 ≤ 1) (ct := (cod m5_driftFog 23, [some (.inl 1), some (.inr 1)], [], τ)) (cf := (cod m5_driftFog 5, [some (.inl 1), some (.inr 1)], [], τ)) rfl ⟨⟨by decide, by decide⟩, ⟨by decide, by decide⟩⟩ (fun hh => absurd hh (by decide)) (fun _ => ?_)
          refine ex_k 2 (P := none) (g := (cod m5_driftFog 7, [some (.inl 1), some (.inr 1)], [.inr 1, .inl 1], τ)) rfl trivial ?_
          refine ex_c (s_fogWidth (τ := τ) (r := 1) (Or.inl ⟨rfl, rfl⟩) (by omega)) (is := cod m5_driftFog 8) (L := [some (.inl 1), some (.inr 1)]) (st := []) rfl rfl rfl ?_
          show Ex _ _ (cod m5_driftFog 8, [some (.inl 1), some (.inr 1)], [.inr (cel (τ 4) 99)], τ) _ _
          refine ex_b (P := (cel (τ 4) 99) ≤ 0) (ct := (cod m5_driftFog 21, [some (.inl 1), some (.inr 1)], [], τ)) (cf := (cod m5_driftFog 9, [some (.inl 1), some (.inr 1)], [], τ)) rfl ⟨by omega, by omega⟩ (fun h4 => ?_) (fun h4 => ?_)
          · first
            | (exfalso; omega)
            | (
                refine ex_k 4 (P := none) (g := (cod m5_driftFog 4, [some (.inl 1), some (.inr 2)], [.inr 2, .inr 2], τ)) rfl trivial ?_
                refine ex_b (P := 2 ≤ 2) (ct := (cod m5_driftFog 23, [some (.inl 1), some (.inr 2)], [], τ)) (cf := (cod m5_driftFog 5, [some (.inl 1), some (.inr 2)], [], τ)) rfl ⟨⟨by decide, by decide⟩, ⟨by decide, by decide⟩⟩ (fun _ => ?_) (fun hh => absurd (by decide) hh)
                exact ex_r rfl rfl rfl (rV (by simp only [zr_zr]; unfold drf; (first | rw [show dr1 (τ 4) 96 98 = _ from if_pos (by omega)] | rw [show dr1 (τ 4) 96 98 = _ from if_neg (by omega)]); (first | rw [show dr1 _ 97 99 = _ from if_pos (by omega)] | rw [show dr1 _ 97 99 = _ from if_neg (by omega)]); (first | done | rfl | exact zr_self.symm | exact zr_self))))
          · first
            | (exfalso; omega)
            | (
                refine ex_k 6 (P := none) (g := (cod m5_driftFog 15, [some (.inl 1), some (.inr 1)], [.inr 1, .inl 1, .inr 97, .inl 1], τ)) rfl trivial ?_
                refine ex_c (s_fogBegin (τ := τ) (r := 1) (Or.inl ⟨rfl, rfl⟩) (by omega)) (is := cod m5_driftFog 16) (L := [some (.inl 1), some (.inr 1)]) (st := [.inr 97, .inl 1]) rfl rfl rfl ?_
                show Ex _ _ (cod m5_driftFog 16, [some (.inl 1), some (.inr 1)], [.inr (cel (τ 4) 97), .inr 97, .inl 1], τ) _ _
                refine ex_k 4 (P := some (0 ≤ ((cel (τ 4) 97) + 1) ∧ ((cel (τ 4) 97) + 1) < 2147483648 ∧ 0 < 12 ∧ 12 < 2147483648)) (g := (cod m5_driftFog 20, [some (.inl 1), some (.inr 1)], [.inr (((cel (τ 4) 97) + 1) % 12), .inr 97, .inl 1], τ)) rfl (by show 0 ≤ ((cel (τ 4) 97) + 1) ∧ ((cel (τ 4) 97) + 1) < 2147483648 ∧ 0 < 12 ∧ 12 < 2147483648; omega) ?_
                refine ex_c (s_setCell (τ := τ) (z := 97) (v := ((cel (τ 4) 97) + 1) % 12) (Or.inl ⟨rfl, rfl⟩) ⟨by omega, by omega⟩) (is := cod m5_driftFog 21) (L := [some (.inl 1), some (.inr 1)]) (st := []) rfl rfl rfl ?_
                show Ex _ _ (cod m5_driftFog 21, [some (.inl 1), some (.inr 1)], [], (zr τ 4 (sce (τ 4) 97 (((cel (τ 4) 97) + 1) % 12)))) _ _
                refine ex_k 4 (P := none) (g := (cod m5_driftFog 4, [some (.inl 1), some (.inr 2)], [.inr 2, .inr 2], (zr τ 4 (sce (τ 4) 97 (((cel (τ 4) 97) + 1) % 12))))) rfl trivial ?_
                refine ex_b (P := 2 ≤ 2) (ct := (cod m5_driftFog 23, [some (.inl 1), some (.inr 2)], [], (zr τ 4 (sce (τ 4) 97 (((cel (τ 4) 97) + 1) % 12))))) (cf := (cod m5_driftFog 5, [some (.inl 1), some (.inr 2)], [], (zr τ 4 (sce (τ 4) 97 (((cel (τ 4) 97) + 1) % 12))))) rfl ⟨⟨by decide, by decide⟩, ⟨by decide, by decide⟩⟩ (fun _ => ?_) (fun hh => absurd (by decide) hh)
                exact ex_r rfl rfl rfl (rV (by simp only [zr_zr]; unfold drf; (first | rw [show dr1 (τ 4) 96 98 = _ from if_pos (by omega)] | rw [show dr1 (τ 4) 96 98 = _ from if_neg (by omega)]); (first | rw [show dr1 _ 97 99 = _ from if_pos (by omega)] | rw [show dr1 _ 97 99 = _ from if_neg (by omega)]); (first | done | rfl | exact zr_self.symm | exact zr_self)))))
    · first
      | (exfalso; omega)
      | (
          refine ex_k 6 (P := none) (g := (cod m5_driftFog 15, [some (.inl 1), some (.inr 0)], [.inr 0, .inl 1, .inr 96, .inl 1], τ)) rfl trivial ?_
          refine ex_c (s_fogBegin (τ := τ) (r := 0) (Or.inl ⟨rfl, rfl⟩) (by omega)) (is := cod m5_driftFog 16) (L := [some (.inl 1), some (.inr 0)]) (st := [.inr 96, .inl 1]) rfl rfl rfl ?_
          show Ex _ _ (cod m5_driftFog 16, [some (.inl 1), some (.inr 0)], [.inr (cel (τ 4) 96), .inr 96, .inl 1], τ) _ _
          refine ex_k 4 (P := some (0 ≤ ((cel (τ 4) 96) + 1) ∧ ((cel (τ 4) 96) + 1) < 2147483648 ∧ 0 < 12 ∧ 12 < 2147483648)) (g := (cod m5_driftFog 20, [some (.inl 1), some (.inr 0)], [.inr (((cel (τ 4) 96) + 1) % 12), .inr 96, .inl 1], τ)) rfl (by show 0 ≤ ((cel (τ 4) 96) + 1) ∧ ((cel (τ 4) 96) + 1) < 2147483648 ∧ 0 < 12 ∧ 12 < 2147483648; omega) ?_
          refine ex_c (s_setCell (τ := τ) (z := 96) (v := ((cel (τ 4) 96) + 1) % 12) (Or.inl ⟨rfl, rfl⟩) ⟨by omega, by omega⟩) (is := cod m5_driftFog 21) (L := [some (.inl 1), some (.inr 0)]) (st := []) rfl rfl rfl ?_
          show Ex _ _ (cod m5_driftFog 21, [some (.inl 1), some (.inr 0)], [], (zr τ 4 (sce (τ 4) 96 (((cel (τ 4) 96) + 1) % 12)))) _ _
          refine ex_k 4 (P := none) (g := (cod m5_driftFog 4, [some (.inl 1), some (.inr 1)], [.inr 2, .inr 1], (zr τ 4 (sce (τ 4) 96 (((cel (τ 4) 96) + 1) % 12))))) rfl trivial ?_
          refine ex_b (P := 2 ≤ 1) (ct := (cod m5_driftFog 23, [some (.inl 1), some (.inr 1)], [], (zr τ 4 (sce (τ 4) 96 (((cel (τ 4) 96) + 1) % 12))))) (cf := (cod m5_driftFog 5, [some (.inl 1), some (.inr 1)], [], (zr τ 4 (sce (τ 4) 96 (((cel (τ 4) 96) + 1) % 12))))) rfl ⟨⟨by decide, by decide⟩, ⟨by decide, by decide⟩⟩ (fun hh => absurd hh (by decide)) (fun _ => ?_)
          refine ex_k 2 (P := none) (g := (cod m5_driftFog 7, [some (.inl 1), some (.inr 1)], [.inr 1, .inl 1], (zr τ 4 (sce (τ 4) 96 (((cel (τ 4) 96) + 1) % 12))))) rfl trivial ?_
          refine ex_c (s_fogWidth (τ := (zr τ 4 (sce (τ 4) 96 (((cel (τ 4) 96) + 1) % 12)))) (r := 1) (Or.inl ⟨rfl, rfl⟩) (by omega)) (is := cod m5_driftFog 8) (L := [some (.inl 1), some (.inr 1)]) (st := []) rfl rfl rfl ?_
          show Ex _ _ (cod m5_driftFog 8, [some (.inl 1), some (.inr 1)], [.inr (cel (sce (τ 4) 96 (((cel (τ 4) 96) + 1) % 12)) 99)], (zr τ 4 (sce (τ 4) 96 (((cel (τ 4) 96) + 1) % 12)))) _ _
          refine ex_b (P := (cel (sce (τ 4) 96 (((cel (τ 4) 96) + 1) % 12)) 99) ≤ 0) (ct := (cod m5_driftFog 21, [some (.inl 1), some (.inr 1)], [], (zr τ 4 (sce (τ 4) 96 (((cel (τ 4) 96) + 1) % 12))))) (cf := (cod m5_driftFog 9, [some (.inl 1), some (.inr 1)], [], (zr τ 4 (sce (τ 4) 96 (((cel (τ 4) 96) + 1) % 12))))) rfl ⟨by omega, by omega⟩ (fun h8 => ?_) (fun h8 => ?_)
          · first
            | (exfalso; omega)
            | (
                refine ex_k 4 (P := none) (g := (cod m5_driftFog 4, [some (.inl 1), some (.inr 2)], [.inr 2, .inr 2], (zr τ 4 (sce (τ 4) 96 (((cel (τ 4) 96) + 1) % 12))))) rfl trivial ?_
                refine ex_b (P := 2 ≤ 2) (ct := (cod m5_driftFog 23, [some (.inl 1), some (.inr 2)], [], (zr τ 4 (sce (τ 4) 96 (((cel (τ 4) 96) + 1) % 12))))) (cf := (cod m5_driftFog 5, [some (.inl 1), some (.inr 2)], [], (zr τ 4 (sce (τ 4) 96 (((cel (τ 4) 96) + 1) % 12))))) rfl ⟨⟨by decide, by decide⟩, ⟨by decide, by decide⟩⟩ (fun _ => ?_) (fun hh => absurd (by decide) hh)
                exact ex_r rfl rfl rfl (rV (by simp only [zr_zr]; unfold drf; (first | rw [show dr1 (τ 4) 96 98 = _ from if_pos (by omega)] | rw [show dr1 (τ 4) 96 98 = _ from if_neg (by omega)]); (first | rw [show dr1 _ 97 99 = _ from if_pos (by omega)] | rw [show dr1 _ 97 99 = _ from if_neg (by omega)]); (first | done | rfl | exact zr_self.symm | exact zr_self))))
          · first
            | (exfalso; omega)
            | (
                refine ex_k 6 (P := none) (g := (cod m5_driftFog 15, [some (.inl 1), some (.inr 1)], [.inr 1, .inl 1, .inr 97, .inl 1], (zr τ 4 (sce (τ 4) 96 (((cel (τ 4) 96) + 1) % 12))))) rfl trivial ?_
                refine ex_c (s_fogBegin (τ := (zr τ 4 (sce (τ 4) 96 (((cel (τ 4) 96) + 1) % 12)))) (r := 1) (Or.inl ⟨rfl, rfl⟩) (by omega)) (is := cod m5_driftFog 16) (L := [some (.inl 1), some (.inr 1)]) (st := [.inr 97, .inl 1]) rfl rfl rfl ?_
                show Ex _ _ (cod m5_driftFog 16, [some (.inl 1), some (.inr 1)], [.inr (cel (sce (τ 4) 96 (((cel (τ 4) 96) + 1) % 12)) 97), .inr 97, .inl 1], (zr τ 4 (sce (τ 4) 96 (((cel (τ 4) 96) + 1) % 12)))) _ _
                refine ex_k 4 (P := some (0 ≤ ((cel (sce (τ 4) 96 (((cel (τ 4) 96) + 1) % 12)) 97) + 1) ∧ ((cel (sce (τ 4) 96 (((cel (τ 4) 96) + 1) % 12)) 97) + 1) < 2147483648 ∧ 0 < 12 ∧ 12 < 2147483648)) (g := (cod m5_driftFog 20, [some (.inl 1), some (.inr 1)], [.inr (((cel (sce (τ 4) 96 (((cel (τ 4) 96) + 1) % 12)) 97) + 1) % 12), .inr 97, .inl 1], (zr τ 4 (sce (τ 4) 96 (((cel (τ 4) 96) + 1) % 12))))) rfl (by show 0 ≤ ((cel (sce (τ 4) 96 (((cel (τ 4) 96) + 1) % 12)) 97) + 1) ∧ ((cel (sce (τ 4) 96 (((cel (τ 4) 96) + 1) % 12)) 97) + 1) < 2147483648 ∧ 0 < 12 ∧ 12 < 2147483648; omega) ?_
                refine ex_c (s_setCell (τ := (zr τ 4 (sce (τ 4) 96 (((cel (τ 4) 96) + 1) % 12)))) (z := 97) (v := ((cel (sce (τ 4) 96 (((cel (τ 4) 96) + 1) % 12)) 97) + 1) % 12) (Or.inl ⟨rfl, rfl⟩) ⟨by omega, by omega⟩) (is := cod m5_driftFog 21) (L := [some (.inl 1), some (.inr 1)]) (st := []) rfl rfl rfl ?_
                show Ex _ _ (cod m5_driftFog 21, [some (.inl 1), some (.inr 1)], [], (zr (zr τ 4 (sce (τ 4) 96 (((cel (τ 4) 96) + 1) % 12))) 4 (sce (sce (τ 4) 96 (((cel (τ 4) 96) + 1) % 12)) 97 (((cel (sce (τ 4) 96 (((cel (τ 4) 96) + 1) % 12)) 97) + 1) % 12)))) _ _
                refine ex_k 4 (P := none) (g := (cod m5_driftFog 4, [some (.inl 1), some (.inr 2)], [.inr 2, .inr 2], (zr (zr τ 4 (sce (τ 4) 96 (((cel (τ 4) 96) + 1) % 12))) 4 (sce (sce (τ 4) 96 (((cel (τ 4) 96) + 1) % 12)) 97 (((cel (sce (τ 4) 96 (((cel (τ 4) 96) + 1) % 12)) 97) + 1) % 12))))) rfl trivial ?_
                refine ex_b (P := 2 ≤ 2) (ct := (cod m5_driftFog 23, [some (.inl 1), some (.inr 2)], [], (zr (zr τ 4 (sce (τ 4) 96 (((cel (τ 4) 96) + 1) % 12))) 4 (sce (sce (τ 4) 96 (((cel (τ 4) 96) + 1) % 12)) 97 (((cel (sce (τ 4) 96 (((cel (τ 4) 96) + 1) % 12)) 97) + 1) % 12))))) (cf := (cod m5_driftFog 5, [some (.inl 1), some (.inr 2)], [], (zr (zr τ 4 (sce (τ 4) 96 (((cel (τ 4) 96) + 1) % 12))) 4 (sce (sce (τ 4) 96 (((cel (τ 4) 96) + 1) % 12)) 97 (((cel (sce (τ 4) 96 (((cel (τ 4) 96) + 1) % 12)) 97) + 1) % 12))))) rfl ⟨⟨by decide, by decide⟩, ⟨by decide, by decide⟩⟩ (fun _ => ?_) (fun hh => absurd (by decide) hh)
                exact ex_r rfl rfl rfl (rV (by simp only [zr_zr]; unfold drf; (first | rw [show dr1 (τ 4) 96 98 = _ from if_pos (by omega)] | rw [show dr1 (τ 4) 96 98 = _ from if_neg (by omega)]); (first | rw [show dr1 _ 97 99 = _ from if_pos (by omega)] | rw [show dr1 _ 97 99 = _ from if_neg (by omega)]); (first | done | rfl | exact zr_self.symm | exact zr_self)))))
  · refine Ex.call ?_ rfl rfl
    show Ex _ _ (cod m5_driftFog 0, [some (.inl 2), none], [], τ) _ _
    refine ex_k 4 (P := none) (g := (cod m5_driftFog 4, [some (.inl 2), some (.inr 0)], [.inr 2, .inr 0], τ)) rfl trivial ?_
    refine ex_b (P := 2 ≤ 0) (ct := (cod m5_driftFog 23, [some (.inl 2), some (.inr 0)], [], τ)) (cf := (cod m5_driftFog 5, [some (.inl 2), some (.inr 0)], [], τ)) rfl ⟨⟨by decide, by decide⟩, ⟨by decide, by decide⟩⟩ (fun hh => absurd hh (by decide)) (fun _ => ?_)
    refine ex_k 2 (P := none) (g := (cod m5_driftFog 7, [some (.inl 2), some (.inr 0)], [.inr 0, .inl 2], τ)) rfl trivial ?_
    refine ex_c (s_fogWidth (τ := τ) (r := 0) (Or.inr (Or.inl ⟨rfl, rfl⟩)) (by omega)) (is := cod m5_driftFog 8) (L := [some (.inl 2), some (.inr 0)]) (st := []) rfl rfl rfl ?_
    show Ex _ _ (cod m5_driftFog 8, [some (.inl 2), some (.inr 0)], [.inr (cel (τ 5) 98)], τ) _ _
    refine ex_b (P := (cel (τ 5) 98) ≤ 0) (ct := (cod m5_driftFog 21, [some (.inl 2), some (.inr 0)], [], τ)) (cf := (cod m5_driftFog 9, [some (.inl 2), some (.inr 0)], [], τ)) rfl ⟨by omega, by omega⟩ (fun h2 => ?_) (fun h2 => ?_)
    · first
      | (exfalso; omega)
      | (
          refine ex_k 4 (P := none) (g := (cod m5_driftFog 4, [some (.inl 2), some (.inr 1)], [.inr 2, .inr 1], τ)) rfl trivial ?_
          refine ex_b (P := 2 ≤ 1) (ct := (cod m5_driftFog 23, [some (.inl 2), some (.inr 1)], [], τ)) (cf := (cod m5_driftFog 5, [some (.inl 2), some (.inr 1)], [], τ)) rfl ⟨⟨by decide, by decide⟩, ⟨by decide, by decide⟩⟩ (fun hh => absurd hh (by decide)) (fun _ => ?_)
          refine ex_k 2 (P := none) (g := (cod m5_driftFog 7, [some (.inl 2), some (.inr 1)], [.inr 1, .inl 2], τ)) rfl trivial ?_
          refine ex_c (s_fogWidth (τ := τ) (r := 1) (Or.inr (Or.inl ⟨rfl, rfl⟩)) (by omega)) (is := cod m5_driftFog 8) (L := [some (.inl 2), some (.inr 1)]) (st := []) rfl rfl rfl ?_
          show Ex _ _ (cod m5_driftFog 8, [some (.inl 2), some (.inr 1)], [.inr (cel (τ 5) 99)], τ) _ _
          refine ex_b (P := (cel (τ 5) 99) ≤ 0) (ct := (cod m5_driftFog 21, [some (.inl 2), some (.inr 1)], [], τ)) (cf := (cod m5_driftFog 9, [some (.inl 2), some (.inr 1)], [], τ)) rfl ⟨by omega, by omega⟩ (fun h4 => ?_) (fun h4 => ?_)
          · first
            | (exfalso; omega)
            | (
                refine ex_k 4 (P := none) (g := (cod m5_driftFog 4, [some (.inl 2), some (.inr 2)], [.inr 2, .inr 2], τ)) rfl trivial ?_
                refine ex_b (P := 2 ≤ 2) (ct := (cod m5_driftFog 23, [some (.inl 2), some (.inr 2)], [], τ)) (cf := (cod m5_driftFog 5, [some (.inl 2), some (.inr 2)], [], τ)) rfl ⟨⟨by decide, by decide⟩, ⟨by decide, by decide⟩⟩ (fun _ => ?_) (fun hh => absurd (by decide) hh)
                exact ex_r rfl rfl rfl (rV (by simp only [zr_zr]; unfold drf; (first | rw [show dr1 (τ 5) 96 98 = _ from if_pos (by omega)] | rw [show dr1 (τ 5) 96 98 = _ from if_neg (by omega)]); (first | rw [show dr1 _ 97 99 = _ from if_pos (by omega)] | rw [show dr1 _ 97 99 = _ from if_neg (by omega)]); (first | done | rfl | exact zr_self.symm | exact zr_self))))
          · first
            | (exfalso; omega)
            | (
                refine ex_k 6 (P := none) (g := (cod m5_driftFog 15, [some (.inl 2), some (.inr 1)], [.inr 1, .inl 2, .inr 97, .inl 2], τ)) rfl trivial ?_
                refine ex_c (s_fogBegin (τ := τ) (r := 1) (Or.inr (Or.inl ⟨rfl, rfl⟩)) (by omega)) (is := cod m5_driftFog 16) (L := [some (.inl 2), some (.inr 1)]) (st := [.inr 97, .inl 2]) rfl rfl rfl ?_
                show Ex _ _ (cod m5_driftFog 16, [some (.inl 2), some (.inr 1)], [.inr (cel (τ 5) 97), .inr 97, .inl 2], τ) _ _
                refine ex_k 4 (P := some (0 ≤ ((cel (τ 5) 97) + 1) ∧ ((cel (τ 5) 97) + 1) < 2147483648 ∧ 0 < 12 ∧ 12 < 2147483648)) (g := (cod m5_driftFog 20, [some (.inl 2), some (.inr 1)], [.inr (((cel (τ 5) 97) + 1) % 12), .inr 97, .inl 2], τ)) rfl (by show 0 ≤ ((cel (τ 5) 97) + 1) ∧ ((cel (τ 5) 97) + 1) < 2147483648 ∧ 0 < 12 ∧ 12 < 2147483648; omega) ?_
                refine ex_c (s_setCell (τ := τ) (z := 97) (v := ((cel (τ 5) 97) + 1) % 12) (Or.inr (Or.inl ⟨rfl, rfl⟩)) ⟨by omega, by omega⟩) (is := cod m5_driftFog 21) (L := [some (.inl 2), some (.inr 1)]) (st := []) rfl rfl rfl ?_
                show Ex _ _ (cod m5_driftFog 21, [some (.inl 2), some (.inr 1)], [], (zr τ 5 (sce (τ 5) 97 (((cel (τ 5) 97) + 1) % 12)))) _ _
                refine ex_k 4 (P := none) (g := (cod m5_driftFog 4, [some (.inl 2), some (.inr 2)], [.inr 2, .inr 2], (zr τ 5 (sce (τ 5) 97 (((cel (τ 5) 97) + 1) % 12))))) rfl trivial ?_
                refine ex_b (P := 2 ≤ 2) (ct := (cod m5_driftFog 23, [some (.inl 2), some (.inr 2)], [], (zr τ 5 (sce (τ 5) 97 (((cel (τ 5) 97) + 1) % 12))))) (cf := (cod m5_driftFog 5, [some (.inl 2), some (.inr 2)], [], (zr τ 5 (sce (τ 5) 97 (((cel (τ 5) 97) + 1) % 12))))) rfl ⟨⟨by decide, by decide⟩, ⟨by decide, by decide⟩⟩ (fun _ => ?_) (fun hh => absurd (by decide) hh)
                exact ex_r rfl rfl rfl (rV (by simp only [zr_zr]; unfold drf; (first | rw [show dr1 (τ 5) 96 98 = _ from if_pos (by omega)] | rw [show dr1 (τ 5) 96 98 = _ from if_neg (by omega)]); (first | rw [show dr1 _ 97 99 = _ from if_pos (by omega)] | rw [show dr1 _ 97 99 = _ from if_neg (by omega)]); (first | done | rfl | exact zr_self.symm | exact zr_self)))))
    · first
      | (exfalso; omega)
      | (
          refine ex_k 6 (P := none) (g := (cod m5_driftFog 15, [some (.inl 2), some (.inr 0)], [.inr 0, .inl 2, .inr 96, .inl 2], τ)) rfl trivial ?_
          refine ex_c (s_fogBegin (τ := τ) (r := 0) (Or.inr (Or.inl ⟨rfl, rfl⟩)) (by omega)) (is := cod m5_driftFog 16) (L := [some (.inl 2), some (.inr 0)]) (st := [.inr 96, .inl 2]) rfl rfl rfl ?_
          show Ex _ _ (cod m5_driftFog 16, [some (.inl 2), some (.inr 0)], [.inr (cel (τ 5) 96), .inr 96, .inl 2], τ) _ _
          refine ex_k 4 (P := some (0 ≤ ((cel (τ 5) 96) + 1) ∧ ((cel (τ 5) 96) + 1) < 2147483648 ∧ 0 < 12 ∧ 12 < 2147483648)) (g := (cod m5_driftFog 20, [some (.inl 2), some (.inr 0)], [.inr (((cel (τ 5) 96) + 1) % 12), .inr 96, .inl 2], τ)) rfl (by show 0 ≤ ((cel (τ 5) 96) + 1) ∧ ((cel (τ 5) 96) + 1) < 2147483648 ∧ 0 < 12 ∧ 12 < 2147483648; omega) ?_
          refine ex_c (s_setCell (τ := τ) (z := 96) (v := ((cel (τ 5) 96) + 1) % 12) (Or.inr (Or.inl ⟨rfl, rfl⟩)) ⟨by omega, by omega⟩) (is := cod m5_driftFog 21) (L := [some (.inl 2), some (.inr 0)]) (st := []) rfl rfl rfl ?_
          show Ex _ _ (cod m5_driftFog 21, [some (.inl 2), some (.inr 0)], [], (zr τ 5 (sce (τ 5) 96 (((cel (τ 5) 96) + 1) % 12)))) _ _
          refine ex_k 4 (P := none) (g := (cod m5_driftFog 4, [some (.inl 2), some (.inr 1)], [.inr 2, .inr 1], (zr τ 5 (sce (τ 5) 96 (((cel (τ 5) 96) + 1) % 12))))) rfl trivial ?_
          refine ex_b (P := 2 ≤ 1) (ct := (cod m5_driftFog 23, [some (.inl 2), some (.inr 1)], [], (zr τ 5 (sce (τ 5) 96 (((cel (τ 5) 96) + 1) % 12))))) (cf := (cod m5_driftFog 5, [some (.inl 2), some (.inr 1)], [], (zr τ 5 (sce (τ 5) 96 (((cel (τ 5) 96) + 1) % 12))))) rfl ⟨⟨by decide, by decide⟩, ⟨by decide, by decide⟩⟩ (fun hh => absurd hh (by decide)) (fun _ => ?_)
          refine ex_k 2 (P := none) (g := (cod m5_driftFog 7, [some (.inl 2), some (.inr 1)], [.inr 1, .inl 2], (zr τ 5 (sce (τ 5) 96 (((cel (τ 5) 96) + 1) % 12))))) rfl trivial ?_
          refine ex_c (s_fogWidth (τ := (zr τ 5 (sce (τ 5) 96 (((cel (τ 5) 96) + 1) % 12)))) (r := 1) (Or.inr (Or.inl ⟨rfl, rfl⟩)) (by omega)) (is := cod m5_driftFog 8) (L := [some (.inl 2), some (.inr 1)]) (st := []) rfl rfl rfl ?_
          show Ex _ _ (cod m5_driftFog 8, [some (.inl 2), some (.inr 1)], [.inr (cel (sce (τ 5) 96 (((cel (τ 5) 96) + 1) % 12)) 99)], (zr τ 5 (sce (τ 5) 96 (((cel (τ 5) 96) + 1) % 12)))) _ _
          refine ex_b (P := (cel (sce (τ 5) 96 (((cel (τ 5) 96) + 1) % 12)) 99) ≤ 0) (ct := (cod m5_driftFog 21, [some (.inl 2), some (.inr 1)], [], (zr τ 5 (sce (τ 5) 96 (((cel (τ 5) 96) + 1) % 12))))) (cf := (cod m5_driftFog 9, [some (.inl 2), some (.inr 1)], [], (zr τ 5 (sce (τ 5) 96 (((cel (τ 5) 96) + 1) % 12))))) rfl ⟨by omega, by omega⟩ (fun h8 => ?_) (fun h8 => ?_)
          · first
            | (exfalso; omega)
            | (
                refine ex_k 4 (P := none) (g := (cod m5_driftFog 4, [some (.inl 2), some (.inr 2)], [.inr 2, .inr 2], (zr τ 5 (sce (τ 5) 96 (((cel (τ 5) 96) + 1) % 12))))) rfl trivial ?_
                refine ex_b (P := 2 ≤ 2) (ct := (cod m5_driftFog 23, [some (.inl 2), some (.inr 2)], [], (zr τ 5 (sce (τ 5) 96 (((cel (τ 5) 96) + 1) % 12))))) (cf := (cod m5_driftFog 5, [some (.inl 2), some (.inr 2)], [], (zr τ 5 (sce (τ 5) 96 (((cel (τ 5) 96) + 1) % 12))))) rfl ⟨⟨by decide, by decide⟩, ⟨by decide, by decide⟩⟩ (fun _ => ?_) (fun hh => absurd (by decide) hh)
                exact ex_r rfl rfl rfl (rV (by simp only [zr_zr]; unfold drf; (first | rw [show dr1 (τ 5) 96 98 = _ from if_pos (by omega)] | rw [show dr1 (τ 5) 96 98 = _ from if_neg (by omega)]); (first | rw [show dr1 _ 97 99 = _ from if_pos (by omega)] | rw [show dr1 _ 97 99 = _ from if_neg (by omega)]); (first | done | rfl | exact zr_self.symm | exact zr_self))))
          · first
            | (exfalso; omega)
            | (
                refine ex_k 6 (P := none) (g := (cod m5_driftFog 15, [some (.inl 2), some (.inr 1)], [.inr 1, .inl 2, .inr 97, .inl 2], (zr τ 5 (sce (τ 5) 96 (((cel (τ 5) 96) + 1) % 12))))) rfl trivial ?_
                refine ex_c (s_fogBegin (τ := (zr τ 5 (sce (τ 5) 96 (((cel (τ 5) 96) + 1) % 12)))) (r := 1) (Or.inr (Or.inl ⟨rfl, rfl⟩)) (by omega)) (is := cod m5_driftFog 16) (L := [some (.inl 2), some (.inr 1)]) (st := [.inr 97, .inl 2]) rfl rfl rfl ?_
                show Ex _ _ (cod m5_driftFog 16, [some (.inl 2), some (.inr 1)], [.inr (cel (sce (τ 5) 96 (((cel (τ 5) 96) + 1) % 12)) 97), .inr 97, .inl 2], (zr τ 5 (sce (τ 5) 96 (((cel (τ 5) 96) + 1) % 12)))) _ _
                refine ex_k 4 (P := some (0 ≤ ((cel (sce (τ 5) 96 (((cel (τ 5) 96) + 1) % 12)) 97) + 1) ∧ ((cel (sce (τ 5) 96 (((cel (τ 5) 96) + 1) % 12)) 97) + 1) < 2147483648 ∧ 0 < 12 ∧ 12 < 2147483648)) (g := (cod m5_driftFog 20, [some (.inl 2), some (.inr 1)], [.inr (((cel (sce (τ 5) 96 (((cel (τ 5) 96) + 1) % 12)) 97) + 1) % 12), .inr 97, .inl 2], (zr τ 5 (sce (τ 5) 96 (((cel (τ 5) 96) + 1) % 12))))) rfl (by show 0 ≤ ((cel (sce (τ 5) 96 (((cel (τ 5) 96) + 1) % 12)) 97) + 1) ∧ ((cel (sce (τ 5) 96 (((cel (τ 5) 96) + 1) % 12)) 97) + 1) < 2147483648 ∧ 0 < 12 ∧ 12 < 2147483648; omega) ?_
                refine ex_c (s_setCell (τ := (zr τ 5 (sce (τ 5) 96 (((cel (τ 5) 96) + 1) % 12)))) (z := 97) (v := ((cel (sce (τ 5) 96 (((cel (τ 5) 96) + 1) % 12)) 97) + 1) % 12) (Or.inr (Or.inl ⟨rfl, rfl⟩)) ⟨by omega, by omega⟩) (is := cod m5_driftFog 21) (L := [some (.inl 2), some (.inr 1)]) (st := []) rfl rfl rfl ?_
                show Ex _ _ (cod m5_driftFog 21, [some (.inl 2), some (.inr 1)], [], (zr (zr τ 5 (sce (τ 5) 96 (((cel (τ 5) 96) + 1) % 12))) 5 (sce (sce (τ 5) 96 (((cel (τ 5) 96) + 1) % 12)) 97 (((cel (sce (τ 5) 96 (((cel (τ 5) 96) + 1) % 12)) 97) + 1) % 12)))) _ _
                refine ex_k 4 (P := none) (g := (cod m5_driftFog 4, [some (.inl 2), some (.inr 2)], [.inr 2, .inr 2], (zr (zr τ 5 (sce (τ 5) 96 (((cel (τ 5) 96) + 1) % 12))) 5 (sce (sce (τ 5) 96 (((cel (τ 5) 96) + 1) % 12)) 97 (((cel (sce (τ 5) 96 (((cel (τ 5) 96) + 1) % 12)) 97) + 1) % 12))))) rfl trivial ?_
                refine ex_b (P := 2 ≤ 2) (ct := (cod m5_driftFog 23, [some (.inl 2), some (.inr 2)], [], (zr (zr τ 5 (sce (τ 5) 96 (((cel (τ 5) 96) + 1) % 12))) 5 (sce (sce (τ 5) 96 (((cel (τ 5) 96) + 1) % 12)) 97 (((cel (sce (τ 5) 96 (((cel (τ 5) 96) + 1) % 12)) 97) + 1) % 12))))) (cf := (cod m5_driftFog 5, [some (.inl 2), some (.inr 2)], [], (zr (zr τ 5 (sce (τ 5) 96 (((cel (τ 5) 96) + 1) % 12))) 5 (sce (sce (τ 5) 96 (((cel (τ 5) 96) + 1) % 12)) 97 (((cel (sce (τ 5) 96 (((cel (τ 5) 96) + 1) % 12)) 97) + 1) % 12))))) rfl ⟨⟨by decide, by decide⟩, ⟨by decide, by decide⟩⟩ (fun _ => ?_) (fun hh => absurd (by decide) hh)
                exact ex_r rfl rfl rfl (rV (by simp only [zr_zr]; unfold drf; (first | rw [show dr1 (τ 5) 96 98 = _ from if_pos (by omega)] | rw [show dr1 (τ 5) 96 98 = _ from if_neg (by omega)]); (first | rw [show dr1 _ 97 99 = _ from if_pos (by omega)] | rw [show dr1 _ 97 99 = _ from if_neg (by omega)]); (first | done | rfl | exact zr_self.symm | exact zr_self)))))
  · refine Ex.call ?_ rfl rfl
    show Ex _ _ (cod m5_driftFog 0, [some (.inl 3), none], [], τ) _ _
    refine ex_k 4 (P := none) (g := (cod m5_driftFog 4, [some (.inl 3), some (.inr 0)], [.inr 2, .inr 0], τ)) rfl trivial ?_
    refine ex_b (P := 2 ≤ 0) (ct := (cod m5_driftFog 23, [some (.inl 3), some (.inr 0)], [], τ)) (cf := (cod m5_driftFog 5, [some (.inl 3), some (.inr 0)], [], τ)) rfl ⟨⟨by decide, by decide⟩, ⟨by decide, by decide⟩⟩ (fun hh => absurd hh (by decide)) (fun _ => ?_)
    refine ex_k 2 (P := none) (g := (cod m5_driftFog 7, [some (.inl 3), some (.inr 0)], [.inr 0, .inl 3], τ)) rfl trivial ?_
    refine ex_c (s_fogWidth (τ := τ) (r := 0) (Or.inr (Or.inr ⟨rfl, rfl⟩)) (by omega)) (is := cod m5_driftFog 8) (L := [some (.inl 3), some (.inr 0)]) (st := []) rfl rfl rfl ?_
    show Ex _ _ (cod m5_driftFog 8, [some (.inl 3), some (.inr 0)], [.inr (cel (τ 6) 98)], τ) _ _
    refine ex_b (P := (cel (τ 6) 98) ≤ 0) (ct := (cod m5_driftFog 21, [some (.inl 3), some (.inr 0)], [], τ)) (cf := (cod m5_driftFog 9, [some (.inl 3), some (.inr 0)], [], τ)) rfl ⟨by omega, by omega⟩ (fun h2 => ?_) (fun h2 => ?_)
    · first
      | (exfalso; omega)
      | (
          refine ex_k 4 (P := none) (g := (cod m5_driftFog 4, [some (.inl 3), some (.inr 1)], [.inr 2, .inr 1], τ)) rfl trivial ?_
          refine ex_b (P := 2 ≤ 1) (ct := (cod m5_driftFog 23, [some (.inl 3), some (.inr 1)], [], τ)) (cf := (cod m5_driftFog 5, [some (.inl 3), some (.inr 1)], [], τ)) rfl ⟨⟨by decide, by decide⟩, ⟨by decide, by decide⟩⟩ (fun hh => absurd hh (by decide)) (fun _ => ?_)
          refine ex_k 2 (P := none) (g := (cod m5_driftFog 7, [some (.inl 3), some (.inr 1)], [.inr 1, .inl 3], τ)) rfl trivial ?_
          refine ex_c (s_fogWidth (τ := τ) (r := 1) (Or.inr (Or.inr ⟨rfl, rfl⟩)) (by omega)) (is := cod m5_driftFog 8) (L := [some (.inl 3), some (.inr 1)]) (st := []) rfl rfl rfl ?_
          show Ex _ _ (cod m5_driftFog 8, [some (.inl 3), some (.inr 1)], [.inr (cel (τ 6) 99)], τ) _ _
          refine ex_b (P := (cel (τ 6) 99) ≤ 0) (ct := (cod m5_driftFog 21, [some (.inl 3), some (.inr 1)], [], τ)) (cf := (cod m5_driftFog 9, [some (.inl 3), some (.inr 1)], [], τ)) rfl ⟨by omega, by omega⟩ (fun h4 => ?_) (fun h4 => ?_)
          · first
            | (exfalso; omega)
            | (
                refine ex_k 4 (P := none) (g := (cod m5_driftFog 4, [some (.inl 3), some (.inr 2)], [.inr 2, .inr 2], τ)) rfl trivial ?_
                refine ex_b (P := 2 ≤ 2) (ct := (cod m5_driftFog 23, [some (.inl 3), some (.inr 2)], [], τ)) (cf := (cod m5_driftFog 5, [some (.inl 3), some (.inr 2)], [], τ)) rfl ⟨⟨by decide, by decide⟩, ⟨by decide, by decide⟩⟩ (fun _ => ?_) (fun hh => absurd (by decide) hh)
                exact ex_r rfl rfl rfl (rV (by simp only [zr_zr]; unfold drf; (first | rw [show dr1 (τ 6) 96 98 = _ from if_pos (by omega)] | rw [show dr1 (τ 6) 96 98 = _ from if_neg (by omega)]); (first | rw [show dr1 _ 97 99 = _ from if_pos (by omega)] | rw [show dr1 _ 97 99 = _ from if_neg (by omega)]); (first | done | rfl | exact zr_self.symm | exact zr_self))))
          · first
            | (exfalso; omega)
            | (
                refine ex_k 6 (P := none) (g := (cod m5_driftFog 15, [some (.inl 3), some (.inr 1)], [.inr 1, .inl 3, .inr 97, .inl 3], τ)) rfl trivial ?_
                refine ex_c (s_fogBegin (τ := τ) (r := 1) (Or.inr (Or.inr ⟨rfl, rfl⟩)) (by omega)) (is := cod m5_driftFog 16) (L := [some (.inl 3), some (.inr 1)]) (st := [.inr 97, .inl 3]) rfl rfl rfl ?_
                show Ex _ _ (cod m5_driftFog 16, [some (.inl 3), some (.inr 1)], [.inr (cel (τ 6) 97), .inr 97, .inl 3], τ) _ _
                refine ex_k 4 (P := some (0 ≤ ((cel (τ 6) 97) + 1) ∧ ((cel (τ 6) 97) + 1) < 2147483648 ∧ 0 < 12 ∧ 12 < 2147483648)) (g := (cod m5_driftFog 20, [some (.inl 3), some (.inr 1)], [.inr (((cel (τ 6) 97) + 1) % 12), .inr 97, .inl 3], τ)) rfl (by show 0 ≤ ((cel (τ 6) 97) + 1) ∧ ((cel (τ 6) 97) + 1) < 2147483648 ∧ 0 < 12 ∧ 12 < 2147483648; omega) ?_
                refine ex_c (s_setCell (τ := τ) (z := 97) (v := ((cel (τ 6) 97) + 1) % 12) (Or.inr (Or.inr ⟨rfl, rfl⟩)) ⟨by omega, by omega⟩) (is := cod m5_driftFog 21) (L := [some (.inl 3), some (.inr 1)]) (st := []) rfl rfl rfl ?_
                show Ex _ _ (cod m5_driftFog 21, [some (.inl 3), some (.inr 1)], [], (zr τ 6 (sce (τ 6) 97 (((cel (τ 6) 97) + 1) % 12)))) _ _
                refine ex_k 4 (P := none) (g := (cod m5_driftFog 4, [some (.inl 3), some (.inr 2)], [.inr 2, .inr 2], (zr τ 6 (sce (τ 6) 97 (((cel (τ 6) 97) + 1) % 12))))) rfl trivial ?_
                refine ex_b (P := 2 ≤ 2) (ct := (cod m5_driftFog 23, [some (.inl 3), some (.inr 2)], [], (zr τ 6 (sce (τ 6) 97 (((cel (τ 6) 97) + 1) % 12))))) (cf := (cod m5_driftFog 5, [some (.inl 3), some (.inr 2)], [], (zr τ 6 (sce (τ 6) 97 (((cel (τ 6) 97) + 1) % 12))))) rfl ⟨⟨by decide, by decide⟩, ⟨by decide, by decide⟩⟩ (fun _ => ?_) (fun hh => absurd (by decide) hh)
                exact ex_r rfl rfl rfl (rV (by simp only [zr_zr]; unfold drf; (first | rw [show dr1 (τ 6) 96 98 = _ from if_pos (by omega)] | rw [show dr1 (τ 6) 96 98 = _ from if_neg (by omega)]); (first | rw [show dr1 _ 97 99 = _ from if_pos (by omega)] | rw [show dr1 _ 97 99 = _ from if_neg (by omega)]); (first | done | rfl | exact zr_self.symm | exact zr_self)))))
    · first
      | (exfalso; omega)
      | (
          refine ex_k 6 (P := none) (g := (cod m5_driftFog 15, [some (.inl 3), some (.inr 0)], [.inr 0, .inl 3, .inr 96, .inl 3], τ)) rfl trivial ?_
          refine ex_c (s_fogBegin (τ := τ) (r := 0) (Or.inr (Or.inr ⟨rfl, rfl⟩)) (by omega)) (is := cod m5_driftFog 16) (L := [some (.inl 3), some (.inr 0)]) (st := [.inr 96, .inl 3]) rfl rfl rfl ?_
          show Ex _ _ (cod m5_driftFog 16, [some (.inl 3), some (.inr 0)], [.inr (cel (τ 6) 96), .inr 96, .inl 3], τ) _ _
          refine ex_k 4 (P := some (0 ≤ ((cel (τ 6) 96) + 1) ∧ ((cel (τ 6) 96) + 1) < 2147483648 ∧ 0 < 12 ∧ 12 < 2147483648)) (g := (cod m5_driftFog 20, [some (.inl 3), some (.inr 0)], [.inr (((cel (τ 6) 96) + 1) % 12), .inr 96, .inl 3], τ)) rfl (by show 0 ≤ ((cel (τ 6) 96) + 1) ∧ ((cel (τ 6) 96) + 1) < 2147483648 ∧ 0 < 12 ∧ 12 < 2147483648; omega) ?_
          refine ex_c (s_setCell (τ := τ) (z := 96) (v := ((cel (τ 6) 96) + 1) % 12) (Or.inr (Or.inr ⟨rfl, rfl⟩)) ⟨by omega, by omega⟩) (is := cod m5_driftFog 21) (L := [some (.inl 3), some (.inr 0)]) (st := []) rfl rfl rfl ?_
          show Ex _ _ (cod m5_driftFog 21, [some (.inl 3), some (.inr 0)], [], (zr τ 6 (sce (τ 6) 96 (((cel (τ 6) 96) + 1) % 12)))) _ _
          refine ex_k 4 (P := none) (g := (cod m5_driftFog 4, [some (.inl 3), some (.inr 1)], [.inr 2, .inr 1], (zr τ 6 (sce (τ 6) 96 (((cel (τ 6) 96) + 1) % 12))))) rfl trivial ?_
          refine ex_b (P := 2 ≤ 1) (ct := (cod m5_driftFog 23, [some (.inl 3), some (.inr 1)], [], (zr τ 6 (sce (τ 6) 96 (((cel (τ 6) 96) + 1) % 12))))) (cf := (cod m5_driftFog 5, [some (.inl 3), some (.inr 1)], [], (zr τ 6 (sce (τ 6) 96 (((cel (τ 6) 96) + 1) % 12))))) rfl ⟨⟨by decide, by decide⟩, ⟨by decide, by decide⟩⟩ (fun hh => absurd hh (by decide)) (fun _ => ?_)
          refine ex_k 2 (P := none) (g := (cod m5_driftFog 7, [some (.inl 3), some (.inr 1)], [.inr 1, .inl 3], (zr τ 6 (sce (τ 6) 96 (((cel (τ 6) 96) + 1) % 12))))) rfl trivial ?_
          refine ex_c (s_fogWidth (τ := (zr τ 6 (sce (τ 6) 96 (((cel (τ 6) 96) + 1) % 12)))) (r := 1) (Or.inr (Or.inr ⟨rfl, rfl⟩)) (by omega)) (is := cod m5_driftFog 8) (L := [some (.inl 3), some (.inr 1)]) (st := []) rfl rfl rfl ?_
          show Ex _ _ (cod m5_driftFog 8, [some (.inl 3), some (.inr 1)], [.inr (cel (sce (τ 6) 96 (((cel (τ 6) 96) + 1) % 12)) 99)], (zr τ 6 (sce (τ 6) 96 (((cel (τ 6) 96) + 1) % 12)))) _ _
          refine ex_b (P := (cel (sce (τ 6) 96 (((cel (τ 6) 96) + 1) % 12)) 99) ≤ 0) (ct := (cod m5_driftFog 21, [some (.inl 3), some (.inr 1)], [], (zr τ 6 (sce (τ 6) 96 (((cel (τ 6) 96) + 1) % 12))))) (cf := (cod m5_driftFog 9, [some (.inl 3), some (.inr 1)], [], (zr τ 6 (sce (τ 6) 96 (((cel (τ 6) 96) + 1) % 12))))) rfl ⟨by omega, by omega⟩ (fun h8 => ?_) (fun h8 => ?_)
          · first
            | (exfalso; omega)
            | (
                refine ex_k 4 (P := none) (g := (cod m5_driftFog 4, [some (.inl 3), some (.inr 2)], [.inr 2, .inr 2], (zr τ 6 (sce (τ 6) 96 (((cel (τ 6) 96) + 1) % 12))))) rfl trivial ?_
                refine ex_b (P := 2 ≤ 2) (ct := (cod m5_driftFog 23, [some (.inl 3), some (.inr 2)], [], (zr τ 6 (sce (τ 6) 96 (((cel (τ 6) 96) + 1) % 12))))) (cf := (cod m5_driftFog 5, [some (.inl 3), some (.inr 2)], [], (zr τ 6 (sce (τ 6) 96 (((cel (τ 6) 96) + 1) % 12))))) rfl ⟨⟨by decide, by decide⟩, ⟨by decide, by decide⟩⟩ (fun _ => ?_) (fun hh => absurd (by decide) hh)
                exact ex_r rfl rfl rfl (rV (by simp only [zr_zr]; unfold drf; (first | rw [show dr1 (τ 6) 96 98 = _ from if_pos (by omega)] | rw [show dr1 (τ 6) 96 98 = _ from if_neg (by omega)]); (first | rw [show dr1 _ 97 99 = _ from if_pos (by omega)] | rw [show dr1 _ 97 99 = _ from if_neg (by omega)]); (first | done | rfl | exact zr_self.symm | exact zr_self))))
          · first
            | (exfalso; omega)
            | (
                refine ex_k 6 (P := none) (g := (cod m5_driftFog 15, [some (.inl 3), some (.inr 1)], [.inr 1, .inl 3, .inr 97, .inl 3], (zr τ 6 (sce (τ 6) 96 (((cel (τ 6) 96) + 1) % 12))))) rfl trivial ?_
                refine ex_c (s_fogBegin (τ := (zr τ 6 (sce (τ 6) 96 (((cel (τ 6) 96) + 1) % 12)))) (r := 1) (Or.inr (Or.inr ⟨rfl, rfl⟩)) (by omega)) (is := cod m5_driftFog 16) (L := [some (.inl 3), some (.inr 1)]) (st := [.inr 97, .inl 3]) rfl rfl rfl ?_
                show Ex _ _ (cod m5_driftFog 16, [some (.inl 3), some (.inr 1)], [.inr (cel (sce (τ 6) 96 (((cel (τ 6) 96) + 1) % 12)) 97), .inr 97, .inl 3], (zr τ 6 (sce (τ 6) 96 (((cel (τ 6) 96) + 1) % 12)))) _ _
                refine ex_k 4 (P := some (0 ≤ ((cel (sce (τ 6) 96 (((cel (τ 6) 96) + 1) % 12)) 97) + 1) ∧ ((cel (sce (τ 6) 96 (((cel (τ 6) 96) + 1) % 12)) 97) + 1) < 2147483648 ∧ 0 < 12 ∧ 12 < 2147483648)) (g := (cod m5_driftFog 20, [some (.inl 3), some (.inr 1)], [.inr (((cel (sce (τ 6) 96 (((cel (τ 6) 96) + 1) % 12)) 97) + 1) % 12), .inr 97, .inl 3], (zr τ 6 (sce (τ 6) 96 (((cel (τ 6) 96) + 1) % 12))))) rfl (by show 0 ≤ ((cel (sce (τ 6) 96 (((cel (τ 6) 96) + 1) % 12)) 97) + 1) ∧ ((cel (sce (τ 6) 96 (((cel (τ 6) 96) + 1) % 12)) 97) + 1) < 2147483648 ∧ 0 < 12 ∧ 12 < 2147483648; omega) ?_
                refine ex_c (s_setCell (τ := (zr τ 6 (sce (τ 6) 96 (((cel (τ 6) 96) + 1) % 12)))) (z := 97) (v := ((cel (sce (τ 6) 96 (((cel (τ 6) 96) + 1) % 12)) 97) + 1) % 12) (Or.inr (Or.inr ⟨rfl, rfl⟩)) ⟨by omega, by omega⟩) (is := cod m5_driftFog 21) (L := [some (.inl 3), some (.inr 1)]) (st := []) rfl rfl rfl ?_
                show Ex _ _ (cod m5_driftFog 21, [some (.inl 3), some (.inr 1)], [], (zr (zr τ 6 (sce (τ 6) 96 (((cel (τ 6) 96) + 1) % 12))) 6 (sce (sce (τ 6) 96 (((cel (τ 6) 96) + 1) % 12)) 97 (((cel (sce (τ 6) 96 (((cel (τ 6) 96) + 1) % 12)) 97) + 1) % 12)))) _ _
                refine ex_k 4 (P := none) (g := (cod m5_driftFog 4, [some (.inl 3), some (.inr 2)], [.inr 2, .inr 2], (zr (zr τ 6 (sce (τ 6) 96 (((cel (τ 6) 96) + 1) % 12))) 6 (sce (sce (τ 6) 96 (((cel (τ 6) 96) + 1) % 12)) 97 (((cel (sce (τ 6) 96 (((cel (τ 6) 96) + 1) % 12)) 97) + 1) % 12))))) rfl trivial ?_
                refine ex_b (P := 2 ≤ 2) (ct := (cod m5_driftFog 23, [some (.inl 3), some (.inr 2)], [], (zr (zr τ 6 (sce (τ 6) 96 (((cel (τ 6) 96) + 1) % 12))) 6 (sce (sce (τ 6) 96 (((cel (τ 6) 96) + 1) % 12)) 97 (((cel (sce (τ 6) 96 (((cel (τ 6) 96) + 1) % 12)) 97) + 1) % 12))))) (cf := (cod m5_driftFog 5, [some (.inl 3), some (.inr 2)], [], (zr (zr τ 6 (sce (τ 6) 96 (((cel (τ 6) 96) + 1) % 12))) 6 (sce (sce (τ 6) 96 (((cel (τ 6) 96) + 1) % 12)) 97 (((cel (sce (τ 6) 96 (((cel (τ 6) 96) + 1) % 12)) 97) + 1) % 12))))) rfl ⟨⟨by decide, by decide⟩, ⟨by decide, by decide⟩⟩ (fun _ => ?_) (fun hh => absurd (by decide) hh)
                exact ex_r rfl rfl rfl (rV (by simp only [zr_zr]; unfold drf; (first | rw [show dr1 (τ 6) 96 98 = _ from if_pos (by omega)] | rw [show dr1 (τ 6) 96 98 = _ from if_neg (by omega)]); (first | rw [show dr1 _ 97 99 = _ from if_pos (by omega)] | rw [show dr1 _ 97 99 = _ from if_neg (by omega)]); (first | done | rfl | exact zr_self.symm | exact zr_self)))))
abbrev okf (c : Nat → Int) (k : Nat) : Prop := whz c 0 (cel c (0 + (k : Int) * 6 + 1)) = (k : Int) ∧ whz c 1 (cel c (0 + (k : Int) * 6 + 2)) = (k : Int)
theorem lp_hasF_4 {τ : SZ} {N : Nat}  (hn : cel (τ 4) 107 = (N : Int)) (hN : N ≤ 8) (hB : Bd (τ 4)) : ∀ (j k : Nat), k + j = N → ∀ (z : Int), z = (k : Int) → (∀ i, i < k → okf (τ 4) i) → Ex 2 m5_hasFerriesInPlace (cod m5_hasFerriesInPlace 2, [some (.inl 1), some (.inr z)], [], τ) 0 (.inl (some (.inr (b2 (∀ k, k < N → okf (τ 4) k))), τ)) := by
  intro j
  induction j with
  | zero =>
    intro k hk z hz hv
    have hb := cel_bd hB (0 + z * 6 + 1)
    have hb2 := cel_bd hB (0 + z * 6 + 2)
    have hb3 := whz_bd hB 0 (cel (τ 4) (0 + z * 6 + 1))
    have hb4 := whz_bd hB 1 (cel (τ 4) (0 + z * 6 + 2))
    refine ex_k 3 (P := none) (g := (cod m5_hasFerriesInPlace 5, [some (.inl 1), some (.inr z)], [.inr 7, .inl 1, .inr z], τ)) rfl trivial ?_
    refine ex_c (s_total (τ := τ) (w := 7) (Or.inl ⟨rfl, rfl⟩) (by omega)) (is := cod m5_hasFerriesInPlace 6) (L := [some (.inl 1), some (.inr z)]) (st := [.inr z]) rfl rfl rfl ?_
    show Ex _ _ (cod m5_hasFerriesInPlace 6, [some (.inl 1), some (.inr z)], [.inr (cel (τ 4) 107), .inr z], τ) _ _
    refine ex_b (P := (cel (τ 4) 107) ≤ z) (ct := (cod m5_hasFerriesInPlace 29, [some (.inl 1), some (.inr z)], [], τ)) (cf := (cod m5_hasFerriesInPlace 7, [some (.inl 1), some (.inr z)], [], τ)) rfl ⟨⟨by omega, by omega⟩, ⟨by omega, by omega⟩⟩ (fun _ => ?_) (fun hh => absurd (by omega) hh)
    refine ex_k 1 (P := none) (g := (cod m5_hasFerriesInPlace 30, [some (.inl 1), some (.inr z)], [.inr 1], τ)) rfl trivial ?_
    exact ex_r rfl (by first | exact Or.inl rfl | exact Or.inr rfl | (show 1 = 0 ∨ 1 = 1; omega)) rfl (rI (by first | rw [b2_t (fun i hi => hv i (by omega))] | rw [b2_f (fun q => by have q1 := q k (by omega); unfold okf at q1; rw [← hz] at q1; have q2 := q1.1; have q3 := q1.2; omega)]))
  | succ j ih =>
    intro k hk z hz hv
    have hb := cel_bd hB (0 + z * 6 + 1)
    have hb2 := cel_bd hB (0 + z * 6 + 2)
    have hb3 := whz_bd hB 0 (cel (τ 4) (0 + z * 6 + 1))
    have hb4 := whz_bd hB 1 (cel (τ 4) (0 + z * 6 + 2))
    refine ex_k 3 (P := none) (g := (cod m5_hasFerriesInPlace 5, [some (.inl 1), some (.inr z)], [.inr 7, .inl 1, .inr z], τ)) rfl trivial ?_
    refine ex_c (s_total (τ := τ) (w := 7) (Or.inl ⟨rfl, rfl⟩) (by omega)) (is := cod m5_hasFerriesInPlace 6) (L := [some (.inl 1), some (.inr z)]) (st := [.inr z]) rfl rfl rfl ?_
    show Ex _ _ (cod m5_hasFerriesInPlace 6, [some (.inl 1), some (.inr z)], [.inr (cel (τ 4) 107), .inr z], τ) _ _
    refine ex_b (P := (cel (τ 4) 107) ≤ z) (ct := (cod m5_hasFerriesInPlace 29, [some (.inl 1), some (.inr z)], [], τ)) (cf := (cod m5_hasFerriesInPlace 7, [some (.inl 1), some (.inr z)], [], τ)) rfl ⟨⟨by omega, by omega⟩, ⟨by omega, by omega⟩⟩ (fun hh => absurd hh (by omega)) (fun _ => ?_)
    refine ex_k 5 (P := none) (g := (cod m5_hasFerriesInPlace 12, [some (.inl 1), some (.inr z)], [.inr 1, .inr z, .inl 1, .inr 0, .inl 1], τ)) rfl trivial ?_
    refine ex_c (s_number (τ := τ) (f := z) (w := 1) (Or.inl ⟨rfl, rfl⟩) (by omega) (by omega)) (is := cod m5_hasFerriesInPlace 13) (L := [some (.inl 1), some (.inr z)]) (st := [.inr 0, .inl 1]) rfl rfl rfl ?_
    show Ex _ _ (cod m5_hasFerriesInPlace 13, [some (.inl 1), some (.inr z)], [.inr (cel (τ 4) (0 + z * 6 + 1)), .inr 0, .inl 1], τ) _ _
    refine ex_c (s_whoIsAt (τ := τ) (r := 0) (p := cel (τ 4) (0 + z * 6 + 1)) (Or.inl ⟨rfl, rfl⟩) (by omega) ⟨by omega, by omega⟩) (is := cod m5_hasFerriesInPlace 14) (L := [some (.inl 1), some (.inr z)]) (st := []) rfl rfl rfl ?_
    show Ex _ _ (cod m5_hasFerriesInPlace 14, [some (.inl 1), some (.inr z)], [.inr (whz (τ 4) 0 (cel (τ 4) (0 + z * 6 + 1)))], τ) _ _
    refine ex_k 1 (P := none) (g := (cod m5_hasFerriesInPlace 15, [some (.inl 1), some (.inr z)], [.inr z, .inr (whz (τ 4) 0 (cel (τ 4) (0 + z * 6 + 1)))], τ)) rfl trivial ?_
    refine ex_b (P := ¬ (whz (τ 4) 0 (cel (τ 4) (0 + z * 6 + 1))) = z) (ct := (cod m5_hasFerriesInPlace 25, [some (.inl 1), some (.inr z)], [], τ)) (cf := (cod m5_hasFerriesInPlace 16, [some (.inl 1), some (.inr z)], [], τ)) rfl ⟨⟨by omega, by omega⟩, ⟨by omega, by omega⟩⟩ (fun h2 => ?_) (fun h2 => ?_)
    · first
      | (exfalso; omega)
      | (
          refine ex_k 1 (P := none) (g := (cod m5_hasFerriesInPlace 26, [some (.inl 1), some (.inr z)], [.inr 0], τ)) rfl trivial ?_
          exact ex_r rfl (by first | exact Or.inl rfl | exact Or.inr rfl | (show 0 = 0 ∨ 0 = 1; omega)) rfl (rI (by first | rw [b2_t (fun i hi => hv i (by omega))] | rw [b2_f (fun q => by have q1 := q k (by omega); unfold okf at q1; rw [← hz] at q1; have q2 := q1.1; have q3 := q1.2; omega)])))
    · first
      | (exfalso; omega)
      | (
          refine ex_k 5 (P := none) (g := (cod m5_hasFerriesInPlace 21, [some (.inl 1), some (.inr z)], [.inr 2, .inr z, .inl 1, .inr 1, .inl 1], τ)) rfl trivial ?_
          refine ex_c (s_number (τ := τ) (f := z) (w := 2) (Or.inl ⟨rfl, rfl⟩) (by omega) (by omega)) (is := cod m5_hasFerriesInPlace 22) (L := [some (.inl 1), some (.inr z)]) (st := [.inr 1, .inl 1]) rfl rfl rfl ?_
          show Ex _ _ (cod m5_hasFerriesInPlace 22, [some (.inl 1), some (.inr z)], [.inr (cel (τ 4) (0 + z * 6 + 2)), .inr 1, .inl 1], τ) _ _
          refine ex_c (s_whoIsAt (τ := τ) (r := 1) (p := cel (τ 4) (0 + z * 6 + 2)) (Or.inl ⟨rfl, rfl⟩) (by omega) ⟨by omega, by omega⟩) (is := cod m5_hasFerriesInPlace 23) (L := [some (.inl 1), some (.inr z)]) (st := []) rfl rfl rfl ?_
          show Ex _ _ (cod m5_hasFerriesInPlace 23, [some (.inl 1), some (.inr z)], [.inr (whz (τ 4) 1 (cel (τ 4) (0 + z * 6 + 2)))], τ) _ _
          refine ex_k 1 (P := none) (g := (cod m5_hasFerriesInPlace 24, [some (.inl 1), some (.inr z)], [.inr z, .inr (whz (τ 4) 1 (cel (τ 4) (0 + z * 6 + 2)))], τ)) rfl trivial ?_
          refine ex_b (P := (whz (τ 4) 1 (cel (τ 4) (0 + z * 6 + 2))) = z) (ct := (cod m5_hasFerriesInPlace 27, [some (.inl 1), some (.inr z)], [], τ)) (cf := (cod m5_hasFerriesInPlace 25, [some (.inl 1), some (.inr z)], [], τ)) rfl ⟨⟨by omega, by omega⟩, ⟨by omega, by omega⟩⟩ (fun h3 => ?_) (fun h3 => ?_)
          · first
            | (exfalso; omega)
            | (
                refine ex_k 2 (P := none) (g := (cod m5_hasFerriesInPlace 2, [some (.inl 1), some (.inr (z + 1))], [], τ)) rfl trivial ?_
                exact ih (k + 1) (by omega) _ (by omega) (fun i hi => by rcases Nat.lt_succ_iff_lt_or_eq.mp hi with q | q; (exact hv i q); (rw [q]; show _ ∧ _; rw [← hz]; exact ⟨by omega, by omega⟩)))
          · first
            | (exfalso; omega)
            | (
                refine ex_k 1 (P := none) (g := (cod m5_hasFerriesInPlace 26, [some (.inl 1), some (.inr z)], [.inr 0], τ)) rfl trivial ?_
                exact ex_r rfl (by first | exact Or.inl rfl | exact Or.inr rfl | (show 0 = 0 ∨ 0 = 1; omega)) rfl (rI (by first | rw [b2_t (fun i hi => hv i (by omega))] | rw [b2_f (fun q => by have q1 := q k (by omega); unfold okf at q1; rw [← hz] at q1; have q2 := q1.1; have q3 := q1.2; omega)]))))
theorem lp_hasF_5 {τ : SZ} {N : Nat}  (hn : cel (τ 5) 107 = (N : Int)) (hN : N ≤ 8) (hB : Bd (τ 5)) : ∀ (j k : Nat), k + j = N → ∀ (z : Int), z = (k : Int) → (∀ i, i < k → okf (τ 5) i) → Ex 2 m5_hasFerriesInPlace (cod m5_hasFerriesInPlace 2, [some (.inl 2), some (.inr z)], [], τ) 0 (.inl (some (.inr (b2 (∀ k, k < N → okf (τ 5) k))), τ)) := by
  intro j
  induction j with
  | zero =>
    intro k hk z hz hv
    have hb := cel_bd hB (0 + z * 6 + 1)
    have hb2 := cel_bd hB (0 + z * 6 + 2)
    have hb3 := whz_bd hB 0 (cel (τ 5) (0 + z * 6 + 1))
    have hb4 := whz_bd hB 1 (cel (τ 5) (0 + z * 6 + 2))
    refine ex_k 3 (P := none) (g := (cod m5_hasFerriesInPlace 5, [some (.inl 2), some (.inr z)], [.inr 7, .inl 2, .inr z], τ)) rfl trivial ?_
    refine ex_c (s_total (τ := τ) (w := 7) (Or.inr (Or.inl ⟨rfl, rfl⟩)) (by omega)) (is := cod m5_hasFerriesInPlace 6) (L := [some (.inl 2), some (.inr z)]) (st := [.inr z]) rfl rfl rfl ?_
    show Ex _ _ (cod m5_hasFerriesInPlace 6, [some (.inl 2), some (.inr z)], [.inr (cel (τ 5) 107), .inr z], τ) _ _
    refine ex_b (P := (cel (τ 5) 107) ≤ z) (ct := (cod m5_hasFerriesInPlace 29, [some (.inl 2), some (.inr z)], [], τ)) (cf := (cod m5_hasFerriesInPlace 7, [some (.inl 2), some (.inr z)], [], τ)) rfl ⟨⟨by omega, by omega⟩, ⟨by omega, by omega⟩⟩ (fun _ => ?_) (fun hh => absurd (by omega) hh)
    refine ex_k 1 (P := none) (g := (cod m5_hasFerriesInPlace 30, [some (.inl 2), some (.inr z)], [.inr 1], τ)) rfl trivial ?_
    exact ex_r rfl (by first | exact Or.inl rfl | exact Or.inr rfl | (show 1 = 0 ∨ 1 = 1; omega)) rfl (rI (by first | rw [b2_t (fun i hi => hv i (by omega))] | rw [b2_f (fun q => by have q1 := q k (by omega); unfold okf at q1; rw [← hz] at q1; have q2 := q1.1; have q3 := q1.2; omega)]))
  | succ j ih =>
    intro k hk z hz hv
    have hb := cel_bd hB (0 + z * 6 + 1)
    have hb2 := cel_bd hB (0 + z * 6 + 2)
    have hb3 := whz_bd hB 0 (cel (τ 5) (0 + z * 6 + 1))
    have hb4 := whz_bd hB 1 (cel (τ 5) (0 + z * 6 + 2))
    refine ex_k 3 (P := none) (g := (cod m5_hasFerriesInPlace 5, [some (.inl 2), some (.inr z)], [.inr 7, .inl 2, .inr z], τ)) rfl trivial ?_
    refine ex_c (s_total (τ := τ) (w := 7) (Or.inr (Or.inl ⟨rfl, rfl⟩)) (by omega)) (is := cod m5_hasFerriesInPlace 6) (L := [some (.inl 2), some (.inr z)]) (st := [.inr z]) rfl rfl rfl ?_
    show Ex _ _ (cod m5_hasFerriesInPlace 6, [some (.inl 2), some (.inr z)], [.inr (cel (τ 5) 107), .inr z], τ) _ _
    refine ex_b (P := (cel (τ 5) 107) ≤ z) (ct := (cod m5_hasFerriesInPlace 29, [some (.inl 2), some (.inr z)], [], τ)) (cf := (cod m5_hasFerriesInPlace 7, [some (.inl 2), some (.inr z)], [], τ)) rfl ⟨⟨by omega, by omega⟩, ⟨by omega, by omega⟩⟩ (fun hh => absurd hh (by omega)) (fun _ => ?_)
    refine ex_k 5 (P := none) (g := (cod m5_hasFerriesInPlace 12, [some (.inl 2), some (.inr z)], [.inr 1, .inr z, .inl 2, .inr 0, .inl 2], τ)) rfl trivial ?_
    refine ex_c (s_number (τ := τ) (f := z) (w := 1) (Or.inr (Or.inl ⟨rfl, rfl⟩)) (by omega) (by omega)) (is := cod m5_hasFerriesInPlace 13) (L := [some (.inl 2), some (.inr z)]) (st := [.inr 0, .inl 2]) rfl rfl rfl ?_
    show Ex _ _ (cod m5_hasFerriesInPlace 13, [some (.inl 2), some (.inr z)], [.inr (cel (τ 5) (0 + z * 6 + 1)), .inr 0, .inl 2], τ) _ _
    refine ex_c (s_whoIsAt (τ := τ) (r := 0) (p := cel (τ 5) (0 + z * 6 + 1)) (Or.inr (Or.inl ⟨rfl, rfl⟩)) (by omega) ⟨by omega, by omega⟩) (is := cod m5_hasFerriesInPlace 14) (L := [some (.inl 2), some (.inr z)]) (st := []) rfl rfl rfl ?_
    show Ex _ _ (cod m5_hasFerriesInPlace 14, [some (.inl 2), some (.inr z)], [.inr (whz (τ 5) 0 (cel (τ 5) (0 + z * 6 + 1)))], τ) _ _
    refine ex_k 1 (P := none) (g := (cod m5_hasFerriesInPlace 15, [some (.inl 2), some (.inr z)], [.inr z, .inr (whz (τ 5) 0 (cel (τ 5) (0 + z * 6 + 1)))], τ)) rfl trivial ?_
    refine ex_b (P := ¬ (whz (τ 5) 0 (cel (τ 5) (0 + z * 6 + 1))) = z) (ct := (cod m5_hasFerriesInPlace 25, [some (.inl 2), some (.inr z)], [], τ)) (cf := (cod m5_hasFerriesInPlace 16, [some (.inl 2), some (.inr z)], [], τ)) rfl ⟨⟨by omega, by omega⟩, ⟨by omega, by omega⟩⟩ (fun h2 => ?_) (fun h2 => ?_)
    · first
      | (exfalso; omega)
      | (
          refine ex_k 1 (P := none) (g := (cod m5_hasFerriesInPlace 26, [some (.inl 2), some (.inr z)], [.inr 0], τ)) rfl trivial ?_
          exact ex_r rfl (by first | exact Or.inl rfl | exact Or.inr rfl | (show 0 = 0 ∨ 0 = 1; omega)) rfl (rI (by first | rw [b2_t (fun i hi => hv i (by omega))] | rw [b2_f (fun q => by have q1 := q k (by omega); unfold okf at q1; rw [← hz] at q1; have q2 := q1.1; have q3 := q1.2; omega)])))
    · first
      | (exfalso; omega)
      | (
          refine ex_k 5 (P := none) (g := (cod m5_hasFerriesInPlace 21, [some (.inl 2), some (.inr z)], [.inr 2, .inr z, .inl 2, .inr 1, .inl 2], τ)) rfl trivial ?_
          refine ex_c (s_number (τ := τ) (f := z) (w := 2) (Or.inr (Or.inl ⟨rfl, rfl⟩)) (by omega) (by omega)) (is := cod m5_hasFerriesInPlace 22) (L := [some (.inl 2), some (.inr z)]) (st := [.inr 1, .inl 2]) rfl rfl rfl ?_
          show Ex _ _ (cod m5_hasFerriesInPlace 22, [some (.inl 2), some (.inr z)], [.inr (cel (τ 5) (0 + z * 6 + 2)), .inr 1, .inl 2], τ) _ _
          refine ex_c (s_whoIsAt (τ := τ) (r := 1) (p := cel (τ 5) (0 + z * 6 + 2)) (Or.inr (Or.inl ⟨rfl, rfl⟩)) (by omega) ⟨by omega, by omega⟩) (is := cod m5_hasFerriesInPlace 23) (L := [some (.inl 2), some (.inr z)]) (st := []) rfl rfl rfl ?_
          show Ex _ _ (cod m5_hasFerriesInPlace 23, [some (.inl 2), some (.inr z)], [.inr (whz (τ 5) 1 (cel (τ 5) (0 + z * 6 + 2)))], τ) _ _
          refine ex_k 1 (P := none) (g := (cod m5_hasFerriesInPlace 24, [some (.inl 2), some (.inr z)], [.inr z, .inr (whz (τ 5) 1 (cel (τ 5) (0 + z * 6 + 2)))], τ)) rfl trivial ?_
          refine ex_b (P := (whz (τ 5) 1 (cel (τ 5) (0 + z * 6 + 2))) = z) (ct := (cod m5_hasFerriesInPlace 27, [some (.inl 2), some (.inr z)], [], τ)) (cf := (cod m5_hasFerriesInPlace 25, [some (.inl 2), some (.inr z)], [], τ)) rfl ⟨⟨by omega, by omega⟩, ⟨by omega, by omega⟩⟩ (fun h3 => ?_) (fun h3 => ?_)
          · first
            | (exfalso; omega)
            | (
                refine ex_k 2 (P := none) (g := (cod m5_hasFerriesInPlace 2, [some (.inl 2), some (.inr (z + 1))], [], τ)) rfl trivial ?_
                exact ih (k + 1) (by omega) _ (by omega) (fun i hi => by rcases Nat.lt_succ_iff_lt_or_eq.mp hi with q | q; (exact hv i q); (rw [q]; show _ ∧ _; rw [← hz]; exact ⟨by omega, by omega⟩)))
          · first
            | (exfalso; omega)
            | (
                refine ex_k 1 (P := none) (g := (cod m5_hasFerriesInPlace 26, [some (.inl 2), some (.inr z)], [.inr 0], τ)) rfl trivial ?_
                exact ex_r rfl (by first | exact Or.inl rfl | exact Or.inr rfl | (show 0 = 0 ∨ 0 = 1; omega)) rfl (rI (by first | rw [b2_t (fun i hi => hv i (by omega))] | rw [b2_f (fun q => by have q1 := q k (by omega); unfold okf at q1; rw [← hz] at q1; have q2 := q1.1; have q3 := q1.2; omega)]))))
theorem lp_hasF_6 {τ : SZ} {N : Nat}  (hn : cel (τ 6) 107 = (N : Int)) (hN : N ≤ 8) (hB : Bd (τ 6)) : ∀ (j k : Nat), k + j = N → ∀ (z : Int), z = (k : Int) → (∀ i, i < k → okf (τ 6) i) → Ex 2 m5_hasFerriesInPlace (cod m5_hasFerriesInPlace 2, [some (.inl 3), some (.inr z)], [], τ) 0 (.inl (some (.inr (b2 (∀ k, k < N → okf (τ 6) k))), τ)) := by
  intro j
  induction j with
  | zero =>
    intro k hk z hz hv
    have hb := cel_bd hB (0 + z * 6 + 1)
    have hb2 := cel_bd hB (0 + z * 6 + 2)
    have hb3 := whz_bd hB 0 (cel (τ 6) (0 + z * 6 + 1))
    have hb4 := whz_bd hB 1 (cel (τ 6) (0 + z * 6 + 2))
    refine ex_k 3 (P := none) (g := (cod m5_hasFerriesInPlace 5, [some (.inl 3), some (.inr z)], [.inr 7, .inl 3, .inr z], τ)) rfl trivial ?_
    refine ex_c (s_total (τ := τ) (w := 7) (Or.inr (Or.inr ⟨rfl, rfl⟩)) (by omega)) (is := cod m5_hasFerriesInPlace 6) (L := [some (.inl 3), some (.inr z)]) (st := [.inr z]) rfl rfl rfl ?_
    show Ex _ _ (cod m5_hasFerriesInPlace 6, [some (.inl 3), some (.inr z)], [.inr (cel (τ 6) 107), .inr z], τ) _ _
    refine ex_b (P := (cel (τ 6) 107) ≤ z) (ct := (cod m5_hasFerriesInPlace 29, [some (.inl 3), some (.inr z)], [], τ)) (cf := (cod m5_hasFerriesInPlace 7, [some (.inl 3), some (.inr z)], [], τ)) rfl ⟨⟨by omega, by omega⟩, ⟨by omega, by omega⟩⟩ (fun _ => ?_) (fun hh => absurd (by omega) hh)
    refine ex_k 1 (P := none) (g := (cod m5_hasFerriesInPlace 30, [some (.inl 3), some (.inr z)], [.inr 1], τ)) rfl trivial ?_
    exact ex_r rfl (by first | exact Or.inl rfl | exact Or.inr rfl | (show 1 = 0 ∨ 1 = 1; omega)) rfl (rI (by first | rw [b2_t (fun i hi => hv i (by omega))] | rw [b2_f (fun q => by have q1 := q k (by omega); unfold okf at q1; rw [← hz] at q1; have q2 := q1.1; have q3 := q1.2; omega)]))
  | succ j ih =>
    intro k hk z hz hv
    have hb := cel_bd hB (0 + z * 6 + 1)
    have hb2 := cel_bd hB (0 + z * 6 + 2)
    have hb3 := whz_bd hB 0 (cel (τ 6) (0 + z * 6 + 1))
    have hb4 := whz_bd hB 1 (cel (τ 6) (0 + z * 6 + 2))
    refine ex_k 3 (P := none) (g := (cod m5_hasFerriesInPlace 5, [some (.inl 3), some (.inr z)], [.inr 7, .inl 3, .inr z], τ)) rfl trivial ?_
    refine ex_c (s_total (τ := τ) (w := 7) (Or.inr (Or.inr ⟨rfl, rfl⟩)) (by omega)) (is := cod m5_hasFerriesInPlace 6) (L := [some (.inl 3), some (.inr z)]) (st := [.inr z]) rfl rfl rfl ?_
    show Ex _ _ (cod m5_hasFerriesInPlace 6, [some (.inl 3), some (.inr z)], [.inr (cel (τ 6) 107), .inr z], τ) _ _
    refine ex_b (P := (cel (τ 6) 107) ≤ z) (ct := (cod m5_hasFerriesInPlace 29, [some (.inl 3), some (.inr z)], [], τ)) (cf := (cod m5_hasFerriesInPlace 7, [some (.inl 3), some (.inr z)], [], τ)) rfl ⟨⟨by omega, by omega⟩, ⟨by omega, by omega⟩⟩ (fun hh => absurd hh (by omega)) (fun _ => ?_)
    refine ex_k 5 (P := none) (g := (cod m5_hasFerriesInPlace 12, [some (.inl 3), some (.inr z)], [.inr 1, .inr z, .inl 3, .inr 0, .inl 3], τ)) rfl trivial ?_
    refine ex_c (s_number (τ := τ) (f := z) (w := 1) (Or.inr (Or.inr ⟨rfl, rfl⟩)) (by omega) (by omega)) (is := cod m5_hasFerriesInPlace 13) (L := [some (.inl 3), some (.inr z)]) (st := [.inr 0, .inl 3]) rfl rfl rfl ?_
    show Ex _ _ (cod m5_hasFerriesInPlace 13, [some (.inl 3), some (.inr z)], [.inr (cel (τ 6) (0 + z * 6 + 1)), .inr 0, .inl 3], τ) _ _
    refine ex_c (s_whoIsAt (τ := τ) (r := 0) (p := cel (τ 6) (0 + z * 6 + 1)) (Or.inr (Or.inr ⟨rfl, rfl⟩)) (by omega) ⟨by omega, by omega⟩) (is := cod m5_hasFerriesInPlace 14) (L := [some (.inl 3), some (.inr z)]) (st := []) rfl rfl rfl ?_
    show Ex _ _ (cod m5_hasFerriesInPlace 14, [some (.inl 3), some (.inr z)], [.inr (whz (τ 6) 0 (cel (τ 6) (0 + z * 6 + 1)))], τ) _ _
    refine ex_k 1 (P := none) (g := (cod m5_hasFerriesInPlace 15, [some (.inl 3), some (.inr z)], [.inr z, .inr (whz (τ 6) 0 (cel (τ 6) (0 + z * 6 + 1)))], τ)) rfl trivial ?_
    refine ex_b (P := ¬ (whz (τ 6) 0 (cel (τ 6) (0 + z * 6 + 1))) = z) (ct := (cod m5_hasFerriesInPlace 25, [some (.inl 3), some (.inr z)], [], τ)) (cf := (cod m5_hasFerriesInPlace 16, [some (.inl 3), some (.inr z)], [], τ)) rfl ⟨⟨by omega, by omega⟩, ⟨by omega, by omega⟩⟩ (fun h2 => ?_) (fun h2 => ?_)
    · first
      | (exfalso; omega)
      | (
          refine ex_k 1 (P := none) (g := (cod m5_hasFerriesInPlace 26, [some (.inl 3), some (.inr z)], [.inr 0], τ)) rfl trivial ?_
          exact ex_r rfl (by first | exact Or.inl rfl | exact Or.inr rfl | (show 0 = 0 ∨ 0 = 1; omega)) rfl (rI (by first | rw [b2_t (fun i hi => hv i (by omega))] | rw [b2_f (fun q => by have q1 := q k (by omega); unfold okf at q1; rw [← hz] at q1; have q2 := q1.1; have q3 := q1.2; omega)])))
    · first
      | (exfalso; omega)
      | (
          refine ex_k 5 (P := none) (g := (cod m5_hasFerriesInPlace 21, [some (.inl 3), some (.inr z)], [.inr 2, .inr z, .inl 3, .inr 1, .inl 3], τ)) rfl trivial ?_
          refine ex_c (s_number (τ := τ) (f := z) (w := 2) (Or.inr (Or.inr ⟨rfl, rfl⟩)) (by omega) (by omega)) (is := cod m5_hasFerriesInPlace 22) (L := [some (.inl 3), some (.inr z)]) (st := [.inr 1, .inl 3]) rfl rfl rfl ?_
          show Ex _ _ (cod m5_hasFerriesInPlace 22, [some (.inl 3), some (.inr z)], [.inr (cel (τ 6) (0 + z * 6 + 2)), .inr 1, .inl 3], τ) _ _
          refine ex_c (s_whoIsAt (τ := τ) (r := 1) (p := cel (τ 6) (0 + z * 6 + 2)) (Or.inr (Or.inr ⟨rfl, rfl⟩)) (by omega) ⟨by omega, by omega⟩) (is := cod m5_hasFerriesInPlace 23) (L := [some (.inl 3), some (.inr z)]) (st := []) rfl rfl rfl ?_
          show Ex _ _ (cod m5_hasFerriesInPlace 23, [some (.inl 3), some (.inr z)], [.inr (whz (τ 6) 1 (cel (τ 6) (0 + z * 6 + 2)))], τ) _ _
          refine ex_k 1 (P := none) (g := (cod m5_hasFerriesInPlace 24, [some (.inl 3), some (.inr z)], [.inr z, .inr (whz (τ 6) 1 (cel (τ 6) (0 + z * 6 + 2)))], τ)) rfl trivial ?_
          refine ex_b (P := (whz (τ 6) 1 (cel (τ 6) (0 + z * 6 + 2))) = z) (ct := (cod m5_hasFerriesInPlace 27, [some (.inl 3), some (.inr z)], [], τ)) (cf := (cod m5_hasFerriesInPlace 25, [some (.inl 3), some (.inr z)], [], τ)) rfl ⟨⟨by omega, by omega⟩, ⟨by omega, by omega⟩⟩ (fun h3 => ?_) (fun h3 => ?_)
          · first
            | (exfalso; omega)
            | (
                refine ex_k 2 (P := none) (g := (cod m5_hasFerriesInPlace 2, [some (.inl 3), some (.inr (z + 1))], [], τ)) rfl trivial ?_
                exact ih (k + 1) (by omega) _ (by omega) (fun i hi => by rcases Nat.lt_succ_iff_lt_or_eq.mp hi with q | q; (exact hv i q); (rw [q]; show _ ∧ _; rw [← hz]; exact ⟨by omega, by omega⟩)))
          · first
            | (exfalso; omega)
            | (
                refine ex_k 1 (P := none) (g := (cod m5_hasFerriesInPlace 26, [some (.inl 3), some (.inr z)], [.inr 0], τ)) rfl trivial ?_
                exact ex_r rfl (by first | exact Or.inl rfl | exact Or.inr rfl | (show 0 = 0 ∨ 0 = 1; omega)) rfl (rI (by first | rw [b2_t (fun i hi => hv i (by omega))] | rw [b2_f (fun q => by have q1 := q k (by omega); unfold okf at q1; rw [← hz] at q1; have q2 := q1.1; have q3 := q1.2; omega)]))))
theorem s_hasFerriesInPlace {ρ a : Nat} {N : Nat} {τ : SZ} (hρ : RA ρ a) (hn : cel (τ a) 107 = (N : Int)) (hN : N ≤ 8) (hB : Bd (τ a)) : RZ 3 m5_hasFerriesInPlace [.inl ρ] τ (.inl (some (.inr (b2 (∀ k, k < N → okf (τ a) k))), τ)) := by
  rcases hρ with ⟨rfl, rfl⟩ | ⟨rfl, rfl⟩ | ⟨rfl, rfl⟩
  · refine Ex.call ?_ rfl rfl
    show Ex _ _ (cod m5_hasFerriesInPlace 0, [some (.inl 1), none], [], τ) _ _
    refine ex_k 2 (P := none) (g := (cod m5_hasFerriesInPlace 2, [some (.inl 1), some (.inr 0)], [], τ)) rfl trivial ?_
    exact lp_hasF_4 hn hN hB N 0 (by omega) 0 rfl (fun i hi => absurd hi (Nat.not_lt_zero i))
  · refine Ex.call ?_ rfl rfl
    show Ex _ _ (cod m5_hasFerriesInPlace 0, [some (.inl 2), none], [], τ) _ _
    refine ex_k 2 (P := none) (g := (cod m5_hasFerriesInPlace 2, [some (.inl 2), some (.inr 0)], [], τ)) rfl trivial ?_
    exact lp_hasF_5 hn hN hB N 0 (by omega) 0 rfl (fun i hi => absurd hi (Nat.not_lt_zero i))
  · refine Ex.call ?_ rfl rfl
    show Ex _ _ (cod m5_hasFerriesInPlace 0, [some (.inl 3), none], [], τ) _ _
    refine ex_k 2 (P := none) (g := (cod m5_hasFerriesInPlace 2, [some (.inl 3), some (.inr 0)], [], τ)) rfl trivial ?_
    exact lp_hasF_6 hn hN hB N 0 (by omega) 0 rfl (fun i hi => absurd hi (Nat.not_lt_zero i))
theorem s_copyTo_1_15 {x : Int} {τ : SZ} (hx : 0 ≤ x ∧ x ≤ 763) : RZ 1 m5_copyTo [.inl 1, .inl 15, .inr x] τ (.inl (none, zr τ 15 (zc (τ 4) (τ 15) 0 x.toNat 109))) := by
  refine Ex.call ?_ rfl rfl
  show Ex _ _ (cod m5_copyTo 0, [some (.inl 1), some (.inl 15), some (.inr x)], [], τ) _ _
  refine ex_k 1 (P := none) (g := (cod m5_copyTo 1, [some (.inl 1), some (.inl 15), some (.inr x)], [.inr x], τ)) rfl trivial ?_
  refine ex_b (P := x < 0) (ct := (cod m5_copyTo 19, [some (.inl 1), some (.inl 15), some (.inr x)], [], τ)) (cf := (cod m5_copyTo 2, [some (.inl 1), some (.inl 15), some (.inr x)], [], τ)) rfl ⟨by omega, by omega⟩ (fun h1 => ?_) (fun h1 => ?_)
  · first
    | (exfalso; omega)
    | (
        exact ex_r rfl rfl rfl (rfl))
  · first
    | (exfalso; omega)
    | (
        refine ex_k 7 (P := none) (g := (cod m5_copyTo 9, [some (.inl 1), some (.inl 15), some (.inr x)], [.inr 763, .inr x], τ)) rfl trivial ?_
        refine ex_b (P := 763 < x) (ct := (cod m5_copyTo 19, [some (.inl 1), some (.inl 15), some (.inr x)], [], τ)) (cf := (cod m5_copyTo 10, [some (.inl 1), some (.inl 15), some (.inr x)], [], τ)) rfl ⟨⟨by omega, by omega⟩, ⟨by decide, by decide⟩⟩ (fun h2 => ?_) (fun h2 => ?_)
        · first
          | (exfalso; omega)
          | (
              exact ex_r rfl rfl rfl (rfl))
        · first
          | (exfalso; omega)
          | (
              refine ex_k 9 (P := some (0 ≤ 0 ∧ 0 ≤ x ∧ 0 ≤ 109 ∧ 0 + 109 ≤ ((109 : Nat) : Int) ∧ x + 109 ≤ ((872 : Nat) : Int))) (g := (cod m5_copyTo 19, [some (.inl 1), some (.inl 15), some (.inr x)], [], (zr τ 15 (zc (τ 4) (τ 15) 0 x.toNat 109)))) rfl (by show 0 ≤ 0 ∧ 0 ≤ x ∧ 0 ≤ 109 ∧ 0 + 109 ≤ ((109 : Nat) : Int) ∧ x + 109 ≤ ((872 : Nat) : Int); omega) ?_
              exact ex_r rfl rfl rfl (rfl)))
theorem s_copyTo_1_5 {x : Int} {τ : SZ} (hx : 0 ≤ x ∧ x ≤ 0) : RZ 1 m5_copyTo [.inl 1, .inl 5, .inr x] τ (.inl (none, zr τ 5 (zc (τ 4) (τ 5) 0 x.toNat 109))) := by
  refine Ex.call ?_ rfl rfl
  show Ex _ _ (cod m5_copyTo 0, [some (.inl 1), some (.inl 5), some (.inr x)], [], τ) _ _
  refine ex_k 1 (P := none) (g := (cod m5_copyTo 1, [some (.inl 1), some (.inl 5), some (.inr x)], [.inr x], τ)) rfl trivial ?_
  refine ex_b (P := x < 0) (ct := (cod m5_copyTo 19, [some (.inl 1), some (.inl 5), some (.inr x)], [], τ)) (cf := (cod m5_copyTo 2, [some (.inl 1), some (.inl 5), some (.inr x)], [], τ)) rfl ⟨by omega, by omega⟩ (fun h1 => ?_) (fun h1 => ?_)
  · first
    | (exfalso; omega)
    | (
        exact ex_r rfl rfl rfl (rfl))
  · first
    | (exfalso; omega)
    | (
        refine ex_k 7 (P := none) (g := (cod m5_copyTo 9, [some (.inl 1), some (.inl 5), some (.inr x)], [.inr 0, .inr x], τ)) rfl trivial ?_
        refine ex_b (P := 0 < x) (ct := (cod m5_copyTo 19, [some (.inl 1), some (.inl 5), some (.inr x)], [], τ)) (cf := (cod m5_copyTo 10, [some (.inl 1), some (.inl 5), some (.inr x)], [], τ)) rfl ⟨⟨by omega, by omega⟩, ⟨by decide, by decide⟩⟩ (fun h2 => ?_) (fun h2 => ?_)
        · first
          | (exfalso; omega)
          | (
              exact ex_r rfl rfl rfl (rfl))
        · first
          | (exfalso; omega)
          | (
              refine ex_k 9 (P := some (0 ≤ 0 ∧ 0 ≤ x ∧ 0 ≤ 109 ∧ 0 + 109 ≤ ((109 : Nat) : Int) ∧ x + 109 ≤ ((109 : Nat) : Int))) (g := (cod m5_copyTo 19, [some (.inl 1), some (.inl 5), some (.inr x)], [], (zr τ 5 (zc (τ 4) (τ 5) 0 x.toNat 109)))) rfl (by show 0 ≤ 0 ∧ 0 ≤ x ∧ 0 ≤ 109 ∧ 0 + 109 ≤ ((109 : Nat) : Int) ∧ x + 109 ≤ ((109 : Nat) : Int); omega) ?_
              exact ex_r rfl rfl rfl (rfl)))
theorem s_copyTo_2_4 {x : Int} {τ : SZ} (hx : 0 ≤ x ∧ x ≤ 0) : RZ 1 m5_copyTo [.inl 2, .inl 4, .inr x] τ (.inl (none, zr τ 4 (zc (τ 5) (τ 4) 0 x.toNat 109))) := by
  refine Ex.call ?_ rfl rfl
  show Ex _ _ (cod m5_copyTo 0, [some (.inl 2), some (.inl 4), some (.inr x)], [], τ) _ _
  refine ex_k 1 (P := none) (g := (cod m5_copyTo 1, [some (.inl 2), some (.inl 4), some (.inr x)], [.inr x], τ)) rfl trivial ?_
  refine ex_b (P := x < 0) (ct := (cod m5_copyTo 19, [some (.inl 2), some (.inl 4), some (.inr x)], [], τ)) (cf := (cod m5_copyTo 2, [some (.inl 2), some (.inl 4), some (.inr x)], [], τ)) rfl ⟨by omega, by omega⟩ (fun h1 => ?_) (fun h1 => ?_)
  · first
    | (exfalso; omega)
    | (
        exact ex_r rfl rfl rfl (rfl))
  · first
    | (exfalso; omega)
    | (
        refine ex_k 7 (P := none) (g := (cod m5_copyTo 9, [some (.inl 2), some (.inl 4), some (.inr x)], [.inr 0, .inr x], τ)) rfl trivial ?_
        refine ex_b (P := 0 < x) (ct := (cod m5_copyTo 19, [some (.inl 2), some (.inl 4), some (.inr x)], [], τ)) (cf := (cod m5_copyTo 10, [some (.inl 2), some (.inl 4), some (.inr x)], [], τ)) rfl ⟨⟨by omega, by omega⟩, ⟨by decide, by decide⟩⟩ (fun h2 => ?_) (fun h2 => ?_)
        · first
          | (exfalso; omega)
          | (
              exact ex_r rfl rfl rfl (rfl))
        · first
          | (exfalso; omega)
          | (
              refine ex_k 9 (P := some (0 ≤ 0 ∧ 0 ≤ x ∧ 0 ≤ 109 ∧ 0 + 109 ≤ ((109 : Nat) : Int) ∧ x + 109 ≤ ((109 : Nat) : Int))) (g := (cod m5_copyTo 19, [some (.inl 2), some (.inl 4), some (.inr x)], [], (zr τ 4 (zc (τ 5) (τ 4) 0 x.toNat 109)))) rfl (by show 0 ≤ 0 ∧ 0 ≤ x ∧ 0 ≤ 109 ∧ 0 + 109 ≤ ((109 : Nat) : Int) ∧ x + 109 ≤ ((109 : Nat) : Int); omega) ?_
              exact ex_r rfl rfl rfl (rfl)))
theorem s_copyTo_1_6 {x : Int} {τ : SZ} (hx : 0 ≤ x ∧ x ≤ 0) : RZ 1 m5_copyTo [.inl 1, .inl 6, .inr x] τ (.inl (none, zr τ 6 (zc (τ 4) (τ 6) 0 x.toNat 109))) := by
  refine Ex.call ?_ rfl rfl
  show Ex _ _ (cod m5_copyTo 0, [some (.inl 1), some (.inl 6), some (.inr x)], [], τ) _ _
  refine ex_k 1 (P := none) (g := (cod m5_copyTo 1, [some (.inl 1), some (.inl 6), some (.inr x)], [.inr x], τ)) rfl trivial ?_
  refine ex_b (P := x < 0) (ct := (cod m5_copyTo 19, [some (.inl 1), some (.inl 6), some (.inr x)], [], τ)) (cf := (cod m5_copyTo 2, [some (.inl 1), some (.inl 6), some (.inr x)], [], τ)) rfl ⟨by omega, by omega⟩ (fun h1 => ?_) (fun h1 => ?_)
  · first
    | (exfalso; omega)
    | (
        exact ex_r rfl rfl rfl (rfl))
  · first
    | (exfalso; omega)
    | (
        refine ex_k 7 (P := none) (g := (cod m5_copyTo 9, [some (.inl 1), some (.inl 6), some (.inr x)], [.inr 0, .inr x], τ)) rfl trivial ?_
        refine ex_b (P := 0 < x) (ct := (cod m5_copyTo 19, [some (.inl 1), some (.inl 6), some (.inr x)], [], τ)) (cf := (cod m5_copyTo 10, [some (.inl 1), some (.inl 6), some (.inr x)], [], τ)) rfl ⟨⟨by omega, by omega⟩, ⟨by decide, by decide⟩⟩ (fun h2 => ?_) (fun h2 => ?_)
        · first
          | (exfalso; omega)
          | (
              exact ex_r rfl rfl rfl (rfl))
        · first
          | (exfalso; omega)
          | (
              refine ex_k 9 (P := some (0 ≤ 0 ∧ 0 ≤ x ∧ 0 ≤ 109 ∧ 0 + 109 ≤ ((109 : Nat) : Int) ∧ x + 109 ≤ ((109 : Nat) : Int))) (g := (cod m5_copyTo 19, [some (.inl 1), some (.inl 6), some (.inr x)], [], (zr τ 6 (zc (τ 4) (τ 6) 0 x.toNat 109)))) rfl (by show 0 ≤ 0 ∧ 0 ≤ x ∧ 0 ≤ 109 ∧ 0 + 109 ≤ ((109 : Nat) : Int) ∧ x + 109 ≤ ((109 : Nat) : Int); omega) ?_
              exact ex_r rfl rfl rfl (rfl)))
theorem s_copyTo_3_4 {x : Int} {τ : SZ} (hx : 0 ≤ x ∧ x ≤ 0) : RZ 1 m5_copyTo [.inl 3, .inl 4, .inr x] τ (.inl (none, zr τ 4 (zc (τ 6) (τ 4) 0 x.toNat 109))) := by
  refine Ex.call ?_ rfl rfl
  show Ex _ _ (cod m5_copyTo 0, [some (.inl 3), some (.inl 4), some (.inr x)], [], τ) _ _
  refine ex_k 1 (P := none) (g := (cod m5_copyTo 1, [some (.inl 3), some (.inl 4), some (.inr x)], [.inr x], τ)) rfl trivial ?_
  refine ex_b (P := x < 0) (ct := (cod m5_copyTo 19, [some (.inl 3), some (.inl 4), some (.inr x)], [], τ)) (cf := (cod m5_copyTo 2, [some (.inl 3), some (.inl 4), some (.inr x)], [], τ)) rfl ⟨by omega, by omega⟩ (fun h1 => ?_) (fun h1 => ?_)
  · first
    | (exfalso; omega)
    | (
        exact ex_r rfl rfl rfl (rfl))
  · first
    | (exfalso; omega)
    | (
        refine ex_k 7 (P := none) (g := (cod m5_copyTo 9, [some (.inl 3), some (.inl 4), some (.inr x)], [.inr 0, .inr x], τ)) rfl trivial ?_
        refine ex_b (P := 0 < x) (ct := (cod m5_copyTo 19, [some (.inl 3), some (.inl 4), some (.inr x)], [], τ)) (cf := (cod m5_copyTo 10, [some (.inl 3), some (.inl 4), some (.inr x)], [], τ)) rfl ⟨⟨by omega, by omega⟩, ⟨by decide, by decide⟩⟩ (fun h2 => ?_) (fun h2 => ?_)
        · first
          | (exfalso; omega)
          | (
              exact ex_r rfl rfl rfl (rfl))
        · first
          | (exfalso; omega)
          | (
              refine ex_k 9 (P := some (0 ≤ 0 ∧ 0 ≤ x ∧ 0 ≤ 109 ∧ 0 + 109 ≤ ((109 : Nat) : Int) ∧ x + 109 ≤ ((109 : Nat) : Int))) (g := (cod m5_copyTo 19, [some (.inl 3), some (.inl 4), some (.inr x)], [], (zr τ 4 (zc (τ 6) (τ 4) 0 x.toNat 109)))) rfl (by show 0 ≤ 0 ∧ 0 ≤ x ∧ 0 ≤ 109 ∧ 0 + 109 ≤ ((109 : Nat) : Int) ∧ x + 109 ≤ ((109 : Nat) : Int); omega) ?_
              exact ex_r rfl rfl rfl (rfl)))
theorem s_copyFrom {x : Int} {τ : SZ} (hx : 0 ≤ x ∧ x ≤ 763) : RZ 1 m5_copyFrom [.inl 1, .inl 15, .inr x] τ (.inl (none, zr τ 4 (zc (τ 15) (τ 4) x.toNat 0 109))) := by
  refine Ex.call ?_ rfl rfl
  show Ex _ _ (cod m5_copyFrom 0, [some (.inl 1), some (.inl 15), some (.inr x)], [], τ) _ _
  refine ex_k 1 (P := none) (g := (cod m5_copyFrom 1, [some (.inl 1), some (.inl 15), some (.inr x)], [.inr x], τ)) rfl trivial ?_
  refine ex_b (P := x < 0) (ct := (cod m5_copyFrom 19, [some (.inl 1), some (.inl 15), some (.inr x)], [], τ)) (cf := (cod m5_copyFrom 2, [some (.inl 1), some (.inl 15), some (.inr x)], [], τ)) rfl ⟨by omega, by omega⟩ (fun h1 => ?_) (fun h1 => ?_)
  · first
    | (exfalso; omega)
    | (
        exact ex_r rfl rfl rfl (rfl))
  · first
    | (exfalso; omega)
    | (
        refine ex_k 7 (P := none) (g := (cod m5_copyFrom 9, [some (.inl 1), some (.inl 15), some (.inr x)], [.inr 763, .inr x], τ)) rfl trivial ?_
        refine ex_b (P := 763 < x) (ct := (cod m5_copyFrom 19, [some (.inl 1), some (.inl 15), some (.inr x)], [], τ)) (cf := (cod m5_copyFrom 10, [some (.inl 1), some (.inl 15), some (.inr x)], [], τ)) rfl ⟨⟨by omega, by omega⟩, ⟨by decide, by decide⟩⟩ (fun h2 => ?_) (fun h2 => ?_)
        · first
          | (exfalso; omega)
          | (
              exact ex_r rfl rfl rfl (rfl))
        · first
          | (exfalso; omega)
          | (
              refine ex_k 9 (P := some (0 ≤ x ∧ 0 ≤ 0 ∧ 0 ≤ 109 ∧ x + 109 ≤ ((872 : Nat) : Int) ∧ 0 + 109 ≤ ((109 : Nat) : Int))) (g := (cod m5_copyFrom 19, [some (.inl 1), some (.inl 15), some (.inr x)], [], (zr τ 4 (zc (τ 15) (τ 4) x.toNat 0 109)))) rfl (by show 0 ≤ x ∧ 0 ≤ 0 ∧ 0 ≤ 109 ∧ x + 109 ≤ ((872 : Nat) : Int) ∧ 0 + 109 ≤ ((109 : Nat) : Int); omega) ?_
              exact ex_r rfl rfl rfl (rfl)))
theorem s_take_2_1 {τ : SZ} : RZ 2 m5_take [.inl 2, .inl 1] τ (.inl (none, zr τ 5 (zc (τ 4) (τ 5) 0 0 109))) := by
  refine Ex.call ?_ rfl rfl
  show Ex _ _ (cod m5_take 0, [some (.inl 2), some (.inl 1)], [], τ) _ _
  refine ex_k 4 (P := none) (g := (cod m5_take 4, [some (.inl 2), some (.inl 1)], [.inr 0, .inl 5, .inl 1], τ)) rfl trivial ?_
  refine ex_c (s_copyTo_1_5 (τ := τ) (x := 0) (by omega)) (is := cod m5_take 5) (L := [some (.inl 2), some (.inl 1)]) (st := []) rfl rfl rfl ?_
  show Ex _ _ (cod m5_take 5, [some (.inl 2), some (.inl 1)], [], (zr τ 5 (zc (τ 4) (τ 5) 0 0 109))) _ _
  exact ex_r rfl rfl rfl (rfl)
theorem s_take_1_2 {τ : SZ} : RZ 2 m5_take [.inl 1, .inl 2] τ (.inl (none, zr τ 4 (zc (τ 5) (τ 4) 0 0 109))) := by
  refine Ex.call ?_ rfl rfl
  show Ex _ _ (cod m5_take 0, [some (.inl 1), some (.inl 2)], [], τ) _ _
  refine ex_k 4 (P := none) (g := (cod m5_take 4, [some (.inl 1), some (.inl 2)], [.inr 0, .inl 4, .inl 2], τ)) rfl trivial ?_
  refine ex_c (s_copyTo_2_4 (τ := τ) (x := 0) (by omega)) (is := cod m5_take 5) (L := [some (.inl 1), some (.inl 2)]) (st := []) rfl rfl rfl ?_
  show Ex _ _ (cod m5_take 5, [some (.inl 1), some (.inl 2)], [], (zr τ 4 (zc (τ 5) (τ 4) 0 0 109))) _ _
  exact ex_r rfl rfl rfl (rfl)
theorem s_take_3_1 {τ : SZ} : RZ 2 m5_take [.inl 3, .inl 1] τ (.inl (none, zr τ 6 (zc (τ 4) (τ 6) 0 0 109))) := by
  refine Ex.call ?_ rfl rfl
  show Ex _ _ (cod m5_take 0, [some (.inl 3), some (.inl 1)], [], τ) _ _
  refine ex_k 4 (P := none) (g := (cod m5_take 4, [some (.inl 3), some (.inl 1)], [.inr 0, .inl 6, .inl 1], τ)) rfl trivial ?_
  refine ex_c (s_copyTo_1_6 (τ := τ) (x := 0) (by omega)) (is := cod m5_take 5) (L := [some (.inl 3), some (.inl 1)]) (st := []) rfl rfl rfl ?_
  show Ex _ _ (cod m5_take 5, [some (.inl 3), some (.inl 1)], [], (zr τ 6 (zc (τ 4) (τ 6) 0 0 109))) _ _
  exact ex_r rfl rfl rfl (rfl)
theorem s_take_1_3 {τ : SZ} : RZ 2 m5_take [.inl 1, .inl 3] τ (.inl (none, zr τ 4 (zc (τ 6) (τ 4) 0 0 109))) := by
  refine Ex.call ?_ rfl rfl
  show Ex _ _ (cod m5_take 0, [some (.inl 1), some (.inl 3)], [], τ) _ _
  refine ex_k 4 (P := none) (g := (cod m5_take 4, [some (.inl 1), some (.inl 3)], [.inr 0, .inl 4, .inl 3], τ)) rfl trivial ?_
  refine ex_c (s_copyTo_3_4 (τ := τ) (x := 0) (by omega)) (is := cod m5_take 5) (L := [some (.inl 1), some (.inl 3)]) (st := []) rfl rfl rfl ?_
  show Ex _ _ (cod m5_take 5, [some (.inl 1), some (.inl 3)], [], (zr τ 4 (zc (τ 6) (τ 4) 0 0 109))) _ _
  exact ex_r rfl rfl rfl (rfl)
end RIV3
