/-! contracts of the second implementation: changes that are tried: printed by wip/whole/db25.py -/
section MTR
theorem exq_cq {d d' i j : Nat} {f : FZ} {as : List VZ} {is : List CI} {L : List (Option VZ)} {st : List VZ} {τ : SZ} {u : Nat} {Q Qc : RSZ → Prop} (hM : RZq d' j as τ Qc) (h : cz i f = some (j, as, (is, L, st, τ))) (hd : Nat.ble d' d = true) (hu : Nat.ble (u + mX j) (mX i) = true)
    (k : ∀ v τ', Qc (.inl (v, τ')) → Exq d i (is, L, v.toList ++ st, τ') (u + mX j) Q) (kx : ∀ E τ', Qc (.inr (E, τ')) → False) : Exq d i f u Q := by
  obtain ⟨r, hq, hr⟩ := hM
  cases r with
  | inl p => obtain ⟨v, τ'⟩ := p; exact exq_c hr h hd hu (k v τ' hq)
  | inr p => exact (kx _ _ hq).elim
theorem qd0g {τ : SZ} {ob a1 a2 a3 w d w2 d2 V : Int} {c' : Nat → Int} {r : RSZ} (h : ob = 0) (q : Qg τ V c' r) : Qdo τ ob a1 a2 a3 w d w2 d2 V c' r := by
  obtain ⟨e, s', h1, rfl⟩ := q
  exact ⟨Or.inl h, e, fun q => absurd (h.symm.trans q) (by decide), fun q => absurd (h.symm.trans q) (by decide), fun q => absurd (h.symm.trans q) (by decide), fun _ => ⟨s', h1, rfl⟩⟩
theorem qd3e {τ : SZ} {ob a1 a2 a3 w d w2 d2 e w' d' w2' d2' V : Int} {c' : Nat → Int} (h : ob = 3) (hw : w = w') (hd : d = d') (hw2 : w2 = w2') (hd2 : d2 = d2') : Qdo τ ob a1 a2 a3 w d w2 d2 V c' (.inl (some (.inr 0), rf (dt τ e) a3 w' d' w2' d2')) :=
  ⟨Or.inr (Or.inr (Or.inr h)), e, fun q => absurd (h.symm.trans q) (by decide), fun q => absurd (h.symm.trans q) (by decide), fun _ => by rw [hw, hd, hw2, hd2], fun q => absurd (h.symm.trans q) (by decide)⟩
theorem Qdo.dt {τ : SZ} {ob a1 a2 a3 w d w2 d2 V e0 : Int} {c' : Nat → Int} (r : RSZ) (q : Qdo (dt τ e0) ob a1 a2 a3 w d w2 d2 V c' r) : Qdo τ ob a1 a2 a3 w d w2 d2 V c' r := by
  obtain ⟨h, e, h1, h2, h3, h4⟩ := q
  refine ⟨h, e, fun q => ?_, fun q => ?_, fun q => ?_, fun q => ?_⟩
  · rw [h1 q, dt_dt]
  · rw [h2 q, dt_dt]
  · rw [h3 q, dt_dt]
  · obtain ⟨s', h5, h6⟩ := h4 q
    exact ⟨s', h5, by rw [h6, dt_zr, dt_dt]⟩
theorem m_doMove_0 {f r : Int} {τ : SZ} {c : Nat → Int} {B : Int} (hI : Iv B c) (hR : Rs c (τ 22)) (hf : Rng f) (hr : Rng r) (hB : B + 9 ≤ 100000000) : RZq 8 m8_doMove [.inl 21, .inr f, .inr r, .inr 0] τ (Qdo τ (obM c f r (-1)) 1 2 2 4 f (ocn c f r (-1)) (dtl c (ocn c f r (-1)) f r (-1)) (mkp c f r (-1)) (mkm c f r (-1))) := by
  have hS := hI.1
  have hC := hI.2.1
  have hN := hS.n
  obtain ⟨hf1, hf2⟩ := hf
  obtain ⟨hr1, hr2⟩ := hr
  have hh := hnt_in c f r (-1)
  have hob : (0 ≤ f ∧ f < cel c 107) ∧ (0 ≤ r ∧ r < 2) → obM c f r (-1) = if ocn c f r (-1) = 1 ∨ ocn c f r (-1) = 2 ∨ ocn c f r (-1) = 3 then 0 else 3 := fun q => by unfold obM; rw [if_neg (fun w => w q)]
  refine Exq.call ?_ rfl rfl
  show Exq _ _ (cod m8_doMove 0, [some (.inl 21), some (.inr f), some (.inr r), some (.inr 0), none, none], [], τ) _ _
  refine exq_k 1 (P := none) (g := (cod m8_doMove 1, [some (.inl 21), some (.inr f), some (.inr r), some (.inr 0), none, none], [.inr 0], τ)) rfl trivial ?_
  refine exq_b (P := 0 = 0) (ct := (cod m8_doMove 4, [some (.inl 21), some (.inr f), some (.inr r), some (.inr 0), none, none], [], τ)) (cf := (cod m8_doMove 2, [some (.inl 21), some (.inr f), some (.inr r), some (.inr 0), none, none], [], τ)) rfl ⟨by decide, by decide⟩ (fun _ => ?_) (fun hh => absurd (by decide) hh)
  refine exq_k 4 (P := none) (g := (cod m8_doMove 8, [some (.inl 21), some (.inr f), some (.inr r), some (.inr 0), some (.inr (-1)), none], [.inr f, .inl 21], τ)) rfl trivial ?_
  refine exq_c (m_isFerry (τ := τ) (f := f) hI hR ⟨by omega, by omega⟩) (is := cod m8_doMove 9) (L := [some (.inl 21), some (.inr f), some (.inr r), some (.inr 0), some (.inr (-1)), none]) (st := []) rfl rfl rfl ?_
  show Exq _ _ (cod m8_doMove 9, [some (.inl 21), some (.inr f), some (.inr r), some (.inr 0), some (.inr (-1)), none], [.inr (b2 (0 ≤ f ∧ f < cel c 107))], τ) _ _
  refine exq_b (P := (b2 (0 ≤ f ∧ f < cel c 107)) = 0) (ct := (cod m8_doMove 13, [some (.inl 21), some (.inr f), some (.inr r), some (.inr 0), some (.inr (-1)), none], [], τ)) (cf := (cod m8_doMove 10, [some (.inl 21), some (.inr f), some (.inr r), some (.inr 0), some (.inr (-1)), none], [], τ)) rfl b2_rng (fun h2 => ?_) (fun h2 => ?_)
  · first
    | (exfalso; have h2 := b2_e0 h2; omega)
    | (
        have h2 := b2_e0 h2
        refine exq_k 2 (P := none) (g := (cod m8_doMove 15, [some (.inl 21), some (.inr f), some (.inr r), some (.inr 0), some (.inr (-1)), none], [.inr 1, .inl 21], τ)) rfl trivial ?_
        refine exq_c (m_fails (τ := τ) (k := 1)) (is := cod m8_doMove 16) (L := [some (.inl 21), some (.inr f), some (.inr r), some (.inr 0), some (.inr (-1)), none]) (st := []) rfl rfl rfl ?_
        show Exq _ _ (cod m8_doMove 16, [some (.inl 21), some (.inr f), some (.inr r), some (.inr 0), some (.inr (-1)), none], [.inr 0], (zr τ 21 (zu (τ 21) 7 1))) _ _
        exact exq_r rfl trivial rfl (qd1 (by unfold obM; rw [if_pos (by omega)])))
  · first
    | (exfalso; have h2 := b2_n0 h2; omega)
    | (
        have h2 := b2_n0 h2
        refine exq_k 1 (P := none) (g := (cod m8_doMove 11, [some (.inl 21), some (.inr f), some (.inr r), some (.inr 0), some (.inr (-1)), none], [.inr r], τ)) rfl trivial ?_
        refine exq_c (m_isRiver (τ := τ) (v := r) ⟨by omega, by omega⟩) (is := cod m8_doMove 12) (L := [some (.inl 21), some (.inr f), some (.inr r), some (.inr 0), some (.inr (-1)), none]) (st := []) rfl rfl rfl ?_
        show Exq _ _ (cod m8_doMove 12, [some (.inl 21), some (.inr f), some (.inr r), some (.inr 0), some (.inr (-1)), none], [.inr (b2 (0 ≤ r ∧ r < 2))], τ) _ _
        refine exq_b (P := ¬ (b2 (0 ≤ r ∧ r < 2)) = 0) (ct := (cod m8_doMove 17, [some (.inl 21), some (.inr f), some (.inr r), some (.inr 0), some (.inr (-1)), none], [], τ)) (cf := (cod m8_doMove 13, [some (.inl 21), some (.inr f), some (.inr r), some (.inr 0), some (.inr (-1)), none], [], τ)) rfl b2_rng (fun h3 => ?_) (fun h3 => ?_)
        · first
          | (exfalso; have h3 := b2_n0 h3; omega)
          | (
              have h3 := b2_n0 h3
              refine exq_k 4 (P := none) (g := (cod m8_doMove 21, [some (.inl 21), some (.inr f), some (.inr r), some (.inr 0), some (.inr (-1)), none], [.inr (-1), .inr r, .inr f, .inl 21], τ)) rfl trivial ?_
              obtain ⟨e42, he42, hc42⟩ := m_hindersInTurn (τ := τ) (f := f) (r := r) (s := (-1)) hI hR (by omega) (by omega) (by omega)
              refine exq_c hc42 (is := cod m8_doMove 22) (L := [some (.inl 21), some (.inr f), some (.inr r), some (.inr 0), some (.inr (-1)), none]) (st := []) rfl rfl rfl ?_
              show Exq _ _ (cod m8_doMove 22, [some (.inl 21), some (.inr f), some (.inr r), some (.inr 0), some (.inr (-1)), none], [.inr (hnt c f r (-1))], (zr τ 21 (zu (τ 21) 10 e42))) _ _
              refine exq_k 2 (P := none) (g := (cod m8_doMove 24, [some (.inl 21), some (.inr f), some (.inr r), some (.inr 0), some (.inr (-1)), some (.inr (hnt c f r (-1)))], [.inr (hnt c f r (-1))], (zr τ 21 (zu (τ 21) 10 e42)))) rfl trivial ?_
              refine exq_b (P := (hnt c f r (-1)) ≤ 0) (ct := (cod m8_doMove 34, [some (.inl 21), some (.inr f), some (.inr r), some (.inr 0), some (.inr (-1)), some (.inr (hnt c f r (-1)))], [], (zr τ 21 (zu (τ 21) 10 e42)))) (cf := (cod m8_doMove 25, [some (.inl 21), some (.inr f), some (.inr r), some (.inr 0), some (.inr (-1)), some (.inr (hnt c f r (-1)))], [], (zr τ 21 (zu (τ 21) 10 e42)))) rfl ⟨by omega, by omega⟩ (fun h4 => ?_) (fun h4 => ?_)
              · first
                | (exfalso; omega)
                | (
                    refine exq_k 4 (P := none) (g := (cod m8_doMove 38, [some (.inl 21), some (.inr f), some (.inr r), some (.inr 0), some (.inr (-1)), some (.inr (hnt c f r (-1)))], [.inr (-1), .inr r, .inr f, .inl 21], (zr τ 21 (zu (τ 21) 10 e42)))) rfl trivial ?_
                    have hocn : ocn c f r (-1) = 1 ∨ ocn c f r (-1) = 2 ∨ ocn c f r (-1) = 3 := by omega
                    refine exq_cq (m_goes (τ := (zr τ 21 (zu (τ 21) 10 e42))) (f := f) (r := r) (s := (-1)) hI hR (by omega) (by omega) (by omega) (ocn_mv hocn) hB) (is := cod m8_doMove 39) (L := [some (.inl 21), some (.inr f), some (.inr r), some (.inr 0), some (.inr (-1)), some (.inr (hnt c f r (-1)))]) (st := []) rfl rfl rfl (fun v τ1 hq => ?_) (fun E τ1 hq => by obtain ⟨e, s', h1, h2⟩ := hq; cases h2)
                    obtain ⟨e, s', h1, h2⟩ := hq
                    cases h2
                    exact exq_r rfl trivial rfl (Qdo.dt (e0 := e42) _ (qd0g (by rw [hob (by omega), if_pos hocn]) ⟨e, s', h1, rfl⟩)))
              · first
                | (exfalso; omega)
                | (
                    refine exq_k 7 (P := none) (g := (cod m8_doMove 32, [some (.inl 21), some (.inr f), some (.inr r), some (.inr 0), some (.inr (-1)), some (.inr (hnt c f r (-1)))], [.inr e42, .inr (hnt c f r (-1)), .inr f, .inr 4, .inr 2, .inl 21], (zr τ 21 (zu (τ 21) 10 e42)))) rfl trivial ?_
                    refine exq_c (m_refuseFor (τ := (zr τ 21 (zu (τ 21) 10 e42))) (k := 2) (w := 4) (d := f) (w2 := hnt c f r (-1)) (d2 := e42)) (is := cod m8_doMove 33) (L := [some (.inl 21), some (.inr f), some (.inr r), some (.inr 0), some (.inr (-1)), some (.inr (hnt c f r (-1)))]) (st := []) rfl rfl rfl ?_
                    show Exq _ _ (cod m8_doMove 33, [some (.inl 21), some (.inr f), some (.inr r), some (.inr 0), some (.inr (-1)), some (.inr (hnt c f r (-1)))], [.inr 0], rf (zr τ 21 (zu (τ 21) 10 e42)) 2 4 f (hnt c f r (-1)) e42) _ _
                    refine exq_k 1 (P := none) (g := (cod m8_doMove 39, [some (.inl 21), some (.inr f), some (.inr r), some (.inr 0), some (.inr (-1)), some (.inr (hnt c f r (-1)))], [.inr 0], rf (zr τ 21 (zu (τ 21) 10 e42)) 2 4 f (hnt c f r (-1)) e42)) rfl trivial ?_
                    exact exq_r rfl trivial rfl (qd3e (e := e42) (by rw [hob (by omega), if_neg (by omega)]) rfl rfl (by omega) ((he42 (by omega)).symm))))
        · first
          | (exfalso; have h3 := b2_nn0 h3; omega)
          | (
              have h3 := b2_nn0 h3
              refine exq_k 2 (P := none) (g := (cod m8_doMove 15, [some (.inl 21), some (.inr f), some (.inr r), some (.inr 0), some (.inr (-1)), none], [.inr 1, .inl 21], τ)) rfl trivial ?_
              refine exq_c (m_fails (τ := τ) (k := 1)) (is := cod m8_doMove 16) (L := [some (.inl 21), some (.inr f), some (.inr r), some (.inr 0), some (.inr (-1)), none]) (st := []) rfl rfl rfl ?_
              show Exq _ _ (cod m8_doMove 16, [some (.inl 21), some (.inr f), some (.inr r), some (.inr 0), some (.inr (-1)), none], [.inr 0], (zr τ 21 (zu (τ 21) 7 1))) _ _
              exact exq_r rfl trivial rfl (qd1 (by unfold obM; rw [if_pos (by omega)]))))
theorem m_doMove_1 {f r : Int} {τ : SZ} {c : Nat → Int} {B : Int} (hI : Iv B c) (hR : Rs c (τ 22)) (hf : Rng f) (hr : Rng r) (hB : B + 9 ≤ 100000000) : RZq 8 m8_doMove [.inl 21, .inr f, .inr r, .inr 1] τ (Qdo τ (obM c f r 1) 1 2 2 4 f (ocn c f r 1) (dtl c (ocn c f r 1) f r 1) (mkp c f r 1) (mkm c f r 1)) := by
  have hS := hI.1
  have hC := hI.2.1
  have hN := hS.n
  obtain ⟨hf1, hf2⟩ := hf
  obtain ⟨hr1, hr2⟩ := hr
  have hh := hnt_in c f r 1
  have hob : (0 ≤ f ∧ f < cel c 107) ∧ (0 ≤ r ∧ r < 2) → obM c f r 1 = if ocn c f r 1 = 1 ∨ ocn c f r 1 = 2 ∨ ocn c f r 1 = 3 then 0 else 3 := fun q => by unfold obM; rw [if_neg (fun w => w q)]
  refine Exq.call ?_ rfl rfl
  show Exq _ _ (cod m8_doMove 0, [some (.inl 21), some (.inr f), some (.inr r), some (.inr 1), none, none], [], τ) _ _
  refine exq_k 1 (P := none) (g := (cod m8_doMove 1, [some (.inl 21), some (.inr f), some (.inr r), some (.inr 1), none, none], [.inr 1], τ)) rfl trivial ?_
  refine exq_b (P := 1 = 0) (ct := (cod m8_doMove 4, [some (.inl 21), some (.inr f), some (.inr r), some (.inr 1), none, none], [], τ)) (cf := (cod m8_doMove 2, [some (.inl 21), some (.inr f), some (.inr r), some (.inr 1), none, none], [], τ)) rfl ⟨by decide, by decide⟩ (fun hh => absurd hh (by decide)) (fun _ => ?_)
  refine exq_k 5 (P := none) (g := (cod m8_doMove 8, [some (.inl 21), some (.inr f), some (.inr r), some (.inr 1), some (.inr 1), none], [.inr f, .inl 21], τ)) rfl trivial ?_
  refine exq_c (m_isFerry (τ := τ) (f := f) hI hR ⟨by omega, by omega⟩) (is := cod m8_doMove 9) (L := [some (.inl 21), some (.inr f), some (.inr r), some (.inr 1), some (.inr 1), none]) (st := []) rfl rfl rfl ?_
  show Exq _ _ (cod m8_doMove 9, [some (.inl 21), some (.inr f), some (.inr r), some (.inr 1), some (.inr 1), none], [.inr (b2 (0 ≤ f ∧ f < cel c 107))], τ) _ _
  refine exq_b (P := (b2 (0 ≤ f ∧ f < cel c 107)) = 0) (ct := (cod m8_doMove 13, [some (.inl 21), some (.inr f), some (.inr r), some (.inr 1), some (.inr 1), none], [], τ)) (cf := (cod m8_doMove 10, [some (.inl 21), some (.inr f), some (.inr r), some (.inr 1), some (.inr 1), none], [], τ)) rfl b2_rng (fun h2 => ?_) (fun h2 => ?_)
  · first
    | (exfalso; have h2 := b2_e0 h2; omega)
    | (
        have h2 := b2_e0 h2
        refine exq_k 2 (P := none) (g := (cod m8_doMove 15, [some (.inl 21), some (.inr f), some (.inr r), some (.inr 1), some (.inr 1), none], [.inr 1, .inl 21], τ)) rfl trivial ?_
        refine exq_c (m_fails (τ := τ) (k := 1)) (is := cod m8_doMove 16) (L := [some (.inl 21), some (.inr f), some (.inr r), some (.inr 1), some (.inr 1), none]) (st := []) rfl rfl rfl ?_
        show Exq _ _ (cod m8_doMove 16, [some (.inl 21), some (.inr f), some (.inr r), some (.inr 1), some (.inr 1), none], [.inr 0], (zr τ 21 (zu (τ 21) 7 1))) _ _
        exact exq_r rfl trivial rfl (qd1 (by unfold obM; rw [if_pos (by omega)])))
  · first
    | (exfalso; have h2 := b2_n0 h2; omega)
    | (
        have h2 := b2_n0 h2
        refine exq_k 1 (P := none) (g := (cod m8_doMove 11, [some (.inl 21), some (.inr f), some (.inr r), some (.inr 1), some (.inr 1), none], [.inr r], τ)) rfl trivial ?_
        refine exq_c (m_isRiver (τ := τ) (v := r) ⟨by omega, by omega⟩) (is := cod m8_doMove 12) (L := [some (.inl 21), some (.inr f), some (.inr r), some (.inr 1), some (.inr 1), none]) (st := []) rfl rfl rfl ?_
        show Exq _ _ (cod m8_doMove 12, [some (.inl 21), some (.inr f), some (.inr r), some (.inr 1), some (.inr 1), none], [.inr (b2 (0 ≤ r ∧ r < 2))], τ) _ _
        refine exq_b (P := ¬ (b2 (0 ≤ r ∧ r < 2)) = 0) (ct := (cod m8_doMove 17, [some (.inl 21), some (.inr f), some (.inr r), some (.inr 1), some (.inr 1), none], [], τ)) (cf := (cod m8_doMove 13, [some (.inl 21), some (.inr f), some (.inr r), some (.inr 1), some (.inr 1), none], [], τ)) rfl b2_rng (fun h3 => ?_) (fun h3 => ?_)
        · first
          | (exfalso; have h3 := b2_n0 h3; omega)
          | (
              have h3 := b2_n0 h3
              refine exq_k 4 (P := none) (g := (cod m8_doMove 21, [some (.inl 21), some (.inr f), some (.inr r), some (.inr 1), some (.inr 1), none], [.inr 1, .inr r, .inr f, .inl 21], τ)) rfl trivial ?_
              obtain ⟨e43, he43, hc43⟩ := m_hindersInTurn (τ := τ) (f := f) (r := r) (s := 1) hI hR (by omega) (by omega) (by omega)
              refine exq_c hc43 (is := cod m8_doMove 22) (L := [some (.inl 21), some (.inr f), some (.inr r), some (.inr 1), some (.inr 1), none]) (st := []) rfl rfl rfl ?_
              show Exq _ _ (cod m8_doMove 22, [some (.inl 21), some (.inr f), some (.inr r), some (.inr 1), some (.inr 1), none], [.inr (hnt c f r 1)], (zr τ 21 (zu (τ 21) 10 e43))) _ _
              refine exq_k 2 (P := none) (g := (cod m8_doMove 24, [some (.inl 21), some (.inr f), some (.inr r), some (.inr 1), some (.inr 1), some (.inr (hnt c f r 1))], [.inr (hnt c f r 1)], (zr τ 21 (zu (τ 21) 10 e43)))) rfl trivial ?_
              refine exq_b (P := (hnt c f r 1) ≤ 0) (ct := (cod m8_doMove 34, [some (.inl 21), some (.inr f), some (.inr r), some (.inr 1), some (.inr 1), some (.inr (hnt c f r 1))], [], (zr τ 21 (zu (τ 21) 10 e43)))) (cf := (cod m8_doMove 25, [some (.inl 21), some (.inr f), some (.inr r), some (.inr 1), some (.inr 1), some (.inr (hnt c f r 1))], [], (zr τ 21 (zu (τ 21) 10 e43)))) rfl ⟨by omega, by omega⟩ (fun h4 => ?_) (fun h4 => ?_)
              · first
                | (exfalso; omega)
                | (
                    refine exq_k 4 (P := none) (g := (cod m8_doMove 38, [some (.inl 21), some (.inr f), some (.inr r), some (.inr 1), some (.inr 1), some (.inr (hnt c f r 1))], [.inr 1, .inr r, .inr f, .inl 21], (zr τ 21 (zu (τ 21) 10 e43)))) rfl trivial ?_
                    have hocn : ocn c f r 1 = 1 ∨ ocn c f r 1 = 2 ∨ ocn c f r 1 = 3 := by omega
                    refine exq_cq (m_goes (τ := (zr τ 21 (zu (τ 21) 10 e43))) (f := f) (r := r) (s := 1) hI hR (by omega) (by omega) (by omega) (ocn_mv hocn) hB) (is := cod m8_doMove 39) (L := [some (.inl 21), some (.inr f), some (.inr r), some (.inr 1), some (.inr 1), some (.inr (hnt c f r 1))]) (st := []) rfl rfl rfl (fun v τ1 hq => ?_) (fun E τ1 hq => by obtain ⟨e, s', h1, h2⟩ := hq; cases h2)
                    obtain ⟨e, s', h1, h2⟩ := hq
                    cases h2
                    exact exq_r rfl trivial rfl (Qdo.dt (e0 := e43) _ (qd0g (by rw [hob (by omega), if_pos hocn]) ⟨e, s', h1, rfl⟩)))
              · first
                | (exfalso; omega)
                | (
                    refine exq_k 7 (P := none) (g := (cod m8_doMove 32, [some (.inl 21), some (.inr f), some (.inr r), some (.inr 1), some (.inr 1), some (.inr (hnt c f r 1))], [.inr e43, .inr (hnt c f r 1), .inr f, .inr 4, .inr 2, .inl 21], (zr τ 21 (zu (τ 21) 10 e43)))) rfl trivial ?_
                    refine exq_c (m_refuseFor (τ := (zr τ 21 (zu (τ 21) 10 e43))) (k := 2) (w := 4) (d := f) (w2 := hnt c f r 1) (d2 := e43)) (is := cod m8_doMove 33) (L := [some (.inl 21), some (.inr f), some (.inr r), some (.inr 1), some (.inr 1), some (.inr (hnt c f r 1))]) (st := []) rfl rfl rfl ?_
                    show Exq _ _ (cod m8_doMove 33, [some (.inl 21), some (.inr f), some (.inr r), some (.inr 1), some (.inr 1), some (.inr (hnt c f r 1))], [.inr 0], rf (zr τ 21 (zu (τ 21) 10 e43)) 2 4 f (hnt c f r 1) e43) _ _
                    refine exq_k 1 (P := none) (g := (cod m8_doMove 39, [some (.inl 21), some (.inr f), some (.inr r), some (.inr 1), some (.inr 1), some (.inr (hnt c f r 1))], [.inr 0], rf (zr τ 21 (zu (τ 21) 10 e43)) 2 4 f (hnt c f r 1) e43)) rfl trivial ?_
                    exact exq_r rfl trivial rfl (qd3e (e := e43) (by rw [hob (by omega), if_neg (by omega)]) rfl rfl (by omega) ((he43 (by omega)).symm))))
        · first
          | (exfalso; have h3 := b2_nn0 h3; omega)
          | (
              have h3 := b2_nn0 h3
              refine exq_k 2 (P := none) (g := (cod m8_doMove 15, [some (.inl 21), some (.inr f), some (.inr r), some (.inr 1), some (.inr 1), none], [.inr 1, .inl 21], τ)) rfl trivial ?_
              refine exq_c (m_fails (τ := τ) (k := 1)) (is := cod m8_doMove 16) (L := [some (.inl 21), some (.inr f), some (.inr r), some (.inr 1), some (.inr 1), none]) (st := []) rfl rfl rfl ?_
              show Exq _ _ (cod m8_doMove 16, [some (.inl 21), some (.inr f), some (.inr r), some (.inr 1), some (.inr 1), none], [.inr 0], (zr τ 21 (zu (τ 21) 7 1))) _ _
              exact exq_r rfl trivial rfl (qd1 (by unfold obM; rw [if_pos (by omega)]))))
theorem psT_eq {B : Int} {c : Nat → Int} (hS : Sh B c) (hB : B + 1 ≤ 100000000) : psT c = adm (chg (drf c)) 103 1 := by
  have e := drf_adm hS (e := 103) (m := 1) (k := 1) (by omega) (by omega) hB
  unfold psT
  rw [e]
  refine row_ext ((hS.kdrf.kadm (e := 103) (m := 1) (k := 1) (Or.inl (by omega)) (by omega) hB).kchg) (hS.kdrf.kchg.kadm (e := 103) (m := 1) (k := 1) (Or.inl (by omega)) (by omega) hB) (fun y h0 h1 => ?_)
  rw [cel_chg, cel_adm (X := chg (drf c)) (by omega), cel_chg, cel_chg, cel_adm (by omega), cel_adm (by omega)]
  by_cases y1 : y = 108
  · subst y1; rfl
  · rw [if_neg y1, if_neg y1]
    by_cases y2 : y = 103
    · rw [if_pos y2, if_pos y2]; rfl
    · rw [if_neg y2, if_neg y2]
theorem rvp {V v : Int} {τ : SZ} (h : V = v) : (Sum.inl (some (Sum.inr v), τ) : RSZ) = .inl (some (.inr V), τ) := by rw [h]
theorem lp_doPass {τ : SZ} {c : Nat → Int} {B : Int} (hI : Iv B c) (hR : Rs c (τ 22)) (hB : B + 1 ≤ 100000000) : ∀ (j : Nat) (z e : Int), 0 ≤ z → z + (j : Int) = cel c 107 → fsm c (cel c 107).toNat 0 = fsm c j z → Exq 5 m8_doPass (cod m8_doPass 2, [some (.inl 21), some (.inr z)], [], (zr τ 21 (zu (τ 21) 10 e))) 0 (Qdo τ (obP c) 1 2 1 5 (fsm c (cel c 107).toNat 0) 0 0 (cel (psT c) 108) (psT c)) := by
  have hS := hI.1
  have hC := hI.2.1
  have hN := hS.n
  have h0 := hR.n hN.1
  have h1 := hR.tu hN.1
  have htu := hS.tu
  intro j
  induction j with
  | zero =>
    intro z e hz hj hfs
    have hfi : fsm c 0 z = -1 := rfl
    have hID := hI.drf
    have e7 : cel (drf c) 107 = cel c 107 := drf_hi (by omega)
    have hND := hID.1.n
    have hps := psT_eq hS hB
    have e8 : cel (drf c) 108 = cel c 108 := drf_hi (by omega)
    refine exq_k 5 (P := some (0 ≤ 0 ∧ 0 < ((109 : Nat) : Int))) (g := (cod m8_doPass 7, [some (.inl 21), some (.inr z)], [.inr ((τ 22) 0), .inr z], (zr τ 21 (zu (τ 21) 10 e)))) rfl (by show 0 ≤ 0 ∧ 0 < ((109 : Nat) : Int); omega) ?_
    refine exq_b (P := ((τ 22) 0) ≤ z) (ct := (cod m8_doPass 30, [some (.inl 21), some (.inr z)], [], (zr τ 21 (zu (τ 21) 10 e)))) (cf := (cod m8_doPass 8, [some (.inl 21), some (.inr z)], [], (zr τ 21 (zu (τ 21) 10 e)))) rfl ⟨⟨by omega, by omega⟩, ⟨by omega, by omega⟩⟩ (fun _ => ?_) (fun hh => absurd (by omega) hh)
    refine exq_k 1 (P := none) (g := (cod m8_doPass 31, [some (.inl 21), some (.inr z)], [.inl 21], (zr τ 21 (zu (τ 21) 10 e)))) rfl trivial ?_
    obtain ⟨w2, hw2, hd2⟩ := m_drifts (τ := (zr τ 21 (zu (τ 21) 10 e))) hI hR
    refine exq_c hd2 (is := cod m8_doPass 32) (L := [some (.inl 21), some (.inr z)]) (st := []) rfl rfl rfl ?_
    show Exq _ _ (cod m8_doPass 32, [some (.inl 21), some (.inr z)], [], (zr (zr τ 21 (zu (τ 21) 10 e)) 22 w2)) _ _
    refine exq_k 8 (P := some (0 ≤ 1 ∧ 1 < ((109 : Nat) : Int))) (g := (cod m8_doPass 40, [some (.inl 21), some (.inr z)], [.inr (w2 1), .inr 1, .inr 1, .inl 22], (zr (zr τ 21 (zu (τ 21) 10 e)) 22 w2))) rfl (by show 0 ≤ 1 ∧ 1 < ((109 : Nat) : Int); omega) ?_
    refine exq_k 2 (P := some ((0 ≤ 1 ∧ 1 < ((109 : Nat) : Int)) ∧ (0 = 1 → 0 ≤ (1 - (w2 1)) ∧ (1 - (w2 1)) < 65536))) (g := (cod m8_doPass 42, [some (.inl 21), some (.inr z)], [], (zr (zr (zr τ 21 (zu (τ 21) 10 e)) 22 w2) 22 (zu w2 1 (1 - (w2 1)))))) rfl (by show (0 ≤ 1 ∧ 1 < ((109 : Nat) : Int)) ∧ (0 = 1 → 0 ≤ (1 - (w2 1)) ∧ (1 - (w2 1)) < 65536); omega) ?_
    rw [zr_zr]
    refine exq_k 5 (P := some (0 ≤ 5 ∧ 5 < ((109 : Nat) : Int))) (g := (cod m8_doPass 47, [some (.inl 21), some (.inr z)], [.inr (w2 5), .inr 5, .inl 22], (zr (zr τ 21 (zu (τ 21) 10 e)) 22 (zu w2 1 (1 - (w2 1)))))) rfl (by show 0 ≤ 5 ∧ 5 < ((109 : Nat) : Int); omega) ?_
    refine exq_k 3 (P := some ((0 ≤ 5 ∧ 5 < ((109 : Nat) : Int)) ∧ (0 = 1 → 0 ≤ ((w2 5) + 1) ∧ ((w2 5) + 1) < 65536))) (g := (cod m8_doPass 50, [some (.inl 21), some (.inr z)], [], (zr (zr (zr τ 21 (zu (τ 21) 10 e)) 22 (zu w2 1 (1 - (w2 1)))) 22 (zu (zu w2 1 (1 - (w2 1))) 5 ((w2 5) + 1))))) rfl (by show (0 ≤ 5 ∧ 5 < ((109 : Nat) : Int)) ∧ (0 = 1 → 0 ≤ ((w2 5) + 1) ∧ ((w2 5) + 1) < 65536); omega) ?_
    rw [zr_zr]
    refine exq_k 4 (P := some (0 ≤ 1 ∧ 1 < ((109 : Nat) : Int))) (g := (cod m8_doPass 54, [some (.inl 21), some (.inr z)], [.inr (1 - (w2 1))], (zr (zr τ 21 (zu (τ 21) 10 e)) 22 (zu (zu w2 1 (1 - (w2 1))) 5 ((w2 5) + 1))))) rfl (by show 0 ≤ 1 ∧ 1 < ((109 : Nat) : Int); omega) ?_
    exact exq_r rfl trivial rfl (qd0g (by unfold obP; rw [hfs, if_pos hfi]) ⟨e, _, (show Rs (psT c) _ from by rw [hps]; have q1 := hw2.kchg hND; rw [← hw2.tu hND.1] at q1; exact q1.kadm (by rw [chg_ne (by omega)]; exact hND) (k := 5) (m := 1) (by omega)), by rw [rvp (V := cel (psT c) 108) (by rw [hps, adm_ne (by omega), cel_chg, if_pos rfl]; have := hw2.tu hND.1; omega)]; unfold dt; rw [zr_sw (by decide)]; rfl⟩)
  | succ j ih =>
    intro z e hz hj hfs
    have hsd := hS.sd (f := z) (by omega)
    have hm := @mvo_in c z
    have hfi := @fsm_in c (j + 1) z
    have hfq : fsm c (j + 1) z = if cel c (0 + z * 6 + 0) = cel c 108 ∧ 0 < mvo c z then z else fsm c j (z + 1) := rfl
    refine exq_k 5 (P := some (0 ≤ 0 ∧ 0 < ((109 : Nat) : Int))) (g := (cod m8_doPass 7, [some (.inl 21), some (.inr z)], [.inr ((τ 22) 0), .inr z], (zr τ 21 (zu (τ 21) 10 e)))) rfl (by show 0 ≤ 0 ∧ 0 < ((109 : Nat) : Int); omega) ?_
    refine exq_b (P := ((τ 22) 0) ≤ z) (ct := (cod m8_doPass 30, [some (.inl 21), some (.inr z)], [], (zr τ 21 (zu (τ 21) 10 e)))) (cf := (cod m8_doPass 8, [some (.inl 21), some (.inr z)], [], (zr τ 21 (zu (τ 21) 10 e)))) rfl ⟨⟨by omega, by omega⟩, ⟨by omega, by omega⟩⟩ (fun hh => absurd hh (by omega)) (fun _ => ?_)
    refine exq_k 3 (P := none) (g := (cod m8_doPass 11, [some (.inl 21), some (.inr z)], [.inr 0, .inr z, .inl 21], (zr τ 21 (zu (τ 21) 10 e)))) rfl trivial ?_
    refine exq_c (m_of (τ := (zr τ 21 (zu (τ 21) 10 e))) (f := z) (w := 0) hI hR (by omega) (by omega)) (is := cod m8_doPass 12) (L := [some (.inl 21), some (.inr z)]) (st := []) rfl rfl rfl ?_
    show Exq _ _ (cod m8_doPass 12, [some (.inl 21), some (.inr z)], [.inr (cel c (0 + z * 6 + 0))], (zr τ 21 (zu (τ 21) 10 e))) _ _
    refine exq_k 4 (P := some (0 ≤ 1 ∧ 1 < ((109 : Nat) : Int))) (g := (cod m8_doPass 16, [some (.inl 21), some (.inr z)], [.inr ((τ 22) 1), .inr (cel c (0 + z * 6 + 0))], (zr τ 21 (zu (τ 21) 10 e)))) rfl (by show 0 ≤ 1 ∧ 1 < ((109 : Nat) : Int); omega) ?_
    refine exq_b (P := ¬ (cel c (0 + z * 6 + 0)) = ((τ 22) 1)) (ct := (cod m8_doPass 28, [some (.inl 21), some (.inr z)], [], (zr τ 21 (zu (τ 21) 10 e)))) (cf := (cod m8_doPass 17, [some (.inl 21), some (.inr z)], [], (zr τ 21 (zu (τ 21) 10 e)))) rfl ⟨⟨by omega, by omega⟩, ⟨by omega, by omega⟩⟩ (fun h2 => ?_) (fun h2 => ?_)
    · first
      | (exfalso; omega)
      | (
          refine exq_k 2 (P := none) (g := (cod m8_doPass 2, [some (.inl 21), some (.inr (z + 1))], [], (zr τ 21 (zu (τ 21) 10 e)))) rfl trivial ?_
          exact ih _ _ (by omega) (by omega) (by rw [hfs, hfq, if_neg (by omega)]))
    · first
      | (exfalso; omega)
      | (
          refine exq_k 3 (P := none) (g := (cod m8_doPass 20, [some (.inl 21), some (.inr z)], [.inr 0, .inr z, .inl 21], (zr τ 21 (zu (τ 21) 10 e)))) rfl trivial ?_
          obtain ⟨e44, hc44⟩ := m_movesOf_0 (τ := (zr τ 21 (zu (τ 21) 10 e))) (f := z) hI hR (by omega)
          refine exq_c hc44 (is := cod m8_doPass 21) (L := [some (.inl 21), some (.inr z)]) (st := []) rfl rfl rfl ?_
          show Exq _ _ (cod m8_doPass 21, [some (.inl 21), some (.inr z)], [.inr (mvo c z)], (zr (zr τ 21 (zu (τ 21) 10 e)) 21 (zu (zu (τ 21) 10 e) 10 e44))) _ _
          rw [zr_zr, zu_zu]
          refine exq_b (P := (mvo c z) ≤ 0) (ct := (cod m8_doPass 28, [some (.inl 21), some (.inr z)], [], (zr τ 21 (zu (τ 21) 10 e44)))) (cf := (cod m8_doPass 22, [some (.inl 21), some (.inr z)], [], (zr τ 21 (zu (τ 21) 10 e44)))) rfl ⟨by omega, by omega⟩ (fun h3 => ?_) (fun h3 => ?_)
          · first
            | (exfalso; omega)
            | (
                refine exq_k 2 (P := none) (g := (cod m8_doPass 2, [some (.inl 21), some (.inr (z + 1))], [], (zr τ 21 (zu (τ 21) 10 e44)))) rfl trivial ?_
                exact ih _ _ (by omega) (by omega) (by rw [hfs, hfq, if_neg (by omega)]))
          · first
            | (exfalso; omega)
            | (
                refine exq_k 4 (P := none) (g := (cod m8_doPass 26, [some (.inl 21), some (.inr z)], [.inr z, .inr 5, .inr 1, .inl 21], (zr τ 21 (zu (τ 21) 10 e44)))) rfl trivial ?_
                refine exq_c (m_refuse (τ := (zr τ 21 (zu (τ 21) 10 e44))) (k := 1) (w := 5) (d := z)) (is := cod m8_doPass 27) (L := [some (.inl 21), some (.inr z)]) (st := []) rfl rfl rfl ?_
                show Exq _ _ (cod m8_doPass 27, [some (.inl 21), some (.inr z)], [.inr 0], rf (zr τ 21 (zu (τ 21) 10 e44)) 1 5 z 0 0) _ _
                exact exq_r rfl trivial rfl (qd3e (e := e44) (by unfold obP; rw [hfs, hfq, if_pos (show cel c (0 + z * 6 + 0) = cel c 108 ∧ 0 < mvo c z by omega), if_neg (by omega)]) rfl (by rw [hfs, hfq, if_pos (by omega)]) rfl rfl)))
theorem m_doPass {τ : SZ} {c : Nat → Int} {B : Int} (hI : Iv B c) (hR : Rs c (τ 22)) (hB : B + 1 ≤ 100000000) : RZq 6 m8_doPass [.inl 21] τ (Qdo τ (obP c) 1 2 1 5 (fsm c (cel c 107).toNat 0) 0 0 (cel (psT c) 108) (psT c)) := by
  have hS := hI.1
  have hC := hI.2.1
  have hN := hS.n
  refine Exq.call ?_ rfl rfl
  show Exq _ _ (cod m8_doPass 0, [some (.inl 21), none], [], τ) _ _
  refine exq_k 2 (P := none) (g := (cod m8_doPass 2, [some (.inl 21), some (.inr 0)], [], τ)) rfl trivial ?_
  have q := lp_doPass (τ := τ) hI hR hB (cel c 107).toNat 0 (τ 21 10) (by omega) (by omega) rfl
  rw [show zr τ 21 (zu (τ 21) 10 (τ 21 10)) = τ from dt_self] at q
  exact q
end MTR
