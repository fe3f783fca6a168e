/-! contracts of the second implementation: an order is done; how many tugs: printed by wip/whole/db32.py -/
section MDS
/-- how many tugs -/
def Tg (c : Nat → Int) : Prop := ∀ r, 0 ≤ r → r < 2 → tgs c r ≤ 4
theorem tgs_of {c d : Nat → Int} {r : Int} (h : ∀ p, 0 ≤ p → p < 12 → (cel d (48 + r * 12 + p) = 8 ↔ cel c (48 + r * 12 + p) = 8)) : tgs d r = tgs c r := by
  refine sm_cong (fun k hk => b2_iff ?_)
  unfold whz
  rw [if_pos (by omega), if_pos (by omega)]
  exact h _ (by omega) (by omega)
theorem Tg.of {c d : Nat → Int} (h : Tg c) (e : ∀ r p, 0 ≤ r → r < 2 → 0 ≤ p → p < 12 → (cel d (48 + r * 12 + p) = 8 ↔ cel c (48 + r * 12 + p) = 8)) : Tg d :=
  fun r h0 h1 => by rw [tgs_of (fun p p0 p1 => e r p h0 h1 p0 p1)]; exact h r h0 h1
theorem Tg.of2 {c d : Nat → Int} (h : Tg c) (e : ∀ y, 48 ≤ y → y < 72 → cel d y = cel c y) : Tg d := h.of (fun r p h0 h1 p0 p1 => by rw [e _ (by omega) (by omega)])
theorem sm_upd {f g : Nat → Int} {i : Nat} : ∀ n : Nat, i < n → (∀ k, k < n → k ≠ i → g k = f k) → sm g n = sm f n - f i + g i
  | 0, h, _ => absurd h (by omega)
  | n + 1, h, e => by
    show sm g n + g n = sm f n + f n - f i + g i
    by_cases q : i = n
    · subst q
      rw [sm_cong (f := g) (g := f) (fun k hk => e k (by omega) (by omega))]
      omega
    · have ih := sm_upd n (by omega) (fun k hk hne => e k (by omega) hne)
      rw [ih, e n (by omega) (fun z => q z.symm)]
      omega
theorem whz_in {c : Nat → Int} {r p : Int} (h : 0 ≤ p ∧ p < 12) : whz c r p = cel c (48 + r * 12 + p) := if_pos h
theorem tgs_swh {c : Nat → Int} {r p v : Int} (hr : 0 ≤ r ∧ r < 2) (hp : 0 ≤ p ∧ p < 12) : tgs (swh c r p v) r = tgs c r - b2 (cel c (48 + r * 12 + p) = 8) + b2 (v = 8) := by
  have q := sm_upd (f := fun k => b2 (whz c r (k : Int) = 8)) (g := fun k => b2 (whz (swh c r p v) r (k : Int) = 8)) (i := p.toNat) 12 (by omega) (fun k hk hne => b2_iff (by rw [whz_in (by omega), whz_in (by omega), cel_swh' hr, if_neg (by omega)]))
  have e : ((p.toNat : Nat) : Int) = p := Int.toNat_of_nonneg hp.1
  have e1 : whz c r ((p.toNat : Nat) : Int) = cel c (48 + r * 12 + p) := by rw [e, whz_in hp]
  have e2 : whz (swh c r p v) r ((p.toNat : Nat) : Int) = v := by rw [e, whz_in hp, cel_swh' hr, if_pos ⟨rfl, hp⟩]
  refine q.trans ?_
  show tgs c r - b2 (whz c r ((p.toNat : Nat) : Int) = 8) + b2 (whz (swh c r p v) r ((p.toNat : Nat) : Int) = 8) = _
  rw [e1, e2]
theorem tgs_ne {c : Nat → Int} {r r' p v : Int} (hr : 0 ≤ r ∧ r < 2) (hr' : 0 ≤ r' ∧ r' < 2) (h : r' ≠ r) : tgs (swh c r p v) r' = tgs c r' :=
  tgs_of (fun q q0 q1 => by rw [cel_swh' hr, if_neg (by omega)])
theorem Tg.tug {c : Nat → Int} (h : Tg c) {r p : Int} (ho : obT c r p = 0) : Tg (swh c r p 8) := by
  unfold obT at ho
  split at ho
  · omega
  next q1 =>
    split at ho
    · omega
    next q2 =>
      have r1 := Decidable.not_not.mp q1
      intro r' h0 h1
      by_cases e : r' = r
      · subst e
        rw [tgs_swh r1.1 r1.2]
        have a := @b2_01 (cel c (48 + r' * 12 + p) = 8) _
        have b := @b2_01 ((8 : Int) = 8) _
        have q2' : ¬ 4 ≤ tgs c r' := q2
        omega
      · rw [tgs_ne r1.1 ⟨h0, h1⟩ e]; exact h r' h0 h1
theorem Tg.adf {B : Int} {c : Nat → Int} (h : Tg c) (hS : Sh B c) {x p q : Int} (ho : obF c x p q = 0) : Tg (adf c x p q) := by
  have hn := hS.n
  unfold obF at ho
  split at ho
  · omega
  next q1 =>
    split at ho
    · omega
    next q2 =>
      split at ho
      · omega
      next q3 =>
        split at ho
        · omega
        next q4 =>
          have r1 := Decidable.not_not.mp q1
          have r3 := Decidable.not_not.mp q3
          have r4 := Decidable.not_not.mp q4
          refine h.of (fun r z h0 h1 z0 z1 => ?_)
          rw [cel_adf ⟨hn.1, by omega⟩ r1.2.1 r1.2.2, if_neg (by omega), if_neg (by omega)]
          by_cases y3 : 48 + r * 12 + z = 60 + q
          · rw [if_pos y3, y3, show (60 : Int) + q = 48 + 1 * 12 + q from by omega, r4.2]; omega
          · rw [if_neg y3]
            by_cases y4 : 48 + r * 12 + z = 48 + p
            · rw [if_pos y4, y4, show (48 : Int) + p = 48 + 0 * 12 + p from by omega, r3.2]; omega
            · rw [if_neg y4, if_neg (by omega), if_neg (by omega), if_neg (by omega), if_neg (by omega)]
theorem Tg.shf {B : Int} {c : Nat → Int} (h : Tg c) (hI : Iv B c) {f r p : Int} (hf : 0 ≤ f ∧ f < cel c 107) (hr : 0 ≤ r ∧ r < 2) (hp : 0 ≤ p ∧ p < 12) (hfr : cel c (48 + r * 12 + p) = -1) : Tg (shf c f r p) := by
  have hn := hI.1.n
  have hat := hI.2.1.at hr hf
  refine h.of (fun r' z h0 h1 z0 z1 => ?_)
  rw [cel_shf (by omega) hr hp, if_neg (by omega)]
  by_cases y1 : 48 + r * 12 + p = 48 + r' * 12 + z
  · rw [if_pos y1, ← y1, hfr]; omega
  · rw [if_neg y1]
    by_cases y2 : 48 + r * 12 + cel c (0 + f * 6 + (1 + r)) = 48 + r' * 12 + z ∧ 0 ≤ cel c (0 + f * 6 + (1 + r)) ∧ cel c (0 + f * 6 + (1 + r)) < 12
    · rw [if_pos y2, ← y2.1, hat]; omega
    · rw [if_neg y2]
theorem Tg.rmv {B : Int} {c : Nat → Int} (h : Tg c) (hS : Sh B c) (hC : Co c) {g : Int} (hg : 0 ≤ g ∧ g < cel c 107) : Tg (rmv c g) := by
  have hn := hS.n
  obtain ⟨_, h2, _, _⟩ := cel_rmv hS hC hg
  refine h.of (fun r z h0 h1 z0 z1 => ?_)
  rw [h2 _ (by omega) (by omega)]
  split
  · omega
  · split <;> omega
theorem Tg.mkm {B : Int} {c : Nat → Int} (h : Tg c) (hI : Iv B c) {f r s : Int} (hf : 0 ≤ f ∧ f < cel c 107) (hr : 0 ≤ r ∧ r < 2) (hs : s = 1 ∨ s = -1) (ho : oco c f r s = 1 ∨ oco c f r s = 2 ∨ oco c f r s = 3) (hB : B + 9 ≤ 100000000) : Tg (mkm c f r s) := by
  have hn := hI.1.n
  have hf8 : 0 ≤ f ∧ f < 8 := by omega
  have hk := oco_k ho
  have hg := gol_ok ho
  have hp := hI.1.pl hf8 hr
  obtain ⟨i1, i2, i3, n1, n3, hg3⟩ := rw3_ok hI hf hr ho (by omega)
  have hwh := rw3_wh hI hf hr hs ho
  have t1 := h.shf hI hf hr hg.1 hg.2
  have t3 : Tg (rw3 c f r s) := t1.of2 (fun y h0 h1 => by unfold rw3; rw [adm_ne (by omega), adm_ne (by omega)])
  have e5 : ∀ X : Nat → Int, ∀ B' : Int, Sh B' X → ∀ m, 0 ≤ m → m < 8 → Tg X → Tg (drf (crw X m r)) := fun X B' hX m m0 m1 hT => hT.of2 (fun y h0 h1 => by
    have hq := hX.pl (f := m) ⟨m0, m1⟩ hr
    rw [drf_hi (by omega), cel_crw hX ⟨m0, m1⟩ hr]
    split
    · rw [if_neg (by omega), if_neg (by omega), if_neg (by omega)]
    · rfl)
  have echg : ∀ X : Nat → Int, Tg X → Tg (chg X) := fun X hT => hT.of2 (fun y h0 h1 => chg_ne (by omega))
  have t5 : Tg (mk5 c f r s) := by rw [← rw3_mk hI hf hr ho (by omega)]; exact e5 _ _ i3.1 f hf8.1 hf8.2 t3
  have hov : ovr c f r s = whz c r (cel c (0 + f * 6 + (1 + r)) + s) := rfl
  unfold Jvm.Pilot.CFerryDraughtsLaw_law_r9972_b515da.mkm
  split
  next q =>
    refine echg _ (fun r' h0 h1 => ?_)
    have o2 : ¬ oco c f r s = 1 := by omega
    have em := rw3_mk hI hf hr ho (by omega)
    have c5 : ∀ y, 48 ≤ y → y < 72 → cel (mk5 c f r s) y = cel (rw3 c f r s) y := fun y y0 y1 => by
      have hq := i3.1.pl hf8 hr
      rw [← em, drf_hi (by omega), cel_crw i3.1 hf8 hr]
      split
      · rw [if_neg (by omega), if_neg (by omega), if_neg (by omega)]
      · rfl
    by_cases e : r' = r
    · subst e
      unfold sht
      rw [tgs_swh hr (by omega), tgs_swh hr hk.1, cel_swh' hr, if_neg (by omega), c5 _ (by omega) (by omega), c5 _ (by omega) (by omega), hwh.1, hwh.2 o2, ← hov, q]
      rw [b2_t (show (8 : Int) = 8 from rfl), b2_f (show ¬ (-1 : Int) = 8 by decide)]
      have := t5 r' h0 h1
      omega
    · unfold sht
      rw [tgs_ne hr ⟨h0, h1⟩ e, tgs_ne hr ⟨h0, h1⟩ e]
      exact t5 r' h0 h1
  next q =>
    split
    next q2 => exact echg _ t5
    next q2 =>
      have o3 : oco c f r s = 3 := by omega
      have t7 : Tg (mk7 (mk5 c f r s) f (ovr c f r s)) := by
        have hv := hI.2.1.ov (p := cel c (0 + f * 6 + (1 + r)) + s) hr
        rw [mk7_rw hI hf hr hs o3 (by omega)]
        obtain ⟨q1, q2', q3, q4, q5⟩ := i3.rx (f := f) (w := whz c r (cel c (0 + f * 6 + (1 + r)) + s)) (by omega) (by omega) (by omega)
        have hsd := q2'.sd (f := f) hf8
        have nx := n3
        have tx := t3.of2 (d := (adm (adm (adm (rw3 c f r s) (0 + f * 6 + 4) 1) 104 1) (98 + (2 + cel (adm (adm (rw3 c f r s) (0 + f * 6 + 4) 1) 104 1) (0 + f * 6 + 0))) (1 + cel (rw3 c f r s) (0 + whz c r (cel c (0 + f * 6 + (1 + r)) + s) * 6 + 3)))) (fun y h0 h1 => by rw [adm_ne (by omega), adm_ne (by omega), adm_ne (by omega)])
        have ty := e5 _ _ q3 f hf8.1 hf8.2 tx
        refine ty.rmv (q3.kcrw hf8 hr (by omega)).kdrf ((q4.kcrw q3 hf8 hr).kdrf (q3.kcrw hf8 hr (by omega))) ?_
        rw [drf_hi (by omega), crw_107 hf8 hr, adm_ne (by omega), adm_ne (by omega), adm_ne (by omega)]
        omega
      split
      · exact t7
      · exact echg _ t7
theorem Tg.cao {B : Int} {c : Nat → Int} (h : Tg c) (hI : Iv B c) {w x y z : Int} (ho : obW c w x y z = 0) (hB : B + 9 ≤ 100000000) : Tg (cao c w x y z) := by
  unfold Jvm.Pilot.CFerryDraughtsLaw_law_r9972_b515da.cao
  unfold obW at ho
  by_cases w0 : w = 0
  · rw [if_pos w0] at ho ⊢; exact h.adf hI.1 ho
  · rw [if_neg w0] at ho ⊢
    by_cases w1 : w = 1
    · rw [if_pos w1] at ho ⊢; exact h.tug ho
    · rw [if_neg w1] at ho ⊢
      by_cases w2 : w = 2
      · rw [if_pos w2] at ho ⊢
        refine h.of2 (fun q q0 q1 => ?_)
        unfold obL at ho
        split at ho
        · omega
        next k1 => exact cel_sus (by omega) (Decidable.not_not.mp k1).1
      · rw [if_neg w2] at ho ⊢
        by_cases w3 : w = 3
        · rw [if_pos w3] at ho ⊢
          refine h.of2 (fun q q0 q1 => ?_)
          unfold obG at ho
          split at ho
          · omega
          next k1 =>
            have k2 := Decidable.not_not.mp k1
            rw [cel_ne (by omega), cel_ne (by omega)]
        · rw [if_neg w3] at ho ⊢
          by_cases w4 : w = 4
          · rw [if_pos w4] at ho ⊢
            obtain ⟨a1, a2, a3⟩ := obM_ok ho
            exact h.mkm hI a1 a2 (by split; exact Or.inl rfl; exact Or.inr rfl) a3 hB
          · rw [if_neg w4]
            exact h.of2 (fun q q0 q1 => by unfold psT; rw [chg_ne (by omega), drf_hi (by omega), adm_ne (by omega)])
/-! an order is done -/
def Qds (τ : SZ) (ob a1 a2 a3 w d w2 d2 V : Int) (c' : Nat → Int) (q : RSZ) : Prop := ∃ v τ1, q = .inl (none, τ1) ∧ Qdo τ ob a1 a2 a3 w d w2 d2 V c' (.inl (some (.inr v), τ1))
theorem qdo_nx {τ : SZ} {ob a1 a2 a3 w d w2 d2 V : Int} {c' : Nat → Int} (E : String) (τ1 : SZ) : ¬ Qdo τ ob a1 a2 a3 w d w2 d2 V c' (.inr (E, τ1)) := by
  rintro ⟨h, e, h1, h2, h3, h4⟩
  rcases h with h | h | h | h
  · obtain ⟨s', _, q⟩ := h4 h; cases q
  · cases h1 h
  · cases h2 h
  · cases h3 h
theorem qdo_v {τ : SZ} {ob a1 a2 a3 w d w2 d2 V : Int} {c' : Nat → Int} {v : Option VZ} {τ1 : SZ} (hq : Qdo τ ob a1 a2 a3 w d w2 d2 V c' (.inl (v, τ1))) : ∃ x, v = some (.inr x) := by
  obtain ⟨h, e, h1, h2, h3, h4⟩ := hq
  rcases h with h | h | h | h
  · obtain ⟨s', _, q⟩ := h4 h; cases q; exact ⟨_, rfl⟩
  · cases h1 h; exact ⟨_, rfl⟩
  · cases h2 h; exact ⟨_, rfl⟩
  · cases h3 h; exact ⟨_, rfl⟩
theorem m_does_ferry {k x y z : Int} {τ : SZ} {c : Nat → Int} {B : Int} (hI : Iv B c) (hR : Rs c (τ 22)) (hB : B + 9 ≤ 100000000) (hk : 0 ≤ k ∧ k < 60) (hc : τ 30 (4 * k).toNat = 102) (hx : Rng x) (hy : Rng y) (hz : Rng z) (ex : τ 30 (4 * k + 1).toNat = x) (ey : τ 30 (4 * k + 2).toNat = y) (ez : τ 30 (4 * k + 3).toNat = z) : RZq 10 m8_does [.inl 21, .inr k] τ (Qds τ (obF c x y z) 1 1 2 (rwF c) (rdF c y z) (0) (0) (cel c 107) (adf c x y z)) := by
  refine Exq.call ?_ rfl rfl
  show Exq _ _ (cod m8_does 0, [some (.inl 21), some (.inr k), none, none, none, none], [], τ) _ _
  refine exq_k 8 (P := some (0 ≤ ((4 * k) + 1) ∧ ((4 * k) + 1) < ((240 : Nat) : Int))) (g := (cod m8_does 8, [some (.inl 21), some (.inr k), none, none, none, none], [.inr ((τ 30) ((4 * k) + 1).toNat)], τ)) rfl (by show 0 ≤ ((4 * k) + 1) ∧ ((4 * k) + 1) < ((240 : Nat) : Int); omega) ?_
  refine exq_k 9 (P := some (0 ≤ ((4 * k) + 2) ∧ ((4 * k) + 2) < ((240 : Nat) : Int))) (g := (cod m8_does 17, [some (.inl 21), some (.inr k), some (.inr ((τ 30) ((4 * k) + 1).toNat)), none, none, none], [.inr ((τ 30) ((4 * k) + 2).toNat)], τ)) rfl (by show 0 ≤ ((4 * k) + 2) ∧ ((4 * k) + 2) < ((240 : Nat) : Int); omega) ?_
  refine exq_k 9 (P := some (0 ≤ ((4 * k) + 3) ∧ ((4 * k) + 3) < ((240 : Nat) : Int))) (g := (cod m8_does 26, [some (.inl 21), some (.inr k), some (.inr ((τ 30) ((4 * k) + 1).toNat)), some (.inr ((τ 30) ((4 * k) + 2).toNat)), none, none], [.inr ((τ 30) ((4 * k) + 3).toNat)], τ)) rfl (by show 0 ≤ ((4 * k) + 3) ∧ ((4 * k) + 3) < ((240 : Nat) : Int); omega) ?_
  refine exq_k 7 (P := some (0 ≤ (4 * k) ∧ (4 * k) < ((240 : Nat) : Int))) (g := (cod m8_does 33, [some (.inl 21), some (.inr k), some (.inr ((τ 30) ((4 * k) + 1).toNat)), some (.inr ((τ 30) ((4 * k) + 2).toNat)), some (.inr ((τ 30) ((4 * k) + 3).toNat)), none], [.inr ((τ 30) (4 * k).toNat)], τ)) rfl (by show 0 ≤ (4 * k) ∧ (4 * k) < ((240 : Nat) : Int); omega) ?_
  rw [hc, ex, ey, ez]
  refine exq_k 1 (P := some (Rng 102)) (g := (cod m8_does 34, [some (.inl 21), some (.inr k), some (.inr x), some (.inr y), some (.inr z), none], [], τ)) rfl ⟨by decide, by decide⟩ ?_
  refine exq_k 4 (P := none) (g := (cod m8_does 38, [some (.inl 21), some (.inr k), some (.inr x), some (.inr y), some (.inr z), none], [.inr z, .inr y, .inr x, .inl 21], τ)) rfl trivial ?_
  refine exq_cq (m_doFerry (τ := τ) (x := x) (p := y) (q := z) hI hR hx hy hz) (is := cod m8_does 39) (L := [some (.inl 21), some (.inr k), some (.inr x), some (.inr y), some (.inr z), none]) (st := []) rfl rfl rfl (fun v τ1 hq => ?_) (fun E τ1 hq => absurd hq (qdo_nx _ _))
  obtain ⟨x1, rfl⟩ := qdo_v hq
  refine exq_k 2 (P := none) (g := (cod m8_does 76, [some (.inl 21), some (.inr k), some (.inr x), some (.inr y), some (.inr z), some (.inr x1)], [], τ1)) rfl trivial ?_
  exact exq_r rfl rfl rfl (⟨x1, τ1, rfl, hq⟩)
theorem m_does_fog {k x y z : Int} {τ : SZ} {c : Nat → Int} {B : Int} (hI : Iv B c) (hR : Rs c (τ 22)) (hB : B + 9 ≤ 100000000) (hk : 0 ≤ k ∧ k < 60) (hc : τ 30 (4 * k).toNat = 111) (hx : Rng x) (hy : Rng y) (hz : Rng z) (ex : τ 30 (4 * k + 1).toNat = x) (ey : τ 30 (4 * k + 2).toNat = y) (ez : τ 30 (4 * k + 3).toNat = z) : RZq 10 m8_does [.inl 21, .inr k] τ (Qds τ (obG c x y z) 1 2 3 (3) (z) (0) (0) (cel c (98 + x)) (sce (sce c (96 + x) y) (98 + x) z)) := by
  refine Exq.call ?_ rfl rfl
  show Exq _ _ (cod m8_does 0, [some (.inl 21), some (.inr k), none, none, none, none], [], τ) _ _
  refine exq_k 8 (P := some (0 ≤ ((4 * k) + 1) ∧ ((4 * k) + 1) < ((240 : Nat) : Int))) (g := (cod m8_does 8, [some (.inl 21), some (.inr k), none, none, none, none], [.inr ((τ 30) ((4 * k) + 1).toNat)], τ)) rfl (by show 0 ≤ ((4 * k) + 1) ∧ ((4 * k) + 1) < ((240 : Nat) : Int); omega) ?_
  refine exq_k 9 (P := some (0 ≤ ((4 * k) + 2) ∧ ((4 * k) + 2) < ((240 : Nat) : Int))) (g := (cod m8_does 17, [some (.inl 21), some (.inr k), some (.inr ((τ 30) ((4 * k) + 1).toNat)), none, none, none], [.inr ((τ 30) ((4 * k) + 2).toNat)], τ)) rfl (by show 0 ≤ ((4 * k) + 2) ∧ ((4 * k) + 2) < ((240 : Nat) : Int); omega) ?_
  refine exq_k 9 (P := some (0 ≤ ((4 * k) + 3) ∧ ((4 * k) + 3) < ((240 : Nat) : Int))) (g := (cod m8_does 26, [some (.inl 21), some (.inr k), some (.inr ((τ 30) ((4 * k) + 1).toNat)), some (.inr ((τ 30) ((4 * k) + 2).toNat)), none, none], [.inr ((τ 30) ((4 * k) + 3).toNat)], τ)) rfl (by show 0 ≤ ((4 * k) + 3) ∧ ((4 * k) + 3) < ((240 : Nat) : Int); omega) ?_
  refine exq_k 7 (P := some (0 ≤ (4 * k) ∧ (4 * k) < ((240 : Nat) : Int))) (g := (cod m8_does 33, [some (.inl 21), some (.inr k), some (.inr ((τ 30) ((4 * k) + 1).toNat)), some (.inr ((τ 30) ((4 * k) + 2).toNat)), some (.inr ((τ 30) ((4 * k) + 3).toNat)), none], [.inr ((τ 30) (4 * k).toNat)], τ)) rfl (by show 0 ≤ (4 * k) ∧ (4 * k) < ((240 : Nat) : Int); omega) ?_
  rw [hc, ex, ey, ez]
  refine exq_k 1 (P := some (Rng 111)) (g := (cod m8_does 41, [some (.inl 21), some (.inr k), some (.inr x), some (.inr y), some (.inr z), none], [], τ)) rfl ⟨by decide, by decide⟩ ?_
  refine exq_k 4 (P := none) (g := (cod m8_does 45, [some (.inl 21), some (.inr k), some (.inr x), some (.inr y), some (.inr z), none], [.inr z, .inr y, .inr x, .inl 21], τ)) rfl trivial ?_
  refine exq_cq (m_doFog (τ := τ) (r := x) (p := y) (v := z) hI hR hx hy hz) (is := cod m8_does 46) (L := [some (.inl 21), some (.inr k), some (.inr x), some (.inr y), some (.inr z), none]) (st := []) rfl rfl rfl (fun v τ1 hq => ?_) (fun E τ1 hq => absurd hq (qdo_nx _ _))
  obtain ⟨x1, rfl⟩ := qdo_v hq
  refine exq_k 2 (P := none) (g := (cod m8_does 76, [some (.inl 21), some (.inr k), some (.inr x), some (.inr y), some (.inr z), some (.inr x1)], [], τ1)) rfl trivial ?_
  exact exq_r rfl rfl rfl (⟨x1, τ1, rfl, hq⟩)
theorem m_does_tug {k x y : Int} {τ : SZ} {c : Nat → Int} {B : Int} (hI : Iv B c) (hR : Rs c (τ 22)) (hB : B + 9 ≤ 100000000) (hk : 0 ≤ k ∧ k < 60) (hc : τ 30 (4 * k).toNat = 116) (hx : Rng x) (hy : Rng y) (ex : τ 30 (4 * k + 1).toNat = x) (ey : τ 30 (4 * k + 2).toNat = y) (hG : ∀ r, 0 ≤ r → r < 2 → tgs c r ≤ 4) : RZq 10 m8_does [.inl 21, .inr k] τ (Qds τ (obT c x y) 1 1 2 (rwT c x) (rdT c x y) (0) (0) (tgs (swh c x y 8) x) (swh c x y 8)) := by
  refine Exq.call ?_ rfl rfl
  show Exq _ _ (cod m8_does 0, [some (.inl 21), some (.inr k), none, none, none, none], [], τ) _ _
  refine exq_k 8 (P := some (0 ≤ ((4 * k) + 1) ∧ ((4 * k) + 1) < ((240 : Nat) : Int))) (g := (cod m8_does 8, [some (.inl 21), some (.inr k), none, none, none, none], [.inr ((τ 30) ((4 * k) + 1).toNat)], τ)) rfl (by show 0 ≤ ((4 * k) + 1) ∧ ((4 * k) + 1) < ((240 : Nat) : Int); omega) ?_
  refine exq_k 9 (P := some (0 ≤ ((4 * k) + 2) ∧ ((4 * k) + 2) < ((240 : Nat) : Int))) (g := (cod m8_does 17, [some (.inl 21), some (.inr k), some (.inr ((τ 30) ((4 * k) + 1).toNat)), none, none, none], [.inr ((τ 30) ((4 * k) + 2).toNat)], τ)) rfl (by show 0 ≤ ((4 * k) + 2) ∧ ((4 * k) + 2) < ((240 : Nat) : Int); omega) ?_
  refine exq_k 9 (P := some (0 ≤ ((4 * k) + 3) ∧ ((4 * k) + 3) < ((240 : Nat) : Int))) (g := (cod m8_does 26, [some (.inl 21), some (.inr k), some (.inr ((τ 30) ((4 * k) + 1).toNat)), some (.inr ((τ 30) ((4 * k) + 2).toNat)), none, none], [.inr ((τ 30) ((4 * k) + 3).toNat)], τ)) rfl (by show 0 ≤ ((4 * k) + 3) ∧ ((4 * k) + 3) < ((240 : Nat) : Int); omega) ?_
  refine exq_k 7 (P := some (0 ≤ (4 * k) ∧ (4 * k) < ((240 : Nat) : Int))) (g := (cod m8_does 33, [some (.inl 21), some (.inr k), some (.inr ((τ 30) ((4 * k) + 1).toNat)), some (.inr ((τ 30) ((4 * k) + 2).toNat)), some (.inr ((τ 30) ((4 * k) + 3).toNat)), none], [.inr ((τ 30) (4 * k).toNat)], τ)) rfl (by show 0 ≤ (4 * k) ∧ (4 * k) < ((240 : Nat) : Int); omega) ?_
  rw [hc, ex, ey]
  refine exq_k 1 (P := some (Rng 116)) (g := (cod m8_does 48, [some (.inl 21), some (.inr k), some (.inr x), some (.inr y), some (.inr ((τ 30) ((4 * k) + 3).toNat)), none], [], τ)) rfl ⟨by decide, by decide⟩ ?_
  refine exq_k 3 (P := none) (g := (cod m8_does 51, [some (.inl 21), some (.inr k), some (.inr x), some (.inr y), some (.inr ((τ 30) ((4 * k) + 3).toNat)), none], [.inr y, .inr x, .inl 21], τ)) rfl trivial ?_
  refine exq_cq (m_doTug (τ := τ) (r := x) (p := y) hI hR hG hx hy) (is := cod m8_does 52) (L := [some (.inl 21), some (.inr k), some (.inr x), some (.inr y), some (.inr ((τ 30) ((4 * k) + 3).toNat)), none]) (st := []) rfl rfl rfl (fun v τ1 hq => ?_) (fun E τ1 hq => absurd hq (qdo_nx _ _))
  obtain ⟨x1, rfl⟩ := qdo_v hq
  refine exq_k 2 (P := none) (g := (cod m8_does 76, [some (.inl 21), some (.inr k), some (.inr x), some (.inr y), some (.inr ((τ 30) ((4 * k) + 3).toNat)), some (.inr x1)], [], τ1)) rfl trivial ?_
  exact exq_r rfl rfl rfl (⟨x1, τ1, rfl, hq⟩)
theorem m_does_lock {k x y z : Int} {τ : SZ} {c : Nat → Int} {B : Int} (hI : Iv B c) (hR : Rs c (τ 22)) (hB : B + 9 ≤ 100000000) (hk : 0 ≤ k ∧ k < 60) (hc : τ 30 (4 * k).toNat = 108) (hx : Rng x) (hy : Rng y) (hz : Rng z) (ex : τ 30 (4 * k + 1).toNat = x) (ey : τ 30 (4 * k + 2).toNat = y) (ez : τ 30 (4 * k + 3).toNat = z) : RZq 10 m8_does [.inl 21, .inr k] τ (Qds τ (obL c x y z) 1 2 3 (3) (z) (0) (0) (usz c x y) (sus c x y z)) := by
  refine Exq.call ?_ rfl rfl
  show Exq _ _ (cod m8_does 0, [some (.inl 21), some (.inr k), none, none, none, none], [], τ) _ _
  refine exq_k 8 (P := some (0 ≤ ((4 * k) + 1) ∧ ((4 * k) + 1) < ((240 : Nat) : Int))) (g := (cod m8_does 8, [some (.inl 21), some (.inr k), none, none, none, none], [.inr ((τ 30) ((4 * k) + 1).toNat)], τ)) rfl (by show 0 ≤ ((4 * k) + 1) ∧ ((4 * k) + 1) < ((240 : Nat) : Int); omega) ?_
  refine exq_k 9 (P := some (0 ≤ ((4 * k) + 2) ∧ ((4 * k) + 2) < ((240 : Nat) : Int))) (g := (cod m8_does 17, [some (.inl 21), some (.inr k), some (.inr ((τ 30) ((4 * k) + 1).toNat)), none, none, none], [.inr ((τ 30) ((4 * k) + 2).toNat)], τ)) rfl (by show 0 ≤ ((4 * k) + 2) ∧ ((4 * k) + 2) < ((240 : Nat) : Int); omega) ?_
  refine exq_k 9 (P := some (0 ≤ ((4 * k) + 3) ∧ ((4 * k) + 3) < ((240 : Nat) : Int))) (g := (cod m8_does 26, [some (.inl 21), some (.inr k), some (.inr ((τ 30) ((4 * k) + 1).toNat)), some (.inr ((τ 30) ((4 * k) + 2).toNat)), none, none], [.inr ((τ 30) ((4 * k) + 3).toNat)], τ)) rfl (by show 0 ≤ ((4 * k) + 3) ∧ ((4 * k) + 3) < ((240 : Nat) : Int); omega) ?_
  refine exq_k 7 (P := some (0 ≤ (4 * k) ∧ (4 * k) < ((240 : Nat) : Int))) (g := (cod m8_does 33, [some (.inl 21), some (.inr k), some (.inr ((τ 30) ((4 * k) + 1).toNat)), some (.inr ((τ 30) ((4 * k) + 2).toNat)), some (.inr ((τ 30) ((4 * k) + 3).toNat)), none], [.inr ((τ 30) (4 * k).toNat)], τ)) rfl (by show 0 ≤ (4 * k) ∧ (4 * k) < ((240 : Nat) : Int); omega) ?_
  rw [hc, ex, ey, ez]
  refine exq_k 1 (P := some (Rng 108)) (g := (cod m8_does 54, [some (.inl 21), some (.inr k), some (.inr x), some (.inr y), some (.inr z), none], [], τ)) rfl ⟨by decide, by decide⟩ ?_
  refine exq_k 4 (P := none) (g := (cod m8_does 58, [some (.inl 21), some (.inr k), some (.inr x), some (.inr y), some (.inr z), none], [.inr z, .inr y, .inr x, .inl 21], τ)) rfl trivial ?_
  refine exq_cq (m_doLock (τ := τ) (r := x) (p := y) (v := z) hI hR hx hy hz) (is := cod m8_does 59) (L := [some (.inl 21), some (.inr k), some (.inr x), some (.inr y), some (.inr z), none]) (st := []) rfl rfl rfl (fun v τ1 hq => ?_) (fun E τ1 hq => absurd hq (qdo_nx _ _))
  obtain ⟨x1, rfl⟩ := qdo_v hq
  refine exq_k 2 (P := none) (g := (cod m8_does 76, [some (.inl 21), some (.inr k), some (.inr x), some (.inr y), some (.inr z), some (.inr x1)], [], τ1)) rfl trivial ?_
  exact exq_r rfl rfl rfl (⟨x1, τ1, rfl, hq⟩)
theorem m_does_move_0 {k x y : Int} {τ : SZ} {c : Nat → Int} {B : Int} (hI : Iv B c) (hR : Rs c (τ 22)) (hB : B + 9 ≤ 100000000) (hk : 0 ≤ k ∧ k < 60) (hc : τ 30 (4 * k).toNat = 109) (hx : Rng x) (hy : Rng y) (ex : τ 30 (4 * k + 1).toNat = x) (ey : τ 30 (4 * k + 2).toNat = y) (ez : ¬ τ 30 (4 * k + 3).toNat = 1) (hz3 : Rng (τ 30 (4 * k + 3).toNat)) : RZq 10 m8_does [.inl 21, .inr k] τ (Qds τ (obM c x y (-1)) 1 2 2 (4) (x) (ocn c x y (-1)) (dtl c (ocn c x y (-1)) x y (-1)) (mkp c x y (-1)) (mkm c x y (-1))) := by
  obtain ⟨hz31, hz32⟩ := hz3
  refine Exq.call ?_ rfl rfl
  show Exq _ _ (cod m8_does 0, [some (.inl 21), some (.inr k), none, none, none, none], [], τ) _ _
  refine exq_k 8 (P := some (0 ≤ ((4 * k) + 1) ∧ ((4 * k) + 1) < ((240 : Nat) : Int))) (g := (cod m8_does 8, [some (.inl 21), some (.inr k), none, none, none, none], [.inr ((τ 30) ((4 * k) + 1).toNat)], τ)) rfl (by show 0 ≤ ((4 * k) + 1) ∧ ((4 * k) + 1) < ((240 : Nat) : Int); omega) ?_
  refine exq_k 9 (P := some (0 ≤ ((4 * k) + 2) ∧ ((4 * k) + 2) < ((240 : Nat) : Int))) (g := (cod m8_does 17, [some (.inl 21), some (.inr k), some (.inr ((τ 30) ((4 * k) + 1).toNat)), none, none, none], [.inr ((τ 30) ((4 * k) + 2).toNat)], τ)) rfl (by show 0 ≤ ((4 * k) + 2) ∧ ((4 * k) + 2) < ((240 : Nat) : Int); omega) ?_
  refine exq_k 9 (P := some (0 ≤ ((4 * k) + 3) ∧ ((4 * k) + 3) < ((240 : Nat) : Int))) (g := (cod m8_does 26, [some (.inl 21), some (.inr k), some (.inr ((τ 30) ((4 * k) + 1).toNat)), some (.inr ((τ 30) ((4 * k) + 2).toNat)), none, none], [.inr ((τ 30) ((4 * k) + 3).toNat)], τ)) rfl (by show 0 ≤ ((4 * k) + 3) ∧ ((4 * k) + 3) < ((240 : Nat) : Int); omega) ?_
  refine exq_k 7 (P := some (0 ≤ (4 * k) ∧ (4 * k) < ((240 : Nat) : Int))) (g := (cod m8_does 33, [some (.inl 21), some (.inr k), some (.inr ((τ 30) ((4 * k) + 1).toNat)), some (.inr ((τ 30) ((4 * k) + 2).toNat)), some (.inr ((τ 30) ((4 * k) + 3).toNat)), none], [.inr ((τ 30) (4 * k).toNat)], τ)) rfl (by show 0 ≤ (4 * k) ∧ (4 * k) < ((240 : Nat) : Int); omega) ?_
  rw [hc, ex, ey]
  refine exq_k 1 (P := some (Rng 109)) (g := (cod m8_does 61, [some (.inl 21), some (.inr k), some (.inr x), some (.inr y), some (.inr ((τ 30) ((4 * k) + 3).toNat)), none], [], τ)) rfl ⟨by decide, by decide⟩ ?_
  refine exq_k 5 (P := none) (g := (cod m8_does 66, [some (.inl 21), some (.inr k), some (.inr x), some (.inr y), some (.inr ((τ 30) ((4 * k) + 3).toNat)), none], [.inr 1, .inr ((τ 30) ((4 * k) + 3).toNat), .inr y, .inr x, .inl 21], τ)) rfl trivial ?_
  refine exq_b (P := ¬ ((τ 30) ((4 * k) + 3).toNat) = 1) (ct := (cod m8_does 69, [some (.inl 21), some (.inr k), some (.inr x), some (.inr y), some (.inr ((τ 30) ((4 * k) + 3).toNat)), none], [.inr y, .inr x, .inl 21], τ)) (cf := (cod m8_does 67, [some (.inl 21), some (.inr k), some (.inr x), some (.inr y), some (.inr ((τ 30) ((4 * k) + 3).toNat)), none], [.inr y, .inr x, .inl 21], τ)) rfl ⟨⟨by omega, by omega⟩, ⟨by decide, by decide⟩⟩ (fun h1 => ?_) (fun h1 => ?_)
  · first
    | (exfalso; omega)
    | (
        refine exq_k 1 (P := none) (g := (cod m8_does 70, [some (.inl 21), some (.inr k), some (.inr x), some (.inr y), some (.inr ((τ 30) ((4 * k) + 3).toNat)), none], [.inr 0, .inr y, .inr x, .inl 21], τ)) rfl trivial ?_
        refine exq_cq (m_doMove_0 (τ := τ) (f := x) (r := y) hI hR hx hy hB) (is := cod m8_does 71) (L := [some (.inl 21), some (.inr k), some (.inr x), some (.inr y), some (.inr ((τ 30) ((4 * k) + 3).toNat)), none]) (st := []) rfl rfl rfl (fun v τ1 hq => ?_) (fun E τ1 hq => absurd hq (qdo_nx _ _))
        obtain ⟨x1, rfl⟩ := qdo_v hq
        refine exq_k 2 (P := none) (g := (cod m8_does 76, [some (.inl 21), some (.inr k), some (.inr x), some (.inr y), some (.inr ((τ 30) ((4 * k) + 3).toNat)), some (.inr x1)], [], τ1)) rfl trivial ?_
        exact exq_r rfl rfl rfl (⟨x1, τ1, rfl, hq⟩))
  · first
    | (exfalso; omega)
    | (
        refine exq_k 2 (P := none) (g := (cod m8_does 70, [some (.inl 21), some (.inr k), some (.inr x), some (.inr y), some (.inr ((τ 30) ((4 * k) + 3).toNat)), none], [.inr 1, .inr y, .inr x, .inl 21], τ)) rfl trivial ?_
        refine exq_cq (m_doMove_0 (τ := τ) (f := x) (r := y) hI hR hx hy hB) (is := cod m8_does 71) (L := [some (.inl 21), some (.inr k), some (.inr x), some (.inr y), some (.inr ((τ 30) ((4 * k) + 3).toNat)), none]) (st := []) rfl rfl rfl (fun v τ1 hq => ?_) (fun E τ1 hq => absurd hq (qdo_nx _ _))
        obtain ⟨x1, rfl⟩ := qdo_v hq
        refine exq_k 2 (P := none) (g := (cod m8_does 76, [some (.inl 21), some (.inr k), some (.inr x), some (.inr y), some (.inr ((τ 30) ((4 * k) + 3).toNat)), some (.inr x1)], [], τ1)) rfl trivial ?_
        exact exq_r rfl rfl rfl (⟨x1, τ1, rfl, hq⟩))
theorem m_does_move_1 {k x y : Int} {τ : SZ} {c : Nat → Int} {B : Int} (hI : Iv B c) (hR : Rs c (τ 22)) (hB : B + 9 ≤ 100000000) (hk : 0 ≤ k ∧ k < 60) (hc : τ 30 (4 * k).toNat = 109) (hx : Rng x) (hy : Rng y) (ex : τ 30 (4 * k + 1).toNat = x) (ey : τ 30 (4 * k + 2).toNat = y) (ez : τ 30 (4 * k + 3).toNat = 1) (hz3 : Rng (τ 30 (4 * k + 3).toNat)) : RZq 10 m8_does [.inl 21, .inr k] τ (Qds τ (obM c x y 1) 1 2 2 (4) (x) (ocn c x y 1) (dtl c (ocn c x y 1) x y 1) (mkp c x y 1) (mkm c x y 1)) := by
  obtain ⟨hz31, hz32⟩ := hz3
  refine Exq.call ?_ rfl rfl
  show Exq _ _ (cod m8_does 0, [some (.inl 21), some (.inr k), none, none, none, none], [], τ) _ _
  refine exq_k 8 (P := some (0 ≤ ((4 * k) + 1) ∧ ((4 * k) + 1) < ((240 : Nat) : Int))) (g := (cod m8_does 8, [some (.inl 21), some (.inr k), none, none, none, none], [.inr ((τ 30) ((4 * k) + 1).toNat)], τ)) rfl (by show 0 ≤ ((4 * k) + 1) ∧ ((4 * k) + 1) < ((240 : Nat) : Int); omega) ?_
  refine exq_k 9 (P := some (0 ≤ ((4 * k) + 2) ∧ ((4 * k) + 2) < ((240 : Nat) : Int))) (g := (cod m8_does 17, [some (.inl 21), some (.inr k), some (.inr ((τ 30) ((4 * k) + 1).toNat)), none, none, none], [.inr ((τ 30) ((4 * k) + 2).toNat)], τ)) rfl (by show 0 ≤ ((4 * k) + 2) ∧ ((4 * k) + 2) < ((240 : Nat) : Int); omega) ?_
  refine exq_k 9 (P := some (0 ≤ ((4 * k) + 3) ∧ ((4 * k) + 3) < ((240 : Nat) : Int))) (g := (cod m8_does 26, [some (.inl 21), some (.inr k), some (.inr ((τ 30) ((4 * k) + 1).toNat)), some (.inr ((τ 30) ((4 * k) + 2).toNat)), none, none], [.inr ((τ 30) ((4 * k) + 3).toNat)], τ)) rfl (by show 0 ≤ ((4 * k) + 3) ∧ ((4 * k) + 3) < ((240 : Nat) : Int); omega) ?_
  refine exq_k 7 (P := some (0 ≤ (4 * k) ∧ (4 * k) < ((240 : Nat) : Int))) (g := (cod m8_does 33, [some (.inl 21), some (.inr k), some (.inr ((τ 30) ((4 * k) + 1).toNat)), some (.inr ((τ 30) ((4 * k) + 2).toNat)), some (.inr ((τ 30) ((4 * k) + 3).toNat)), none], [.inr ((τ 30) (4 * k).toNat)], τ)) rfl (by show 0 ≤ (4 * k) ∧ (4 * k) < ((240 : Nat) : Int); omega) ?_
  rw [hc, ex, ey]
  refine exq_k 1 (P := some (Rng 109)) (g := (cod m8_does 61, [some (.inl 21), some (.inr k), some (.inr x), some (.inr y), some (.inr ((τ 30) ((4 * k) + 3).toNat)), none], [], τ)) rfl ⟨by decide, by decide⟩ ?_
  refine exq_k 5 (P := none) (g := (cod m8_does 66, [some (.inl 21), some (.inr k), some (.inr x), some (.inr y), some (.inr ((τ 30) ((4 * k) + 3).toNat)), none], [.inr 1, .inr ((τ 30) ((4 * k) + 3).toNat), .inr y, .inr x, .inl 21], τ)) rfl trivial ?_
  refine exq_b (P := ¬ ((τ 30) ((4 * k) + 3).toNat) = 1) (ct := (cod m8_does 69, [some (.inl 21), some (.inr k), some (.inr x), some (.inr y), some (.inr ((τ 30) ((4 * k) + 3).toNat)), none], [.inr y, .inr x, .inl 21], τ)) (cf := (cod m8_does 67, [some (.inl 21), some (.inr k), some (.inr x), some (.inr y), some (.inr ((τ 30) ((4 * k) + 3).toNat)), none], [.inr y, .inr x, .inl 21], τ)) rfl ⟨⟨by omega, by omega⟩, ⟨by decide, by decide⟩⟩ (fun h1 => ?_) (fun h1 => ?_)
  · first
    | (exfalso; omega)
    | (
        refine exq_k 1 (P := none) (g := (cod m8_does 70, [some (.inl 21), some (.inr k), some (.inr x), some (.inr y), some (.inr ((τ 30) ((4 * k) + 3).toNat)), none], [.inr 0, .inr y, .inr x, .inl 21], τ)) rfl trivial ?_
        refine exq_cq (m_doMove_1 (τ := τ) (f := x) (r := y) hI hR hx hy hB) (is := cod m8_does 71) (L := [some (.inl 21), some (.inr k), some (.inr x), some (.inr y), some (.inr ((τ 30) ((4 * k) + 3).toNat)), none]) (st := []) rfl rfl rfl (fun v τ1 hq => ?_) (fun E τ1 hq => absurd hq (qdo_nx _ _))
        obtain ⟨x1, rfl⟩ := qdo_v hq
        refine exq_k 2 (P := none) (g := (cod m8_does 76, [some (.inl 21), some (.inr k), some (.inr x), some (.inr y), some (.inr ((τ 30) ((4 * k) + 3).toNat)), some (.inr x1)], [], τ1)) rfl trivial ?_
        exact exq_r rfl rfl rfl (⟨x1, τ1, rfl, hq⟩))
  · first
    | (exfalso; omega)
    | (
        refine exq_k 2 (P := none) (g := (cod m8_does 70, [some (.inl 21), some (.inr k), some (.inr x), some (.inr y), some (.inr ((τ 30) ((4 * k) + 3).toNat)), none], [.inr 1, .inr y, .inr x, .inl 21], τ)) rfl trivial ?_
        refine exq_cq (m_doMove_1 (τ := τ) (f := x) (r := y) hI hR hx hy hB) (is := cod m8_does 71) (L := [some (.inl 21), some (.inr k), some (.inr x), some (.inr y), some (.inr ((τ 30) ((4 * k) + 3).toNat)), none]) (st := []) rfl rfl rfl (fun v τ1 hq => ?_) (fun E τ1 hq => absurd hq (qdo_nx _ _))
        obtain ⟨x1, rfl⟩ := qdo_v hq
        refine exq_k 2 (P := none) (g := (cod m8_does 76, [some (.inl 21), some (.inr k), some (.inr x), some (.inr y), some (.inr ((τ 30) ((4 * k) + 3).toNat)), some (.inr x1)], [], τ1)) rfl trivial ?_
        exact exq_r rfl rfl rfl (⟨x1, τ1, rfl, hq⟩))
theorem m_does_pass {k : Int} {τ : SZ} {c : Nat → Int} {B : Int} (hI : Iv B c) (hR : Rs c (τ 22)) (hB : B + 9 ≤ 100000000) (hk : 0 ≤ k ∧ k < 60) (hc : τ 30 (4 * k).toNat = 112) : RZq 10 m8_does [.inl 21, .inr k] τ (Qds τ (obP c) 1 2 1 (5) (fsm c (cel c 107).toNat 0) (0) (0) (cel (psT c) 108) (psT c)) := by
  refine Exq.call ?_ rfl rfl
  show Exq _ _ (cod m8_does 0, [some (.inl 21), some (.inr k), none, none, none, none], [], τ) _ _
  refine exq_k 8 (P := some (0 ≤ ((4 * k) + 1) ∧ ((4 * k) + 1) < ((240 : Nat) : Int))) (g := (cod m8_does 8, [some (.inl 21), some (.inr k), none, none, none, none], [.inr ((τ 30) ((4 * k) + 1).toNat)], τ)) rfl (by show 0 ≤ ((4 * k) + 1) ∧ ((4 * k) + 1) < ((240 : Nat) : Int); omega) ?_
  refine exq_k 9 (P := some (0 ≤ ((4 * k) + 2) ∧ ((4 * k) + 2) < ((240 : Nat) : Int))) (g := (cod m8_does 17, [some (.inl 21), some (.inr k), some (.inr ((τ 30) ((4 * k) + 1).toNat)), none, none, none], [.inr ((τ 30) ((4 * k) + 2).toNat)], τ)) rfl (by show 0 ≤ ((4 * k) + 2) ∧ ((4 * k) + 2) < ((240 : Nat) : Int); omega) ?_
  refine exq_k 9 (P := some (0 ≤ ((4 * k) + 3) ∧ ((4 * k) + 3) < ((240 : Nat) : Int))) (g := (cod m8_does 26, [some (.inl 21), some (.inr k), some (.inr ((τ 30) ((4 * k) + 1).toNat)), some (.inr ((τ 30) ((4 * k) + 2).toNat)), none, none], [.inr ((τ 30) ((4 * k) + 3).toNat)], τ)) rfl (by show 0 ≤ ((4 * k) + 3) ∧ ((4 * k) + 3) < ((240 : Nat) : Int); omega) ?_
  refine exq_k 7 (P := some (0 ≤ (4 * k) ∧ (4 * k) < ((240 : Nat) : Int))) (g := (cod m8_does 33, [some (.inl 21), some (.inr k), some (.inr ((τ 30) ((4 * k) + 1).toNat)), some (.inr ((τ 30) ((4 * k) + 2).toNat)), some (.inr ((τ 30) ((4 * k) + 3).toNat)), none], [.inr ((τ 30) (4 * k).toNat)], τ)) rfl (by show 0 ≤ (4 * k) ∧ (4 * k) < ((240 : Nat) : Int); omega) ?_
  rw [hc]
  refine exq_k 1 (P := some (Rng 112)) (g := (cod m8_does 73, [some (.inl 21), some (.inr k), some (.inr ((τ 30) ((4 * k) + 1).toNat)), some (.inr ((τ 30) ((4 * k) + 2).toNat)), some (.inr ((τ 30) ((4 * k) + 3).toNat)), none], [], τ)) rfl ⟨by decide, by decide⟩ ?_
  refine exq_k 1 (P := none) (g := (cod m8_does 74, [some (.inl 21), some (.inr k), some (.inr ((τ 30) ((4 * k) + 1).toNat)), some (.inr ((τ 30) ((4 * k) + 2).toNat)), some (.inr ((τ 30) ((4 * k) + 3).toNat)), none], [.inl 21], τ)) rfl trivial ?_
  refine exq_cq (m_doPass (τ := τ) hI hR (by omega)) (is := cod m8_does 75) (L := [some (.inl 21), some (.inr k), some (.inr ((τ 30) ((4 * k) + 1).toNat)), some (.inr ((τ 30) ((4 * k) + 2).toNat)), some (.inr ((τ 30) ((4 * k) + 3).toNat)), none]) (st := []) rfl rfl rfl (fun v τ1 hq => ?_) (fun E τ1 hq => absurd hq (qdo_nx _ _))
  obtain ⟨x1, rfl⟩ := qdo_v hq
  refine exq_k 1 (P := none) (g := (cod m8_does 76, [some (.inl 21), some (.inr k), some (.inr ((τ 30) ((4 * k) + 1).toNat)), some (.inr ((τ 30) ((4 * k) + 2).toNat)), some (.inr ((τ 30) ((4 * k) + 3).toNat)), some (.inr x1)], [], τ1)) rfl trivial ?_
  exact exq_r rfl rfl rfl (⟨x1, τ1, rfl, hq⟩)
end MDS
