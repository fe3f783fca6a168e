/-! the class and the second implementation, held together -/
section REL
def Rl (B : Int) (c s : Nat → Int) : Prop := Iv B c ∧ Tg c ∧ Rs c s
theorem Iv.mono {B B' : Int} {c : Nat → Int} (h : Iv B c) (h1 : B ≤ B') (h2 : B' ≤ 100000000) : Iv B' c := ⟨h.1.mono h1 h2, h.2⟩
theorem Rl.mono {B B' : Int} {c s : Nat → Int} (h : Rl B c s) (h1 : B ≤ B') (h2 : B' ≤ 100000000) : Rl B' c s := ⟨h.1.mono h1 h2, h.2⟩
def slc (f : Nat → Int) (z : Int) : Nat → Int := fun k => if k < 109 then f ((z * 109).toNat + k) else 0
theorem slc_tz {f : Nat → Int} {z : Int} : Tz (slc f z) := fun k hk => if_neg (by omega)
theorem slc_at {f g : Nat → Int} {z : Int} (hg : Tz g) : slc (zc g f 0 (z * 109).toNat 109) z = g := by
  funext k
  unfold slc
  by_cases h : k < 109
  · rw [if_pos h]
    unfold zc
    rw [if_pos (by omega)]
    congr 1
    omega
  · rw [if_neg h, hg k (by omega)]
theorem slc_ne {f g : Nat → Int} {z z' : Int} (hz : 0 ≤ z) (hz' : 0 ≤ z') (h : z' ≠ z) : slc (zc g f 0 (z * 109).toNat 109) z' = slc f z' := by
  funext k
  unfold slc
  by_cases h2 : k < 109
  · rw [if_pos h2, if_pos h2]
    unfold zc
    rw [if_neg (by omega)]
  · rw [if_neg h2, if_neg h2]
theorem slc_sh {f : Nat → Int} {z : Int} (hz : 0 ≤ z ∧ z < 7) : slc (zc f f 109 0 763) z = slc f (z + 1) := by
  funext k
  unfold slc
  by_cases h2 : k < 109
  · rw [if_pos h2, if_pos h2]
    unfold zc
    rw [if_pos (by omega)]
    congr 1
    omega
  · rw [if_neg h2, if_neg h2]
theorem zc_slc {f g : Nat → Int} {z : Int} (hg : Tz g) : zc f g (z * 109).toNat 0 109 = slc f z := by
  funext k
  unfold slc zc
  by_cases h : k < 109
  · rw [if_pos (by omega), if_pos h]
    congr 1
  · rw [if_neg (by omega), if_neg h, hg k (by omega)]
/-- what was before the latest changes -/
def HX (B : Int) (τ : SZ) : Prop := (0 ≤ τ 14 1 ∧ τ 14 1 < 8) ∧ (0 ≤ τ 14 2 ∧ τ 14 2 ≤ 8) ∧ τ 21 6 = τ 14 2 ∧ ∀ i : Int, 0 ≤ i → i < τ 14 2 → Rl B (slc (τ 15) ((τ 14 1 + 7 - i) % 8)) (slc (τ 26) (τ 14 2 - 1 - i))
theorem HX.push {B : Int} {τ τ' : SZ} (h : HX B τ) (hr : Rl B (τ 4) (τ 22)) (h14 : τ' 14 1 = (τ 14 1 + 1) % 8) (h2 : τ' 14 2 = if 8 < τ 14 2 + 1 then 8 else τ 14 2 + 1) (h15 : τ' 15 = zc (τ 4) (τ 15) 0 (τ 14 1 * 109).toNat 109) (h6 : τ' 21 6 = hpn (τ 21 6)) (h26 : τ' 26 = hpm (τ 22) (τ 26) (τ 21 6)) : HX B τ' := by
  obtain ⟨a1, a2, a3, a4⟩ := h
  have hn : τ' 14 2 = (if τ 14 2 = 8 then 7 else τ 14 2) + 1 := by
    rw [h2]
    by_cases q : τ 14 2 = 8
    · rw [if_pos q, if_pos (by omega)]; omega
    · rw [if_neg q, if_neg (by omega)]
  refine ⟨by rw [h14]; omega, by rw [hn]; split <;> omega, by rw [h6, a3, hn]; rfl, fun i i0 i1 => ?_⟩
  rw [hn] at i1 ⊢
  rw [h15, h26, h14, a3]
  have T4 := hr.1.1.tz
  have T22 := hr.2.2.tz
  by_cases q : τ 14 2 = 8
  · rw [hpm_8 q, if_pos q]
    rw [if_pos q] at i1
    by_cases e : i = 0
    · subst e
      rw [show ((τ 14 1 + 1) % 8 + 7 - 0) % 8 = τ 14 1 from by omega, slc_at T4, show (763 : Nat) = ((7 : Int) * 109).toNat from rfl, show (7 : Int) + 1 - 1 - 0 = 7 from by omega, slc_at T22]
      exact hr
    · have k := a4 (i - 1) (by omega) (by omega)
      rw [show (τ 14 1 + 7 - (i - 1)) % 8 = ((τ 14 1 + 1) % 8 + 7 - i) % 8 from by omega] at k
      rw [slc_ne (by omega) (by omega) (by omega), show (763 : Nat) = ((7 : Int) * 109).toNat from rfl, slc_ne (by omega) (by omega) (by omega), show ((7 : Int) * 109).toNat = 763 from rfl, slc_sh (by omega), show (7 : Int) + 1 - 1 - i + 1 = τ 14 2 - 1 - (i - 1) from by omega]
      exact k
  · rw [hpm_n q, if_neg q]
    rw [if_neg q] at i1
    rw [show 109 * τ 14 2 = τ 14 2 * 109 from by omega]
    by_cases e : i = 0
    · subst e
      rw [show ((τ 14 1 + 1) % 8 + 7 - 0) % 8 = τ 14 1 from by omega, slc_at T4, show τ 14 2 + 1 - 1 - 0 = τ 14 2 from by omega, slc_at T22]
      exact hr
    · have k := a4 (i - 1) (by omega) (by omega)
      rw [show (τ 14 1 + 7 - (i - 1)) % 8 = ((τ 14 1 + 1) % 8 + 7 - i) % 8 from by omega] at k
      rw [slc_ne (by omega) (by omega) (by omega), slc_ne (by omega) (by omega) (by omega), show τ 14 2 + 1 - 1 - i = τ 14 2 - 1 - (i - 1) from by omega]
      exact k
theorem HX.mono {B B' : Int} {τ : SZ} (h : HX B τ) (h1 : B ≤ B') (h2 : B' ≤ 100000000) : HX B' τ := ⟨h.1, h.2.1, h.2.2.1, fun i a b => (h.2.2.2 i a b).mono h1 h2⟩
theorem HX.of {B : Int} {τ τ' : SZ} (h : HX B τ) (e14 : τ' 14 = τ 14) (e15 : τ' 15 = τ 15) (e26 : τ' 26 = τ 26) (e6 : τ' 21 6 = τ 21 6) : HX B τ' := by
  unfold HX
  rw [e14, e15, e26, e6]
  exact h
/-- reasons -/
def RX (τ : SZ) : Prop := ∃ l : List (Int × Int), l.length ≤ 3 ∧ τ 9 2 = (l.length : Int) ∧ (∀ i : Nat, i < l.length → τ 10 i = (l.getD i (0, 0)).1 ∧ τ 11 i = (l.getD i (0, 0)).2 ∧ ¬ (l.getD i (0, 0)).1 = 0) ∧
  (∀ i : Nat, i < 3 → τ 27 (2 * i) = (l.getD i (0, 0)).1 ∧ (i < l.length → τ 27 (2 * i + 1) = (l.getD i (0, 0)).2)) ∧ ∀ i, -1000 ≤ τ 27 i ∧ τ 27 i ≤ 1000
theorem RX.of {τ τ' : SZ} (h : RX τ) (e9 : τ' 9 = τ 9) (e10 : τ' 10 = τ 10) (e11 : τ' 11 = τ 11) (e27 : τ' 27 = τ 27) : RX τ' := by
  unfold RX
  rw [e9, e10, e11, e27]
  exact h
/-- the text and the line -/
def TX (τ : SZ) : Prop := τ 21 14 = τ 16 1 ∧ (0 ≤ τ 16 1 ∧ τ 16 1 ≤ 60) ∧ (∀ i, 0 ≤ τ 17 i ∧ τ 17 i < 65536) ∧ (∀ i, 0 ≤ τ 29 i ∧ τ 29 i < 65536) ∧ (∀ i : Nat, (i : Int) < τ 16 1 → τ 29 i = τ 17 i) ∧ Og (τ 18) ∧ τ 21 17 = τ 16 4
def LX (τ : SZ) : Prop := τ 21 12 = τ 19 1 ∧ (0 ≤ τ 19 1 ∧ τ 19 1 ≤ 12) ∧ (∀ i, 0 ≤ τ 20 i ∧ τ 20 i < 65536) ∧ (∀ i, 0 ≤ τ 28 i ∧ τ 28 i < 65536) ∧ (∀ i : Nat, (i : Int) < τ 19 1 → τ 28 i = τ 20 i)
theorem TX.of {τ τ' : SZ} (h : TX τ) (e16 : τ' 16 = τ 16) (e17 : τ' 17 = τ 17) (e18 : τ' 18 = τ 18) (e29 : τ' 29 = τ 29) (e14 : τ' 21 14 = τ 21 14) (e4 : τ' 21 17 = τ 21 17) : TX τ' := by
  unfold TX
  rw [e16, e17, e18, e29, e14, e4]
  exact h
theorem LX.of {τ τ' : SZ} (h : LX τ) (e19 : τ' 19 = τ 19) (e20 : τ' 20 = τ 20) (e28 : τ' 28 = τ 28) (e12 : τ' 21 12 = τ 21 12) : LX τ' := by
  unfold LX
  rw [e19, e20, e28, e12]
  exact h
def SX (B : Int) (τ : SZ) : Prop := Tz (τ 6) ∧ Tz (τ 25) ∧ τ 21 4 = τ 0 9 ∧ (0 ≤ τ 0 9 ∧ τ 0 9 ≤ 1) ∧ (τ 0 9 = 1 → Rl B (τ 6) (τ 25))
theorem SX.of {B : Int} {τ τ' : SZ} (h : SX B τ) (e0 : τ' 0 = τ 0) (e6 : τ' 6 = τ 6) (e25 : τ' 25 = τ 25) (e4 : τ' 21 4 = τ 21 4) : SX B τ' := by
  unfold SX
  rw [e0, e6, e25, e4]
  exact h
theorem SX.mono {B B' : Int} {τ : SZ} (h : SX B τ) (h1 : B ≤ B') (h2 : B' ≤ 100000000) : SX B' τ := ⟨h.1, h.2.1, h.2.2.1, h.2.2.2.1, fun q => (h.2.2.2.2 q).mono h1 h2⟩
def ZX (τ : SZ) : Prop := Tz (τ 5) ∧ Tz (τ 23) ∧ Tz (τ 24)
/-- CLASS AND SECOND IMPLEMENTATION -/
def WL (B : Int) (τ : SZ) : Prop := Rl B (τ 4) (τ 22) ∧ HX B τ ∧ SX B τ ∧ RX τ ∧ TX τ ∧ LX τ ∧ ZX τ
theorem WL.mono {B B' : Int} {τ : SZ} (h : WL B τ) (h1 : B ≤ B') (h2 : B' ≤ 100000000) : WL B' τ := ⟨h.1.mono h1 h2, h.2.1.mono h1 h2, h.2.2.1.mono h1 h2, h.2.2.2⟩
/-- nothing that is shown has changed -/
theorem WL.kp {B : Int} {τ τ' : SZ} (h : WL B τ) (h1 : ∀ a, a ≠ 5 → a ≠ 21 → a ≠ 23 → a ≠ 24 → a ≠ 30 → τ' a = τ a) (h2 : τ' 21 4 = τ 21 4 ∧ τ' 21 6 = τ 21 6 ∧ τ' 21 12 = τ 21 12 ∧ τ' 21 14 = τ 21 14 ∧ τ' 21 17 = τ 21 17) (hz : ZX τ') : WL B τ' := by
  obtain ⟨a1, a2, a3, a4, a5, a6, a7⟩ := h
  have e : ∀ a, a ≠ 5 → a ≠ 21 → a ≠ 23 → a ≠ 24 → a ≠ 30 → τ' a = τ a := h1
  refine ⟨?_, a2.of (e _ (by decide) (by decide) (by decide) (by decide) (by decide)) (e _ (by decide) (by decide) (by decide) (by decide) (by decide)) (e _ (by decide) (by decide) (by decide) (by decide) (by decide)) h2.2.1,
    a3.of (e _ (by decide) (by decide) (by decide) (by decide) (by decide)) (e _ (by decide) (by decide) (by decide) (by decide) (by decide)) (e _ (by decide) (by decide) (by decide) (by decide) (by decide)) h2.1,
    a4.of (e _ (by decide) (by decide) (by decide) (by decide) (by decide)) (e _ (by decide) (by decide) (by decide) (by decide) (by decide)) (e _ (by decide) (by decide) (by decide) (by decide) (by decide)) (e _ (by decide) (by decide) (by decide) (by decide) (by decide)),
    a5.of (e _ (by decide) (by decide) (by decide) (by decide) (by decide)) (e _ (by decide) (by decide) (by decide) (by decide) (by decide)) (e _ (by decide) (by decide) (by decide) (by decide) (by decide)) (e _ (by decide) (by decide) (by decide) (by decide) (by decide)) h2.2.2.2.1 h2.2.2.2.2,
    a6.of (e _ (by decide) (by decide) (by decide) (by decide) (by decide)) (e _ (by decide) (by decide) (by decide) (by decide) (by decide)) (e _ (by decide) (by decide) (by decide) (by decide) (by decide)) h2.2.2.1, hz⟩
  rw [e 4 (by decide) (by decide) (by decide) (by decide) (by decide), e 22 (by decide) (by decide) (by decide) (by decide) (by decide)]
  exact a1
theorem WL.tt {B : Int} {τ : SZ} (h : WL B τ) {k e : Int} : WL B (tt τ k e) := by
  refine h.kp (fun a _ n _ _ _ => ?_) ⟨rfl, rfl, rfl, rfl, rfl⟩ h.2.2.2.2.2.2
  unfold Jvm.Pilot.CFerryDraughtsLaw_law_r9972_b515da.tt
  rw [zr_ne n]
theorem WL.th {B : Int} {τ : SZ} (h : WL B τ) {k : Int} : WL B (th τ k) := by
  refine h.kp (fun a _ n _ _ _ => ?_) ⟨rfl, rfl, rfl, rfl, rfl⟩ h.2.2.2.2.2.2
  unfold Jvm.Pilot.CFerryDraughtsLaw_law_r9972_b515da.th
  rw [zr_ne n]
theorem WL.dth {B : Int} {τ : SZ} (h : WL B τ) {k e : Int} : WL B (dt (Jvm.Pilot.CFerryDraughtsLaw_law_r9972_b515da.th τ k) e) := by
  refine h.kp (fun a _ n _ _ _ => ?_) ⟨rfl, rfl, rfl, rfl, rfl⟩ h.2.2.2.2.2.2
  unfold dt Jvm.Pilot.CFerryDraughtsLaw_law_r9972_b515da.th
  rw [zr_ne n, zr_ne n]
theorem WL.t5 {B : Int} {τ : SZ} (h : WL B τ) {x : Nat → Int} (hx : Tz x) : WL B (zr τ 5 x) :=
  h.kp (fun a n _ _ _ _ => zr_ne n) ⟨rfl, rfl, rfl, rfl, rfl⟩ ⟨hx, h.2.2.2.2.2.2.2⟩
theorem WL.t24 {B : Int} {τ : SZ} (h : WL B τ) {x : Nat → Int} {k e : Int} (hx : Tz x) : WL B (zr (Jvm.Pilot.CFerryDraughtsLaw_law_r9972_b515da.tt τ k e) 24 x) := by
  refine h.kp (fun a _ n _ n2 _ => ?_) ⟨rfl, rfl, rfl, rfl, rfl⟩ ⟨h.2.2.2.2.2.2.1, h.2.2.2.2.2.2.2.1, hx⟩
  unfold Jvm.Pilot.CFerryDraughtsLaw_law_r9972_b515da.tt
  rw [zr_ne n2, zr_ne n]
/-- a call of both: what the class answers or throws, the other answers or tells -/
def Cal (j j' : Nat) (as : List VZ) (Es : List String) (B : Int) (τ : SZ) : Prop := ∃ (r : RSZ) (k b : Int) (τ1 τ2 : SZ), RZ 12 j (.inl 0 :: as) τ r ∧ RZ 12 j' (.inl 21 :: as) τ1 (.inl (some (.inr b), τ2)) ∧
  ((k = 0 ∧ r = .inl (some (.inr b), τ1)) ∨ (∃ i : Nat, k = (i : Int) + 1 ∧ ∃ E, Es[i]? = some E ∧ r = .inr (E, τ1))) ∧ τ2 21 7 = k ∧ WL (B + 200) τ2
theorem cal_0 {j j' d d' : Nat} {as : List VZ} {Es : List String} {B b b' : Int} {τ τ1 τ2 : SZ} (h1 : RZ d j (.inl 0 :: as) τ (.inl (some (.inr b), τ1))) (h2 : RZ d' j' (.inl 21 :: as) τ1 (.inl (some (.inr b'), τ2))) (hd : d ≤ 12 ∧ d' ≤ 12) (hb : b = b') (hk : τ2 21 7 = 0) (hw : WL (B + 200) τ2) : Cal j j' as Es B τ := by
  subst hb
  exact ⟨_, 0, b, τ1, τ2, h1.mono hd.1, h2.mono hd.2, Or.inl ⟨rfl, rfl⟩, hk, hw⟩
theorem cal_x {j j' d d' : Nat} {as : List VZ} {Es : List String} {B b : Int} {τ τ1 τ2 : SZ} (i : Nat) {E : String} (h1 : RZ d j (.inl 0 :: as) τ (.inr (E, τ1))) (h2 : RZ d' j' (.inl 21 :: as) τ1 (.inl (some (.inr b), τ2))) (hd : d ≤ 12 ∧ d' ≤ 12) (hE : Es[i]? = some E) (hk : τ2 21 7 = (i : Int) + 1) (hw : WL (B + 200) τ2) : Cal j j' as Es B τ :=
  ⟨_, _, b, τ1, τ2, h1.mono hd.1, h2.mono hd.2, Or.inr ⟨i, rfl, E, hE, rfl⟩, hk, hw⟩
end REL
