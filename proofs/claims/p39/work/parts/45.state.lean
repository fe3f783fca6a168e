/-! the state of the class: what holds of it at every time, and what stands behind a change, a refusal, an undoing -/
section STT2
theorem Iv.mono {B B' : Int} {c : Nat → Int} (h : Iv B c) (h1 : B ≤ B') (h2 : B' ≤ 100000000) : Iv B' c := ⟨h.1.mono h1 h2, h.2⟩
/-- the row that stands at a place of the history -/
def slc (f : Nat → Int) (z : Int) : Nat → Int := fun k => if k < 109 then f ((z * 109).toNat + k) else 0
theorem slc_at {f g : Nat → Int} {z : Int} (hg : Tz g) : slc (zc g f 0 (z * 109).toNat 109) z = g := by
  funext k
  unfold slc
  by_cases h : k < 109
  · rw [if_pos h]
    unfold zc
    rw [if_pos (by omega)]
    congr 1
    omega
  · rw [if_neg h, hg k (by omega)]
theorem slc_ne {f g : Nat → Int} {z z' : Int} (hz : 0 ≤ z) (hz' : 0 ≤ z') (h : z' ≠ z) : slc (zc g f 0 (z * 109).toNat 109) z' = slc f z' := by
  funext k
  unfold slc
  by_cases h2 : k < 109
  · rw [if_pos h2, if_pos h2]
    unfold zc
    rw [if_neg (by omega)]
  · rw [if_neg h2, if_neg h2]
theorem zc_slc {f g : Nat → Int} {z : Int} (hg : Tz g) : zc f g (z * 109).toNat 0 109 = slc f z := by
  funext k
  unfold slc zc
  by_cases h : k < 109
  · rw [if_pos (by omega), if_pos h]
    congr 1
  · rw [if_neg (by omega), if_neg h, hg k (by omega)]
/-- what was before the latest changes, the latest first -/
def HS (τ : SZ) (h : List (Nat → Int)) : Prop := (0 ≤ τ 14 1 ∧ τ 14 1 < 8) ∧ τ 14 2 = (h.length : Int) ∧ h.length ≤ 8 ∧ ∀ i : Nat, i < h.length → slc (τ 15) ((τ 14 1 + 7 - (i : Int)) % 8) = h.getD i (fun _ => 0)
theorem HS.of {τ τ' : SZ} {h : List (Nat → Int)} (hh : HS τ h) (e14 : τ' 14 = τ 14) (e15 : τ' 15 = τ 15) : HS τ' h := by
  unfold HS
  rw [e14, e15]
  exact hh
theorem HS.push {τ : SZ} {h : List (Nat → Int)} {c' : Nat → Int} (hh : HS τ h) (T4 : Tz (τ 4)) : HS (zr (hkp τ) 4 c') ((τ 4 :: h).take 8) := by
  obtain ⟨a1, a2, a3, a4⟩ := hh
  have e1 : (zr (hkp τ) 4 c') 14 1 = (τ 14 1 + 1) % 8 := rfl
  have e2 : (zr (hkp τ) 4 c') 14 2 = if 8 < τ 14 2 + 1 then 8 else τ 14 2 + 1 := rfl
  have e3 : (zr (hkp τ) 4 c') 15 = zc (τ 4) (τ 15) 0 (τ 14 1 * 109).toNat 109 := rfl
  have hl : ((τ 4 :: h).take 8).length = min 8 (h.length + 1) := by rw [List.length_take, List.length_cons]
  refine ⟨by rw [e1]; omega, by rw [e2, hl]; split <;> omega, by rw [hl]; omega, fun i hi => ?_⟩
  rw [hl] at hi
  rw [e1, e3, List.getD_eq_getElem?_getD, List.getElem?_take, if_pos (by omega)]
  cases i with
  | zero =>
    rw [show ((τ 14 1 + 1) % 8 + 7 - ((0 : Nat) : Int)) % 8 = τ 14 1 from by omega, slc_at T4]
    rfl
  | succ i =>
    rw [slc_ne (by omega) (by omega) (by omega), List.getElem?_cons_succ, show ((τ 14 1 + 1) % 8 + 7 - ((i + 1 : Nat) : Int)) % 8 = (τ 14 1 + 7 - (i : Int)) % 8 from by omega, a4 i (by omega), List.getD_eq_getElem?_getD]
theorem HS.pop {τ : SZ} {c : Nat → Int} {t : List (Nat → Int)} (hh : HS τ (c :: t)) (T4 : Tz (τ 4)) : (hpb τ) 4 = c ∧ HS (hpb τ) t := by
  obtain ⟨a1, a2, a3, a4⟩ := hh
  rw [List.length_cons] at a2 a3 a4
  have e1 : (hpb τ) 14 1 = (τ 14 1 + 8 - 1) % 8 := rfl
  have e2 : (hpb τ) 14 2 = τ 14 2 - 1 := rfl
  have e3 : (hpb τ) 15 = τ 15 := rfl
  have e4 : (hpb τ) 4 = zc (τ 15) (τ 4) (((τ 14 1 + 8 - 1) % 8) * 109).toNat 0 109 := rfl
  refine ⟨?_, by rw [e1]; omega, by rw [e2, a2]; omega, by omega, fun i hi => ?_⟩
  · rw [e4, zc_slc T4, show (τ 14 1 + 8 - 1) % 8 = (τ 14 1 + 7 - ((0 : Nat) : Int)) % 8 from by omega, a4 0 (by omega)]
    rfl
  · rw [e1, e3, show ((τ 14 1 + 8 - 1) % 8 + 7 - (i : Int)) % 8 = (τ 14 1 + 7 - ((i + 1 : Nat) : Int)) % 8 from by omega, a4 (i + 1) (by omega)]
    rfl
/-- WHAT HOLDS OF THE CLASS AT EVERY TIME; h: the rows before the latest changes -/
def CV (B : Int) (τ : SZ) (h : List (Nat → Int)) : Prop :=
  Iv B (τ 4) ∧ HS τ h ∧ (∀ x, x ∈ h → Iv B x) ∧ Tz (τ 5) ∧ (0 ≤ τ 9 2 ∧ τ 9 2 ≤ 3) ∧ (Tx τ ∧ Og (τ 18)) ∧ (0 ≤ τ 19 1 ∧ τ 19 1 ≤ 12) ∧ ∀ i, 0 ≤ τ 20 i ∧ τ 20 i < 65536
theorem CV.mono {B B' : Int} {τ : SZ} {h : List (Nat → Int)} (C : CV B τ h) (h1 : B ≤ B') (h2 : B' ≤ 100000000) : CV B' τ h := ⟨C.1.mono h1 h2, C.2.1, fun x hx => (C.2.2.1 x hx).mono h1 h2, C.2.2.2⟩
/-- a change is done -/
theorem CV.done {B B' : Int} {τ : SZ} {h : List (Nat → Int)} {c' : Nat → Int} (C : CV B τ h) (h1 : B ≤ B') (h2 : B' ≤ 100000000) (hc : Iv B' c') : CV B' (zr (hkp τ) 4 c') ((τ 4 :: h).take 8) := by
  obtain ⟨a1, a2, a3, a4, a5, a6, a7⟩ := C
  refine ⟨hc, a2.push a1.1.tz, fun x hx => ?_, a4, a5, a6, a7⟩
  have hx2 := List.mem_of_mem_take hx
  rcases List.mem_cons.mp hx2 with rfl | hx2
  · exact a1.mono h1 h2
  · exact (a3 x hx2).mono h1 h2
/-- a refusal is told -/
theorem CV.rkp {B : Int} {τ : SZ} {h : List (Nat → Int)} {w d : Int} (C : CV B τ h) : CV B (rkp τ w d) h := by
  obtain ⟨a1, a2, a3, a4, a5, a6, a7⟩ := C
  exact ⟨a1, a2, a3, a4, ⟨show (0 : Int) ≤ 1 by decide, show (1 : Int) ≤ 3 by decide⟩, a6, a7⟩
theorem CV.rpa {B : Int} {τ : SZ} {h : List (Nat → Int)} {w d : Int} (C : CV B τ h) : CV B (rpa τ w d) h := by
  obtain ⟨a1, a2, a3, a4, a5, a6, a7⟩ := C
  have e : (Jvm.Pilot.@@N@@.rpa τ w d) 9 2 = if 3 < τ 9 2 + 1 then 3 else τ 9 2 + 1 := rfl
  exact ⟨a1, a2, a3, a4, by rw [e]; split <;> omega, a6, a7⟩
/-- something is tried -/
theorem CV.t5 {B : Int} {τ : SZ} {h : List (Nat → Int)} {x : Nat → Int} (C : CV B τ h) (hx : Tz x) : CV B (zr τ 5 x) h := by
  obtain ⟨a1, a2, a3, a4, a5, a6, a7⟩ := C
  exact ⟨a1, a2, a3, hx, a5, a6, a7⟩
/-- undone -/
theorem CV.back {B : Int} {τ : SZ} {c : Nat → Int} {t : List (Nat → Int)} (C : CV B τ (c :: t)) : (hpb τ) 4 = c ∧ CV B (hpb τ) t := by
  obtain ⟨a1, a2, a3, a4, a5, a6, a7⟩ := C
  obtain ⟨b1, b2⟩ := a2.pop a1.1.tz
  exact ⟨b1, by rw [b1]; exact a3 c List.mem_cons_self, b2, fun x hx => a3 x (List.mem_cons_of_mem _ hx), a4, a5, a6, a7⟩
/-- a line is written -/
theorem CV.lns {B : Int} {τ : SZ} {h : List (Nat → Int)} {l : List Int} (C : CV B τ h) (hl : l.length ≤ 12) (hv : ∀ v, v ∈ l → 0 ≤ v ∧ v < 65536) : CV B (lns τ l) h := by
  obtain ⟨a1, a2, a3, a4, a5, a6, a7⟩ := C
  have e1 : (Jvm.Pilot.@@N@@.lns τ l) 19 1 = (l.length : Int) := rfl
  refine ⟨a1, a2, a3, a4, a5, a6, by rw [e1]; omega, fun i => ?_⟩
  show 0 ≤ lnl (τ 20) l i ∧ lnl (τ 20) l i < 65536
  unfold lnl
  split
  · exact hv _ (getD_mem (by assumption))
  · exact a7.2 i
/-- a character is added to the input -/
theorem CV.tad {B : Int} {τ : SZ} {h : List (Nat → Int)} {c : Int} (C : CV B τ h) (hc : 0 ≤ c ∧ c < 65536) (hn : ¬ τ 16 1 = 60) : CV B (tad τ c) h := by
  obtain ⟨a1, a2, a3, a4, a5, ⟨⟨b1, b2⟩, b3⟩, a7⟩ := C
  have e1 : (Jvm.Pilot.@@N@@.tad τ c) 16 1 = τ 16 1 + 1 := rfl
  refine ⟨a1, a2, a3, a4, a5, ⟨⟨by rw [e1]; omega, fun i => ?_⟩, b3⟩, a7⟩
  show 0 ≤ zu (τ 17) (τ 16 1).toNat c i ∧ zu (τ 17) (τ 16 1).toNat c i < 65536
  unfold zu
  split
  · exact hc
  · exact b2 i
end STT2
