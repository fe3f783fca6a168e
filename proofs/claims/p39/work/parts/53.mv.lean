/-! moves, gains, the best move, undoing, as the law calls them: printed by wip/p39/db53.py -/
section MVS
variable {l : Launch} {D : va_G} {A : Nat → Prop} {ad adV : Nat → Nat} {cA : Nat → ClassId}
theorem M_move_0 {X : va_W} {τ : SZ} {c : Nat → Int} {h : List (Nat → Int)} {B : Int} {f r : Int} (hl0 : l.stackTraces = false) (C : CV B τ h) (e : τ 4 = c) (hB : B + 100 ≤ 100000000) (hf : 0 ≤ f ∧ f < cel c 107) (hr : 0 ≤ r ∧ r < 2) (hm : ocn c f r (-1) = 1 ∨ ocn c f r (-1) = 2 ∨ ocn c f r (-1) = 3) : LK l D A ad adV cA (.codeWith yL_move method_7_code 5 (some .int) [(0, 7, 8, 22), (0, 7, 13, 16)]) yL_move 22 1 6 [.ref (ad 0), .int (iI f), .int (iI r), .int (iI 0)] (wO ad cA (sz τ) ++ X) (RV ad cA X (mkp c f r (-1)) (zr (hkp τ) 4 (mkm c f r (-1)))) := by
  subst e
  have h0 := (st_move C rfl hB (Or.inr rfl) hf hr hm).2.2
  have q := L_move_0 (X := X) (τ := τ) (B := B) (f := f) (r := r) (ad := ad) (adV := adV) (cA := cA) (D := D) (A := A) hl0 (rg_f C.1.1 hf) ⟨by omega, by omega⟩ C.1 (by omega) C.h1 C.h2
  unfold A_move_0 S_move_0 at q
  rw [if_neg (by omega), if_neg (by omega), if_neg (by omega), if_neg (by omega)] at q
  exact q
theorem M_gain_0 {X : va_W} {τ : SZ} {c : Nat → Int} {h : List (Nat → Int)} {B : Int} {f r : Int} (hl0 : l.stackTraces = false) (C : CV B τ h) (e : τ 4 = c) (hB : B + 100 ≤ 100000000) (hf : 0 ≤ f ∧ f < cel c 107) (hr : 0 ≤ r ∧ r < 2) (hm : ocn c f r (-1) = 1 ∨ ocn c f r (-1) = 2 ∨ ocn c f r (-1) = 3) : LK l D A ad adV cA (.codeWith yL_gain method_19_code 5 (some .int) [(0, 7, 8, 22), (0, 7, 13, 58)]) yL_gain 22 2 12 [.ref (ad 0), .int (iI f), .int (iI r), .int (iI 0)] (wO ad cA (sz τ) ++ X) (RV ad cA X (gnb c f r (-1)) (zr τ 5 (mkm c f r (-1)))) := by
  subst e
  have q := L_gain_0 (X := X) (τ := τ) (B := B) (f := f) (r := r) (ad := ad) (adV := adV) (cA := cA) (D := D) (A := A) hl0 (rg_f C.1.1 hf) ⟨by omega, by omega⟩ C.1 (by omega) C.2.2.2.1
  unfold A_gain_0 S_gain_0 at q
  rw [if_pos ⟨hf, hr⟩, if_pos hm, if_pos ⟨hf, hr⟩, if_pos hm] at q
  exact q
theorem M_gainN_0 {X : va_W} {τ : SZ} {c : Nat → Int} {h : List (Nat → Int)} {B : Int} {f r : Int} (hl0 : l.stackTraces = false) (C : CV B τ h) (e : τ 4 = c) (hB : B + 100 ≤ 100000000) (hf : 0 ≤ f ∧ f < cel c 107) (hr : 0 ≤ r ∧ r < 2) (hm : ¬ (ocn c f r (-1) = 1 ∨ ocn c f r (-1) = 2 ∨ ocn c f r (-1) = 3)) : LK l D A ad adV cA (.codeWith yL_gain method_19_code 5 (some .int) [(0, 7, 8, 22), (0, 7, 13, 58)]) yL_gain 22 2 12 [.ref (ad 0), .int (iI f), .int (iI r), .int (iI 0)] (wO ad cA (sz τ) ++ X) (RV ad cA X (-13) (τ)) := by
  subst e
  have q := L_gain_0 (X := X) (τ := τ) (B := B) (f := f) (r := r) (ad := ad) (adV := adV) (cA := cA) (D := D) (A := A) hl0 (rg_f C.1.1 hf) ⟨by omega, by omega⟩ C.1 (by omega) C.2.2.2.1
  unfold A_gain_0 S_gain_0 at q
  rw [if_pos ⟨hf, hr⟩, if_neg hm, if_pos ⟨hf, hr⟩, if_neg hm] at q
  exact q
theorem M_move_1 {X : va_W} {τ : SZ} {c : Nat → Int} {h : List (Nat → Int)} {B : Int} {f r : Int} (hl0 : l.stackTraces = false) (C : CV B τ h) (e : τ 4 = c) (hB : B + 100 ≤ 100000000) (hf : 0 ≤ f ∧ f < cel c 107) (hr : 0 ≤ r ∧ r < 2) (hm : ocn c f r 1 = 1 ∨ ocn c f r 1 = 2 ∨ ocn c f r 1 = 3) : LK l D A ad adV cA (.codeWith yL_move method_7_code 5 (some .int) [(0, 7, 8, 22), (0, 7, 13, 16)]) yL_move 22 1 6 [.ref (ad 0), .int (iI f), .int (iI r), .int (iI 1)] (wO ad cA (sz τ) ++ X) (RV ad cA X (mkp c f r 1) (zr (hkp τ) 4 (mkm c f r 1))) := by
  subst e
  have h0 := (st_move C rfl hB (Or.inl rfl) hf hr hm).2.2
  have q := L_move_1 (X := X) (τ := τ) (B := B) (f := f) (r := r) (ad := ad) (adV := adV) (cA := cA) (D := D) (A := A) hl0 (rg_f C.1.1 hf) ⟨by omega, by omega⟩ C.1 (by omega) C.h1 C.h2
  unfold A_move_1 S_move_1 at q
  rw [if_neg (by omega), if_neg (by omega), if_neg (by omega), if_neg (by omega)] at q
  exact q
theorem M_gain_1 {X : va_W} {τ : SZ} {c : Nat → Int} {h : List (Nat → Int)} {B : Int} {f r : Int} (hl0 : l.stackTraces = false) (C : CV B τ h) (e : τ 4 = c) (hB : B + 100 ≤ 100000000) (hf : 0 ≤ f ∧ f < cel c 107) (hr : 0 ≤ r ∧ r < 2) (hm : ocn c f r 1 = 1 ∨ ocn c f r 1 = 2 ∨ ocn c f r 1 = 3) : LK l D A ad adV cA (.codeWith yL_gain method_19_code 5 (some .int) [(0, 7, 8, 22), (0, 7, 13, 58)]) yL_gain 22 2 12 [.ref (ad 0), .int (iI f), .int (iI r), .int (iI 1)] (wO ad cA (sz τ) ++ X) (RV ad cA X (gnb c f r 1) (zr τ 5 (mkm c f r 1))) := by
  subst e
  have q := L_gain_1 (X := X) (τ := τ) (B := B) (f := f) (r := r) (ad := ad) (adV := adV) (cA := cA) (D := D) (A := A) hl0 (rg_f C.1.1 hf) ⟨by omega, by omega⟩ C.1 (by omega) C.2.2.2.1
  unfold A_gain_1 S_gain_1 at q
  rw [if_pos ⟨hf, hr⟩, if_pos hm, if_pos ⟨hf, hr⟩, if_pos hm] at q
  exact q
theorem M_gainN_1 {X : va_W} {τ : SZ} {c : Nat → Int} {h : List (Nat → Int)} {B : Int} {f r : Int} (hl0 : l.stackTraces = false) (C : CV B τ h) (e : τ 4 = c) (hB : B + 100 ≤ 100000000) (hf : 0 ≤ f ∧ f < cel c 107) (hr : 0 ≤ r ∧ r < 2) (hm : ¬ (ocn c f r 1 = 1 ∨ ocn c f r 1 = 2 ∨ ocn c f r 1 = 3)) : LK l D A ad adV cA (.codeWith yL_gain method_19_code 5 (some .int) [(0, 7, 8, 22), (0, 7, 13, 58)]) yL_gain 22 2 12 [.ref (ad 0), .int (iI f), .int (iI r), .int (iI 1)] (wO ad cA (sz τ) ++ X) (RV ad cA X (-13) (τ)) := by
  subst e
  have q := L_gain_1 (X := X) (τ := τ) (B := B) (f := f) (r := r) (ad := ad) (adV := adV) (cA := cA) (D := D) (A := A) hl0 (rg_f C.1.1 hf) ⟨by omega, by omega⟩ C.1 (by omega) C.2.2.2.1
  unfold A_gain_1 S_gain_1 at q
  rw [if_pos ⟨hf, hr⟩, if_neg hm, if_pos ⟨hf, hr⟩, if_neg hm] at q
  exact q
theorem M_best_0 {X : va_W} {τ : SZ} {c : Nat → Int} {h : List (Nat → Int)} {B : Int} (hl0 : l.stackTraces = false) (C : CV B τ h) (e : τ 4 = c) (hB : B + 100 ≤ 100000000) : LK l D A ad adV cA (.codeWith yL_best method_20_code 3 (some .int) [(0, 5, 6, 14), (0, 5, 10, 58)]) yL_best 22 1 6 [.ref (ad 0), .int (iI 0)] (wO ad cA (sz τ) ++ X) (RV ad cA X (if (bsb c (4 * cel c 107).toNat).1 < 0 then -13 else (bsb c (4 * cel c 107).toNat).1 / 4) (zr τ 5 (bsd c (τ 5) (4 * cel c 107).toNat))) := by
  subst e
  have q := L_best_0 (X := X) (ad := ad) (adV := adV) (cA := cA) (D := D) (A := A) hl0 C.1 (by omega) C.2.2.2.1
  have e1 : S_best_0 τ = zr τ 5 (bsd (τ 4) (τ 5) (4 * cel (τ 4) 107).toNat) := by unfold S_best_0; split <;> rfl
  have e2 : A_best_0 (τ 4) = if (bsb (τ 4) (4 * cel (τ 4) 107).toNat).1 < 0 then -13 else (bsb (τ 4) (4 * cel (τ 4) 107).toNat).1 / 4 := by unfold A_best_0; split <;> rfl
  rw [e1, e2] at q
  exact q
theorem M_best_1 {X : va_W} {τ : SZ} {c : Nat → Int} {h : List (Nat → Int)} {B : Int} (hl0 : l.stackTraces = false) (C : CV B τ h) (e : τ 4 = c) (hB : B + 100 ≤ 100000000) : LK l D A ad adV cA (.codeWith yL_best method_20_code 3 (some .int) [(0, 5, 6, 14), (0, 5, 10, 58)]) yL_best 22 1 6 [.ref (ad 0), .int (iI 1)] (wO ad cA (sz τ) ++ X) (RV ad cA X (if (bsb c (4 * cel c 107).toNat).1 < 0 then -13 else (bsb c (4 * cel c 107).toNat).1 / 2 % 2) (zr τ 5 (bsd c (τ 5) (4 * cel c 107).toNat))) := by
  subst e
  have q := L_best_1 (X := X) (ad := ad) (adV := adV) (cA := cA) (D := D) (A := A) hl0 C.1 (by omega) C.2.2.2.1
  have e1 : S_best_1 τ = zr τ 5 (bsd (τ 4) (τ 5) (4 * cel (τ 4) 107).toNat) := by unfold S_best_1; split <;> rfl
  have e2 : A_best_1 (τ 4) = if (bsb (τ 4) (4 * cel (τ 4) 107).toNat).1 < 0 then -13 else (bsb (τ 4) (4 * cel (τ 4) 107).toNat).1 / 2 % 2 := by unfold A_best_1; split <;> rfl
  rw [e1, e2] at q
  exact q
theorem M_best_2 {X : va_W} {τ : SZ} {c : Nat → Int} {h : List (Nat → Int)} {B : Int} (hl0 : l.stackTraces = false) (C : CV B τ h) (e : τ 4 = c) (hB : B + 100 ≤ 100000000) : LK l D A ad adV cA (.codeWith yL_best method_20_code 3 (some .int) [(0, 5, 6, 14), (0, 5, 10, 58)]) yL_best 22 1 6 [.ref (ad 0), .int (iI 2)] (wO ad cA (sz τ) ++ X) (RV ad cA X (if (bsb c (4 * cel c 107).toNat).1 < 0 then -13 else 1 - (bsb c (4 * cel c 107).toNat).1 % 2) (zr τ 5 (bsd c (τ 5) (4 * cel c 107).toNat))) := by
  subst e
  have q := L_best_2 (X := X) (ad := ad) (adV := adV) (cA := cA) (D := D) (A := A) hl0 C.1 (by omega) C.2.2.2.1
  have e1 : S_best_2 τ = zr τ 5 (bsd (τ 4) (τ 5) (4 * cel (τ 4) 107).toNat) := by unfold S_best_2; split <;> rfl
  have e2 : A_best_2 (τ 4) = if (bsb (τ 4) (4 * cel (τ 4) 107).toNat).1 < 0 then -13 else 1 - (bsb (τ 4) (4 * cel (τ 4) 107).toNat).1 % 2 := by unfold A_best_2; split <;> rfl
  rw [e1, e2] at q
  exact q
theorem M_best_3 {X : va_W} {τ : SZ} {c : Nat → Int} {h : List (Nat → Int)} {B : Int} (hl0 : l.stackTraces = false) (C : CV B τ h) (e : τ 4 = c) (hB : B + 100 ≤ 100000000) : LK l D A ad adV cA (.codeWith yL_best method_20_code 3 (some .int) [(0, 5, 6, 14), (0, 5, 10, 58)]) yL_best 22 1 6 [.ref (ad 0), .int (iI 3)] (wO ad cA (sz τ) ++ X) (RV ad cA X (-12) (τ)) := by
  exact L_best_x (w := 3) hl0 ⟨by decide, by decide⟩ (by decide)
theorem M_undo {X : va_W} {τ : SZ} {c : Nat → Int} {h : List (Nat → Int)} {B : Int} (hl0 : l.stackTraces = false) (C : CV B τ (c :: h)) (hB : B + 100 ≤ 100000000) : LK l D A ad adV cA (.codeWith yL_undo method_30_code 2 (some .int) [(0, 4, 5, 104)]) yL_undo 22 1 6 [.ref (ad 0)] (wO ad cA (sz τ) ++ X) (RV ad cA X (τ 14 2 - 1) (hpb τ)) ∧ (0 ≤ τ 14 2 - 1 ∧ τ 14 2 - 1 ≤ 8) ∧ (hpb τ) 4 = c ∧ CV B (hpb τ) h := by
  have g1 := C.2.1.2.1
  have g2 := C.2.1.2.2.1
  rw [List.length_cons] at g1 g2
  have h0 : ¬ τ 14 2 = 0 := by omega
  have q := L_undo (X := X) (ad := ad) (adV := adV) (cA := cA) (D := D) (A := A) hl0 C.h1 C.h2
  unfold A_undo S_undo at q
  rw [if_neg h0, if_neg h0] at q
  exact ⟨q, ⟨by omega, by omega⟩, C.back⟩
theorem M_passN {X : va_W} {τ : SZ} {c : Nat → Int} {h : List (Nat → Int)} {B : Int} (hl0 : l.stackTraces = false) (C : CV B τ h) (e : τ 4 = c) (hB : B + 100 ≤ 100000000) (ho : obP c = 3) : LK l D A ad adV cA (.codeWith yL_pass method_8_code 2 (some .int) [(0, 4, 5, 16)]) yL_pass 22 1 6 [.ref (ad 0)] (wO ad cA (sz τ) ++ X) (RV ad cA X (-1) (rkp τ 5 (fsm c (cel c 107).toNat 0))) := by
  subst e
  have q := L_pass (X := X) (ad := ad) (adV := adV) (cA := cA) (D := D) (A := A) hl0 C.1 (by omega) C.h1 C.h2
  unfold A_pass S_pass at q
  rw [if_pos ho, if_pos ho] at q
  exact q
theorem M_pass {X : va_W} {τ : SZ} {c : Nat → Int} {h : List (Nat → Int)} {B : Int} (hl0 : l.stackTraces = false) (C : CV B τ h) (e : τ 4 = c) (hB : B + 100 ≤ 100000000) (ho : ¬ obP c = 3) : LK l D A ad adV cA (.codeWith yL_pass method_8_code 2 (some .int) [(0, 4, 5, 16)]) yL_pass 22 1 6 [.ref (ad 0)] (wO ad cA (sz τ) ++ X) (RV ad cA X (cel (psT c) 108) (zr (hkp τ) 4 (psT c))) := by
  subst e
  have q := L_pass (X := X) (ad := ad) (adV := adV) (cA := cA) (D := D) (A := A) hl0 C.1 (by omega) C.h1 C.h2
  unfold A_pass S_pass at q
  rw [if_neg ho, if_neg ho] at q
  exact q
theorem M_refusal_0 {X : va_W} {τ : SZ} {h : List (Nat → Int)} {B : Int} (hl0 : l.stackTraces = false) (C : CV B τ h) (hc : 0 < τ 9 2) : LK l D A ad adV cA (.codeWith yL_refusal method_29_code 4 (some .int) [(0, 6, 7, 14), (0, 6, 12, 58)]) yL_refusal 22 1 6 [.ref (ad 0), .int (iI 0), .int (iI 0)] (wO ad cA (sz τ) ++ X) (RV ad cA X (τ 10 0) (τ)) := by
  have q := L_refusal_0 (X := X) (ad := ad) (adV := adV) (cA := cA) (D := D) (A := A) (z := 0) hl0 ⟨by decide, by decide⟩ C.2.2.2.2.1
  exact q.to (by unfold A_refusal_0; rw [if_neg (by decide), if_neg (by omega)]; rfl)
end MVS
