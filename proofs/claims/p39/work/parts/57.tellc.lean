/-! what is told of a move, over a row: printed by wip/p39/db57.py -/
section TLC
variable {l : Launch} {D : va_G} {A : Nat → Prop} {ad adV : Nat → Nat} {cA : Nat → ClassId}
theorem N_would_0 {X : va_W} {τ : SZ} {c : Nat → Int} {B : Int} {f r : Int} (hl0 : l.stackTraces = false) (hS : Sh B c) (e : τ 4 = c) (hf : 0 ≤ f ∧ f < cel c 107) (hr : 0 ≤ r ∧ r < 2) : LK l D A ad adV cA (.codeWith yL_would method_13_code 5 (some .int) [(0, 7, 8, 22)]) yL_would 22 1 6 [.ref (ad 0), .int (iI f), .int (iI r), .int (iI 0)] (wO ad cA (sz τ) ++ X) (RV ad cA X (if ocn c f r (-1) = 1 ∨ ocn c f r (-1) = 2 ∨ ocn c f r (-1) = 3 then ocn c f r (-1) else 0) (τ)) := by
  subst e
  exact (L_would_0 (X := X) (ad := ad) (adV := adV) (cA := cA) (D := D) (A := A) hl0 (rg_f hS hf) ⟨by omega, by omega⟩ hS).to (by unfold A_would_0; rw [if_pos ⟨hf, hr⟩])
theorem N_why_0_0 {X : va_W} {τ : SZ} {c : Nat → Int} {B : Int} {f r : Int} (hl0 : l.stackTraces = false) (hS : Sh B c) (e : τ 4 = c) (hf : 0 ≤ f ∧ f < cel c 107) (hr : 0 ≤ r ∧ r < 2) : LK l D A ad adV cA (.codeWith yL_why method_14_code 6 (some .int) [(0, 9, 10, 22), (0, 9, 15, 58)]) yL_why 22 2 12 [.ref (ad 0), .int (iI f), .int (iI r), .int (iI 0), .int (iI 0)] (wO ad cA (sz τ) ++ X) (RV ad cA X (if ocn c f r (-1) = 1 ∨ ocn c f r (-1) = 2 ∨ ocn c f r (-1) = 3 then -13 else ocn c f r (-1)) (τ)) := by
  subst e
  exact (L_why_0_0 (X := X) (ad := ad) (adV := adV) (cA := cA) (D := D) (A := A) hl0 (rg_f hS hf) ⟨by omega, by omega⟩ hS).to (by unfold A_why_0_0; rw [if_pos ⟨hf, hr⟩])
theorem N_why_0_1 {X : va_W} {τ : SZ} {c : Nat → Int} {B : Int} {f r : Int} (hl0 : l.stackTraces = false) (hS : Sh B c) (e : τ 4 = c) (hf : 0 ≤ f ∧ f < cel c 107) (hr : 0 ≤ r ∧ r < 2) : LK l D A ad adV cA (.codeWith yL_why method_14_code 6 (some .int) [(0, 9, 10, 22), (0, 9, 15, 58)]) yL_why 22 2 12 [.ref (ad 0), .int (iI f), .int (iI r), .int (iI 0), .int (iI 1)] (wO ad cA (sz τ) ++ X) (RV ad cA X (if ocn c f r (-1) = 1 ∨ ocn c f r (-1) = 2 ∨ ocn c f r (-1) = 3 then -13 else dtl c (ocn c f r (-1)) f r (-1)) (τ)) := by
  subst e
  exact (L_why_0_1 (X := X) (ad := ad) (adV := adV) (cA := cA) (D := D) (A := A) hl0 (rg_f hS hf) ⟨by omega, by omega⟩ hS).to (by unfold A_why_0_1; rw [if_pos ⟨hf, hr⟩])
theorem N_to_0 {X : va_W} {τ : SZ} {c : Nat → Int} {B : Int} {f r : Int} (hl0 : l.stackTraces = false) (hS : Sh B c) (e : τ 4 = c) (hf : 0 ≤ f ∧ f < cel c 107) (hr : 0 ≤ r ∧ r < 2) : LK l D A ad adV cA (.codeWith yL_to method_15_code 5 (some .int) [(0, 7, 8, 22), (0, 7, 13, 58)]) yL_to 22 2 12 [.ref (ad 0), .int (iI f), .int (iI r), .int (iI 0)] (wO ad cA (sz τ) ++ X) (RV ad cA X (if ocn c f r (-1) = 1 ∨ ocn c f r (-1) = 2 ∨ ocn c f r (-1) = 3 then gol c f r (-1) else -13) (τ)) := by
  subst e
  exact (L_to_0 (X := X) (ad := ad) (adV := adV) (cA := cA) (D := D) (A := A) hl0 (rg_f hS hf) ⟨by omega, by omega⟩ hS).to (by unfold A_to_0; rw [if_pos ⟨hf, hr⟩])
theorem N_would_1 {X : va_W} {τ : SZ} {c : Nat → Int} {B : Int} {f r : Int} (hl0 : l.stackTraces = false) (hS : Sh B c) (e : τ 4 = c) (hf : 0 ≤ f ∧ f < cel c 107) (hr : 0 ≤ r ∧ r < 2) : LK l D A ad adV cA (.codeWith yL_would method_13_code 5 (some .int) [(0, 7, 8, 22)]) yL_would 22 1 6 [.ref (ad 0), .int (iI f), .int (iI r), .int (iI 1)] (wO ad cA (sz τ) ++ X) (RV ad cA X (if ocn c f r 1 = 1 ∨ ocn c f r 1 = 2 ∨ ocn c f r 1 = 3 then ocn c f r 1 else 0) (τ)) := by
  subst e
  exact (L_would_1 (X := X) (ad := ad) (adV := adV) (cA := cA) (D := D) (A := A) hl0 (rg_f hS hf) ⟨by omega, by omega⟩ hS).to (by unfold A_would_1; rw [if_pos ⟨hf, hr⟩])
theorem N_why_1_0 {X : va_W} {τ : SZ} {c : Nat → Int} {B : Int} {f r : Int} (hl0 : l.stackTraces = false) (hS : Sh B c) (e : τ 4 = c) (hf : 0 ≤ f ∧ f < cel c 107) (hr : 0 ≤ r ∧ r < 2) : LK l D A ad adV cA (.codeWith yL_why method_14_code 6 (some .int) [(0, 9, 10, 22), (0, 9, 15, 58)]) yL_why 22 2 12 [.ref (ad 0), .int (iI f), .int (iI r), .int (iI 1), .int (iI 0)] (wO ad cA (sz τ) ++ X) (RV ad cA X (if ocn c f r 1 = 1 ∨ ocn c f r 1 = 2 ∨ ocn c f r 1 = 3 then -13 else ocn c f r 1) (τ)) := by
  subst e
  exact (L_why_1_0 (X := X) (ad := ad) (adV := adV) (cA := cA) (D := D) (A := A) hl0 (rg_f hS hf) ⟨by omega, by omega⟩ hS).to (by unfold A_why_1_0; rw [if_pos ⟨hf, hr⟩])
theorem N_why_1_1 {X : va_W} {τ : SZ} {c : Nat → Int} {B : Int} {f r : Int} (hl0 : l.stackTraces = false) (hS : Sh B c) (e : τ 4 = c) (hf : 0 ≤ f ∧ f < cel c 107) (hr : 0 ≤ r ∧ r < 2) : LK l D A ad adV cA (.codeWith yL_why method_14_code 6 (some .int) [(0, 9, 10, 22), (0, 9, 15, 58)]) yL_why 22 2 12 [.ref (ad 0), .int (iI f), .int (iI r), .int (iI 1), .int (iI 1)] (wO ad cA (sz τ) ++ X) (RV ad cA X (if ocn c f r 1 = 1 ∨ ocn c f r 1 = 2 ∨ ocn c f r 1 = 3 then -13 else dtl c (ocn c f r 1) f r 1) (τ)) := by
  subst e
  exact (L_why_1_1 (X := X) (ad := ad) (adV := adV) (cA := cA) (D := D) (A := A) hl0 (rg_f hS hf) ⟨by omega, by omega⟩ hS).to (by unfold A_why_1_1; rw [if_pos ⟨hf, hr⟩])
theorem N_to_1 {X : va_W} {τ : SZ} {c : Nat → Int} {B : Int} {f r : Int} (hl0 : l.stackTraces = false) (hS : Sh B c) (e : τ 4 = c) (hf : 0 ≤ f ∧ f < cel c 107) (hr : 0 ≤ r ∧ r < 2) : LK l D A ad adV cA (.codeWith yL_to method_15_code 5 (some .int) [(0, 7, 8, 22), (0, 7, 13, 58)]) yL_to 22 2 12 [.ref (ad 0), .int (iI f), .int (iI r), .int (iI 1)] (wO ad cA (sz τ) ++ X) (RV ad cA X (if ocn c f r 1 = 1 ∨ ocn c f r 1 = 2 ∨ ocn c f r 1 = 3 then gol c f r 1 else -13) (τ)) := by
  subst e
  exact (L_to_1 (X := X) (ad := ad) (adV := adV) (cA := cA) (D := D) (A := A) hl0 (rg_f hS hf) ⟨by omega, by omega⟩ hS).to (by unfold A_to_1; rw [if_pos ⟨hf, hr⟩])
theorem X_would_1 {X : va_W} {τ : SZ} {c : Nat → Int} {B : Int} {f r : Int} (hl0 : l.stackTraces = false) (hS : Sh B c) (e : τ 4 = c) (ho : ¬ ((0 ≤ f ∧ f < cel c 107) ∧ (0 ≤ r ∧ r < 2))) (hf : Rng f) (hr : Rng r) : LK l D A ad adV cA (.codeWith yL_would method_13_code 5 (some .int) [(0, 7, 8, 22)]) yL_would 22 1 6 [.ref (ad 0), .int (iI f), .int (iI r), .int (iI 1)] (wO ad cA (sz τ) ++ X) (RV ad cA X (-11) (τ)) := by
  subst e
  exact (L_would_1 (X := X) (ad := ad) (adV := adV) (cA := cA) (D := D) (A := A) hl0 hf hr hS).to (by unfold A_would_1; rw [if_neg ho])
theorem X_why_1_1 {X : va_W} {τ : SZ} {c : Nat → Int} {B : Int} {f r : Int} (hl0 : l.stackTraces = false) (hS : Sh B c) (e : τ 4 = c) (ho : ¬ ((0 ≤ f ∧ f < cel c 107) ∧ (0 ≤ r ∧ r < 2))) (hf : Rng f) (hr : Rng r) : LK l D A ad adV cA (.codeWith yL_why method_14_code 6 (some .int) [(0, 9, 10, 22), (0, 9, 15, 58)]) yL_why 22 2 12 [.ref (ad 0), .int (iI f), .int (iI r), .int (iI 1), .int (iI 1)] (wO ad cA (sz τ) ++ X) (RV ad cA X (-11) (τ)) := by
  subst e
  exact (L_why_1_1 (X := X) (ad := ad) (adV := adV) (cA := cA) (D := D) (A := A) hl0 hf hr hS).to (by unfold A_why_1_1; rw [if_neg ho])
theorem X_to_0 {X : va_W} {τ : SZ} {c : Nat → Int} {B : Int} {f r : Int} (hl0 : l.stackTraces = false) (hS : Sh B c) (e : τ 4 = c) (ho : ¬ ((0 ≤ f ∧ f < cel c 107) ∧ (0 ≤ r ∧ r < 2))) (hf : Rng f) (hr : Rng r) : LK l D A ad adV cA (.codeWith yL_to method_15_code 5 (some .int) [(0, 7, 8, 22), (0, 7, 13, 58)]) yL_to 22 2 12 [.ref (ad 0), .int (iI f), .int (iI r), .int (iI 0)] (wO ad cA (sz τ) ++ X) (RV ad cA X (-11) (τ)) := by
  subst e
  exact (L_to_0 (X := X) (ad := ad) (adV := adV) (cA := cA) (D := D) (A := A) hl0 hf hr hS).to (by unfold A_to_0; rw [if_neg ho])
theorem X_gain_1 {X : va_W} {τ : SZ} {c : Nat → Int} {h : List (Nat → Int)} {B : Int} {f r : Int} (hl0 : l.stackTraces = false) (C : CV B τ h) (e : τ 4 = c) (hB : B + 100 ≤ 100000000) (ho : ¬ ((0 ≤ f ∧ f < cel c 107) ∧ (0 ≤ r ∧ r < 2))) (hf : Rng f) (hr : Rng r) : LK l D A ad adV cA (.codeWith yL_gain method_19_code 5 (some .int) [(0, 7, 8, 22), (0, 7, 13, 58)]) yL_gain 22 2 12 [.ref (ad 0), .int (iI f), .int (iI r), .int (iI 1)] (wO ad cA (sz τ) ++ X) (RV ad cA X (-11) (τ)) := by
  subst e
  have q := L_gain_1 (X := X) (ad := ad) (adV := adV) (cA := cA) (D := D) (A := A) hl0 hf hr C.1 (by omega) C.2.2.2.1
  unfold A_gain_1 S_gain_1 at q
  rw [if_neg ho, if_neg ho] at q
  exact q
theorem N_thr {X : va_W} {τ : SZ} {c : Nat → Int} {B : Int} {f : Int} (hl0 : l.stackTraces = false) (hS : Sh B c) (e : τ 4 = c) (hf : 0 ≤ f ∧ f < cel c 107) : LK l D A ad adV cA (.codeWith yL_isThreatened method_18_code 3 (some .int) [(0, 13, 14, 22)]) yL_isThreatened 22 1 6 [.ref (ad 0), .int (iI f)] (wO ad cA (sz τ) ++ X) (RV ad cA X (b2 (0 < jov c f)) (τ)) := by
  subst e
  exact (L_isThreatened (X := X) (ad := ad) (adV := adV) (cA := cA) (D := D) (A := A) hl0 (rg_f hS hf) hS).to (by unfold A_isThreatened; rw [if_pos hf])
theorem X_thr {X : va_W} {τ : SZ} {c : Nat → Int} {B : Int} {f : Int} (hl0 : l.stackTraces = false) (hS : Sh B c) (e : τ 4 = c) (ho : ¬ (0 ≤ f ∧ f < cel c 107)) (hf : Rng f) : LK l D A ad adV cA (.codeWith yL_isThreatened method_18_code 3 (some .int) [(0, 13, 14, 22)]) yL_isThreatened 22 1 6 [.ref (ad 0), .int (iI f)] (wO ad cA (sz τ) ++ X) (RV ad cA X (-11) (τ)) := by
  subst e
  exact (L_isThreatened (X := X) (ad := ad) (adV := adV) (cA := cA) (D := D) (A := A) hl0 hf hS).to (by unfold A_isThreatened; rw [if_neg ho])
theorem N_moves_0 {X : va_W} {τ : SZ} {c : Nat → Int} {B : Int} {x : Int} {N : Nat} (hl0 : l.stackTraces = false) (hS : Sh B c) (e : τ 4 = c) (hN : cel c 107 = (N : Int)) (hx : 0 ≤ x ∧ x < 2) : LK l D A ad adV cA (.codeWith yL_moves method_16_code 4 (some .int) [(0, 6, 7, 14)]) yL_moves 22 1 6 [.ref (ad 0), .int (iI x), .int (iI 0)] (wO ad cA (sz τ) ++ X) (RV ad cA X (mbf c x N) (τ)) := by
  subst e
  exact (L_moves_0 (X := X) (ad := ad) (adV := adV) (cA := cA) (D := D) (A := A) hl0 ⟨by omega, by omega⟩ hS hN).to (by unfold A_moves_0; rw [if_pos hx]; (try rw [hN]); try rfl)
theorem X_moves_0 {X : va_W} {τ : SZ} {c : Nat → Int} {B : Int} {x : Int} {N : Nat} (hl0 : l.stackTraces = false) (hS : Sh B c) (e : τ 4 = c) (hN : cel c 107 = (N : Int)) (hx : ¬ (0 ≤ x ∧ x < 2)) (hR : Rng x) : LK l D A ad adV cA (.codeWith yL_moves method_16_code 4 (some .int) [(0, 6, 7, 14)]) yL_moves 22 1 6 [.ref (ad 0), .int (iI x), .int (iI 0)] (wO ad cA (sz τ) ++ X) (RV ad cA X (-12) (τ)) := by
  subst e
  exact (L_moves_0 (X := X) (ad := ad) (adV := adV) (cA := cA) (D := D) (A := A) hl0 hR hS hN).to (by unfold A_moves_0; rw [if_neg hx])
theorem N_moves_1 {X : va_W} {τ : SZ} {c : Nat → Int} {B : Int} {x : Int} {N : Nat} (hl0 : l.stackTraces = false) (hS : Sh B c) (e : τ 4 = c) (hN : cel c 107 = (N : Int)) (hx : 0 ≤ x ∧ x < 2) : LK l D A ad adV cA (.codeWith yL_moves method_16_code 4 (some .int) [(0, 6, 7, 14)]) yL_moves 22 1 6 [.ref (ad 0), .int (iI x), .int (iI 1)] (wO ad cA (sz τ) ++ X) (RV ad cA X (mbp c x) (τ)) := by
  subst e
  exact (L_moves_1 (X := X) (ad := ad) (adV := adV) (cA := cA) (D := D) (A := A) hl0 ⟨by omega, by omega⟩ hS hN).to (by unfold A_moves_1; rw [if_pos hx]; (try rw [hN]); try rfl)
theorem X_moves_1 {X : va_W} {τ : SZ} {c : Nat → Int} {B : Int} {x : Int} {N : Nat} (hl0 : l.stackTraces = false) (hS : Sh B c) (e : τ 4 = c) (hN : cel c 107 = (N : Int)) (hx : ¬ (0 ≤ x ∧ x < 2)) (hR : Rng x) : LK l D A ad adV cA (.codeWith yL_moves method_16_code 4 (some .int) [(0, 6, 7, 14)]) yL_moves 22 1 6 [.ref (ad 0), .int (iI x), .int (iI 1)] (wO ad cA (sz τ) ++ X) (RV ad cA X (-12) (τ)) := by
  subst e
  exact (L_moves_1 (X := X) (ad := ad) (adV := adV) (cA := cA) (D := D) (A := A) hl0 hR hS hN).to (by unfold A_moves_1; rw [if_neg hx])
theorem N_captures_0 {X : va_W} {τ : SZ} {c : Nat → Int} {B : Int} {x : Int} {N : Nat} (hl0 : l.stackTraces = false) (hS : Sh B c) (e : τ 4 = c) (hN : cel c 107 = (N : Int)) (hx : 0 ≤ x ∧ x < 2) : LK l D A ad adV cA (.codeWith yL_captures method_17_code 4 (some .int) [(0, 6, 7, 14)]) yL_captures 22 1 6 [.ref (ad 0), .int (iI x), .int (iI 0)] (wO ad cA (sz τ) ++ X) (RV ad cA X (cbj c x N) (τ)) := by
  subst e
  exact (L_captures_0 (X := X) (ad := ad) (adV := adV) (cA := cA) (D := D) (A := A) hl0 ⟨by omega, by omega⟩ hS hN).to (by unfold A_captures_0; rw [if_pos hx]; (try rw [hN]); try rfl)
theorem X_captures_0 {X : va_W} {τ : SZ} {c : Nat → Int} {B : Int} {x : Int} {N : Nat} (hl0 : l.stackTraces = false) (hS : Sh B c) (e : τ 4 = c) (hN : cel c 107 = (N : Int)) (hx : ¬ (0 ≤ x ∧ x < 2)) (hR : Rng x) : LK l D A ad adV cA (.codeWith yL_captures method_17_code 4 (some .int) [(0, 6, 7, 14)]) yL_captures 22 1 6 [.ref (ad 0), .int (iI x), .int (iI 0)] (wO ad cA (sz τ) ++ X) (RV ad cA X (-12) (τ)) := by
  subst e
  exact (L_captures_0 (X := X) (ad := ad) (adV := adV) (cA := cA) (D := D) (A := A) hl0 hR hS hN).to (by unfold A_captures_0; rw [if_neg hx])
theorem N_captures_1 {X : va_W} {τ : SZ} {c : Nat → Int} {B : Int} {x : Int} {N : Nat} (hl0 : l.stackTraces = false) (hS : Sh B c) (e : τ 4 = c) (hN : cel c 107 = (N : Int)) (hx : 0 ≤ x ∧ x < 2) : LK l D A ad adV cA (.codeWith yL_captures method_17_code 4 (some .int) [(0, 6, 7, 14)]) yL_captures 22 1 6 [.ref (ad 0), .int (iI x), .int (iI 1)] (wO ad cA (sz τ) ++ X) (RV ad cA X (cbd c x N) (τ)) := by
  subst e
  exact (L_captures_1 (X := X) (ad := ad) (adV := adV) (cA := cA) (D := D) (A := A) hl0 ⟨by omega, by omega⟩ hS hN).to (by unfold A_captures_1; rw [if_pos hx]; (try rw [hN]); try rfl)
theorem X_captures_1 {X : va_W} {τ : SZ} {c : Nat → Int} {B : Int} {x : Int} {N : Nat} (hl0 : l.stackTraces = false) (hS : Sh B c) (e : τ 4 = c) (hN : cel c 107 = (N : Int)) (hx : ¬ (0 ≤ x ∧ x < 2)) (hR : Rng x) : LK l D A ad adV cA (.codeWith yL_captures method_17_code 4 (some .int) [(0, 6, 7, 14)]) yL_captures 22 1 6 [.ref (ad 0), .int (iI x), .int (iI 1)] (wO ad cA (sz τ) ++ X) (RV ad cA X (-12) (τ)) := by
  subst e
  exact (L_captures_1 (X := X) (ad := ad) (adV := adV) (cA := cA) (D := D) (A := A) hl0 hR hS hN).to (by unfold A_captures_1; rw [if_neg hx])
theorem gol_1 {c : Nat → Int} {f r s : Int} (h : oco c f r s = 1) : gol c f r s = cel c (0 + f * 6 + (1 + r)) + s := by
  have q := oco_nx (c := c) (f := f) (r := r) (s := s) (by omega)
  have w := oco_1.mp h
  unfold gol
  rw [if_pos ⟨q, by have e := w.2.2.2; unfold whz at e; rw [if_pos q] at e; exact e⟩]
theorem gol_2 {c : Nat → Int} {f r s : Int} (h : oco c f r s = 2 ∨ oco c f r s = 3) : gol c f r s = cel c (0 + f * 6 + (1 + r)) + s + s := by
  have q := oco_nx (c := c) (f := f) (r := r) (s := s) (by omega)
  have w := (oco_23.mp h).2.2.2.1
  unfold gol
  exact if_neg fun z => w (by unfold whz; rw [if_pos q]; exact z.2)
/-- cells behind are let go -/
theorem wv_drop {s : State} {H : Heap} {locs : List Loc} {V Y : va_W} (h : WV D A s (V ++ Y) H locs) : WV D A s V H locs := ⟨vP_l h.1, vD_l h.2.1, h.2.2⟩
theorem c_well {τ : SZ} {c : Nat → Int} {B : Int} {N : Nat} (hI : Iv B c) (e : τ 4 = c) (hN : cel c 107 = (N : Int)) : RZ 9 m7_isWell [.inl 0] τ (.inl (some (.inr 1), τ)) := by
  subst e
  refine c_isWell hI.1 hN ⟨mbf_mbp hI hN, cbj_cbd hI (by omega) hN⟩ ⟨mbf_mbp hI hN, cbj_cbd hI (by omega) hN⟩ (fun k hk => ?_) hI.2.2
  have h0 := Co.whp hI (f := (k : Int)) (r := 0) ⟨by omega, by omega⟩ (by omega)
  have h1 := Co.whp hI (f := (k : Int)) (r := 1) ⟨by omega, by omega⟩ (by omega)
  exact ⟨h0, h1⟩
end TLC
