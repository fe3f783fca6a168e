/-! the wrappers that only tell, over the row of numbers: printed by wip/p39/db42.py -/
section TEL
variable {l : Launch} {D : va_G} {A : Nat → Prop} {ad adV : Nat → Nat} {cA : Nat → ClassId}
/-- a number, and the state behind it -/
def RV (ad : Nat → Nat) (cA : Nat → ClassId) (X : va_W) (k : Int) (τ : SZ) (v : Option Value) (V' : va_W) : Prop := v = some (.int (iI k)) ∧ V' = wO ad cA (sz τ) ++ X
theorem LK.rv {w : Jvm.Cond} {y : MethodName} {f mc ms : Nat} {as : List Value} {V X : va_W} {g : Int → Int} {ks : List (String × Int)} {r : RSZ} {k : Int} {τ : SZ} (h : LK l D A ad adV cA w y f mc ms as V (WGz ad cA X g ks r)) (e : ansK g ks r = (k, τ)) : LK l D A ad adV cA w y f mc ms as V (RV ad cA X k τ) := by
  have e2 : WGz ad cA X g ks r = RV ad cA X k τ := by
    funext v V'
    unfold WGz RV
    rw [e]
  rw [← e2]
  exact h
theorem ansK_x {g : Int → Int} {ks : List (String × Int)} {E : String} {τ : SZ} {k : Int} (h : kof ks E = k) : ansK g ks (.inr (E, τ)) = (k, τ) := by rw [← h]; rfl
theorem zBz_b2 {P : Prop} [Decidable P] : zBz (b2 P) = b2 P := by
  unfold b2 zBz
  split <;> rfl
def A_of (c : Nat → Int) (f : Int) (w : Int) : Int := if (0 ≤ f ∧ f < cel c 107) then (if 0 ≤ w ∧ w < 6 then ((cel c (0 + f * 6 + w))) else ((-12))) else ((-11))
theorem L_of {X : va_W} {f : Int} {w : Int} {τ : SZ} {B : Int} (hl0 : l.stackTraces = false) (hf : Rng f) (hw : Rng w) (hS : Sh B (τ 4)) : LK l D A ad adV cA (.codeWith yL_of method_9_code 4 (some .int) [(0, 6, 7, 22), (0, 6, 11, 14)]) yL_of 22 2 12 [.ref (ad 0), .int (iI f), .int (iI w)] (wO ad cA (sz τ) ++ X) (RV ad cA X (A_of (τ 4) f w) τ) := by
  have h := (c_ferryOf (τ := τ) hf hw hS).mono (show 6 ≤ 12 by decide)
  refine (w_of hl0 h ?_).rv ?_
  · (repeat' split) <;> (first | exact Or.inl ⟨_, _, rfl⟩ | exact Or.inr ⟨0, _, _, rfl, rfl⟩ | exact Or.inr ⟨1, _, _, rfl, rfl⟩ | exact Or.inr ⟨2, _, _, rfl, rfl⟩)
  · unfold A_of
    (repeat' split) <;> first | rfl | contradiction | exact ansK_x kof_0 | exact ansK_x (kof_1 (by decide)) | exact ansK_x (kof_2 (by decide) (by decide))
def A_at (c : Nat → Int) (r : Int) (p : Int) : Int := if (0 ≤ r ∧ r < 2) ∧ (0 ≤ p ∧ p < 12) then ((whz c r p)) else ((-11))
theorem L_at {X : va_W} {r : Int} {p : Int} {τ : SZ} (hl0 : l.stackTraces = false) (hr : Rng r) (hp : Rng p) : LK l D A ad adV cA (.codeWith yL_at method_10_code 4 (some .int) [(0, 6, 7, 22)]) yL_at 22 1 6 [.ref (ad 0), .int (iI r), .int (iI p)] (wO ad cA (sz τ) ++ X) (RV ad cA X (A_at (τ 4) r p) τ) := by
  have h := (c_at (τ := τ) hr hp).mono (show 6 ≤ 12 by decide)
  refine (w_at hl0 h ?_).rv ?_
  · (repeat' split) <;> (first | exact Or.inl ⟨_, _, rfl⟩ | exact Or.inr ⟨0, _, _, rfl, rfl⟩ | exact Or.inr ⟨1, _, _, rfl, rfl⟩ | exact Or.inr ⟨2, _, _, rfl, rfl⟩)
  · unfold A_at
    (repeat' split) <;> first | rfl | contradiction | exact ansK_x kof_0 | exact ansK_x (kof_1 (by decide)) | exact ansK_x (kof_2 (by decide) (by decide))
def A_lockAt (c : Nat → Int) (r : Int) (p : Int) : Int := if (0 ≤ r ∧ r < 2) ∧ (0 ≤ p ∧ p < 12) then ((usz c r p)) else ((-11))
theorem L_lockAt {X : va_W} {r : Int} {p : Int} {τ : SZ} (hl0 : l.stackTraces = false) (hr : Rng r) (hp : Rng p) : LK l D A ad adV cA (.codeWith yL_lockAt method_11_code 4 (some .int) [(0, 6, 7, 22)]) yL_lockAt 22 1 6 [.ref (ad 0), .int (iI r), .int (iI p)] (wO ad cA (sz τ) ++ X) (RV ad cA X (A_lockAt (τ 4) r p) τ) := by
  have h := (c_lockAt (τ := τ) hr hp).mono (show 6 ≤ 12 by decide)
  refine (w_lockAt hl0 h ?_).rv ?_
  · (repeat' split) <;> (first | exact Or.inl ⟨_, _, rfl⟩ | exact Or.inr ⟨0, _, _, rfl, rfl⟩ | exact Or.inr ⟨1, _, _, rfl, rfl⟩ | exact Or.inr ⟨2, _, _, rfl, rfl⟩)
  · unfold A_lockAt
    (repeat' split) <;> first | rfl | contradiction | exact ansK_x kof_0 | exact ansK_x (kof_1 (by decide)) | exact ansK_x (kof_2 (by decide) (by decide))
def A_isFog (c : Nat → Int) (r : Int) (p : Int) : Int := if (0 ≤ r ∧ r < 2) ∧ (0 ≤ p ∧ p < 12) then ((b2 (fgd c r p))) else ((-11))
theorem L_isFog {X : va_W} {r : Int} {p : Int} {τ : SZ} {B : Int} (hl0 : l.stackTraces = false) (hr : Rng r) (hp : Rng p) (hS : Sh B (τ 4)) : LK l D A ad adV cA (.codeWith yL_isFog method_12_code 4 (some .int) [(0, 14, 15, 22)]) yL_isFog 22 1 6 [.ref (ad 0), .int (iI r), .int (iI p)] (wO ad cA (sz τ) ++ X) (RV ad cA X (A_isFog (τ 4) r p) τ) := by
  have h := (c_isFog (τ := τ) hr hp hS).mono (show 6 ≤ 12 by decide)
  refine (w_isFog hl0 h ?_).rv ?_
  · refine ⟨by (repeat' split) <;> (first | exact Or.inl ⟨_, _, rfl⟩ | exact Or.inr ⟨0, _, _, rfl, rfl⟩ | exact Or.inr ⟨1, _, _, rfl, rfl⟩ | exact Or.inr ⟨2, _, _, rfl, rfl⟩), fun e => ?_⟩
    (repeat' split at e) <;> first | (cases e; exact b2_or) | cases e
  · unfold A_isFog
    (repeat' split) <;> first | rfl | contradiction | exact ansK_x kof_0 | (exact congrArg (fun x => (x, τ)) zBz_b2)
def A_would_0 (c : Nat → Int) (f : Int) (r : Int) : Int := if (0 ≤ f ∧ f < cel c 107) ∧ (0 ≤ r ∧ r < 2) then ((if (ocn c f r (-1) = 1 ∨ ocn c f r (-1) = 2 ∨ ocn c f r (-1) = 3) then ocn c f r (-1) else 0)) else ((-11))
theorem L_would_0 {X : va_W} {f : Int} {r : Int} {τ : SZ} {B : Int} (hl0 : l.stackTraces = false) (hf : Rng f) (hr : Rng r) (hS : Sh B (τ 4)) : LK l D A ad adV cA (.codeWith yL_would method_13_code 5 (some .int) [(0, 7, 8, 22)]) yL_would 22 1 6 [.ref (ad 0), .int (iI f), .int (iI r), .int (iI 0)] (wO ad cA (sz τ) ++ X) (RV ad cA X (A_would_0 (τ 4) f r) τ) := by
  have h := (c_would_0 (τ := τ) hf hr hS).mono (show 7 ≤ 12 by decide)
  refine (w_would hl0 h ?_).rv ?_
  · (repeat' split) <;> (first | exact Or.inl ⟨_, _, rfl⟩ | exact Or.inr ⟨0, _, _, rfl, rfl⟩ | exact Or.inr ⟨1, _, _, rfl, rfl⟩ | exact Or.inr ⟨2, _, _, rfl, rfl⟩)
  · unfold A_would_0
    (repeat' split) <;> first | rfl | contradiction | exact ansK_x kof_0 | exact ansK_x (kof_1 (by decide)) | exact ansK_x (kof_2 (by decide) (by decide))
def A_to_0 (c : Nat → Int) (f : Int) (r : Int) : Int := if (0 ≤ f ∧ f < cel c 107) ∧ (0 ≤ r ∧ r < 2) then (if (ocn c f r (-1) = 1 ∨ ocn c f r (-1) = 2 ∨ ocn c f r (-1) = 3) then ((gol c f r (-1))) else ((-13))) else ((-11))
theorem L_to_0 {X : va_W} {f : Int} {r : Int} {τ : SZ} {B : Int} (hl0 : l.stackTraces = false) (hf : Rng f) (hr : Rng r) (hS : Sh B (τ 4)) : LK l D A ad adV cA (.codeWith yL_to method_15_code 5 (some .int) [(0, 7, 8, 22), (0, 7, 13, 58)]) yL_to 22 2 12 [.ref (ad 0), .int (iI f), .int (iI r), .int (iI 0)] (wO ad cA (sz τ) ++ X) (RV ad cA X (A_to_0 (τ 4) f r) τ) := by
  have h := (c_to_0 (τ := τ) hf hr hS).mono (show 7 ≤ 12 by decide)
  refine (w_to hl0 h ?_).rv ?_
  · (repeat' split) <;> (first | exact Or.inl ⟨_, _, rfl⟩ | exact Or.inr ⟨0, _, _, rfl, rfl⟩ | exact Or.inr ⟨1, _, _, rfl, rfl⟩ | exact Or.inr ⟨2, _, _, rfl, rfl⟩)
  · unfold A_to_0
    (repeat' split) <;> first | rfl | contradiction | exact ansK_x kof_0 | exact ansK_x (kof_1 (by decide)) | exact ansK_x (kof_2 (by decide) (by decide))
def A_why_0_0 (c : Nat → Int) (f : Int) (r : Int) : Int := if (0 ≤ f ∧ f < cel c 107) ∧ (0 ≤ r ∧ r < 2) then (if (ocn c f r (-1) = 1 ∨ ocn c f r (-1) = 2 ∨ ocn c f r (-1) = 3) then ((-13)) else ((ocn c f r (-1)))) else ((-11))
theorem L_why_0_0 {X : va_W} {f : Int} {r : Int} {τ : SZ} {B : Int} (hl0 : l.stackTraces = false) (hf : Rng f) (hr : Rng r) (hS : Sh B (τ 4)) : LK l D A ad adV cA (.codeWith yL_why method_14_code 6 (some .int) [(0, 9, 10, 22), (0, 9, 15, 58)]) yL_why 22 2 12 [.ref (ad 0), .int (iI f), .int (iI r), .int (iI 0), .int (iI 0)] (wO ad cA (sz τ) ++ X) (RV ad cA X (A_why_0_0 (τ 4) f r) τ) := by
  have h := (c_why_0_0 (τ := τ) hf hr hS).mono (show 7 ≤ 12 by decide)
  refine (w_why hl0 h ?_).rv ?_
  · (repeat' split) <;> (first | exact Or.inl ⟨_, _, rfl⟩ | exact Or.inr ⟨0, _, _, rfl, rfl⟩ | exact Or.inr ⟨1, _, _, rfl, rfl⟩ | exact Or.inr ⟨2, _, _, rfl, rfl⟩)
  · unfold A_why_0_0
    (repeat' split) <;> first | rfl | contradiction | exact ansK_x kof_0 | exact ansK_x (kof_1 (by decide)) | exact ansK_x (kof_2 (by decide) (by decide))
def A_why_0_1 (c : Nat → Int) (f : Int) (r : Int) : Int := if (0 ≤ f ∧ f < cel c 107) ∧ (0 ≤ r ∧ r < 2) then (if (ocn c f r (-1) = 1 ∨ ocn c f r (-1) = 2 ∨ ocn c f r (-1) = 3) then ((-13)) else ((dtl c (ocn c f r (-1)) f r (-1)))) else ((-11))
theorem L_why_0_1 {X : va_W} {f : Int} {r : Int} {τ : SZ} {B : Int} (hl0 : l.stackTraces = false) (hf : Rng f) (hr : Rng r) (hS : Sh B (τ 4)) : LK l D A ad adV cA (.codeWith yL_why method_14_code 6 (some .int) [(0, 9, 10, 22), (0, 9, 15, 58)]) yL_why 22 2 12 [.ref (ad 0), .int (iI f), .int (iI r), .int (iI 0), .int (iI 1)] (wO ad cA (sz τ) ++ X) (RV ad cA X (A_why_0_1 (τ 4) f r) τ) := by
  have h := (c_why_0_1 (τ := τ) hf hr hS).mono (show 7 ≤ 12 by decide)
  refine (w_why hl0 h ?_).rv ?_
  · (repeat' split) <;> (first | exact Or.inl ⟨_, _, rfl⟩ | exact Or.inr ⟨0, _, _, rfl, rfl⟩ | exact Or.inr ⟨1, _, _, rfl, rfl⟩ | exact Or.inr ⟨2, _, _, rfl, rfl⟩)
  · unfold A_why_0_1
    (repeat' split) <;> first | rfl | contradiction | exact ansK_x kof_0 | exact ansK_x (kof_1 (by decide)) | exact ansK_x (kof_2 (by decide) (by decide))
def A_moves_0 (c : Nat → Int) (x : Int) : Int := if 0 ≤ x ∧ x < 2 then ((mbf c x (cel c 107).toNat)) else ((-12))
theorem L_moves_0 {X : va_W} {x : Int} {τ : SZ} {B : Int} {N : Nat} (hl0 : l.stackTraces = false) (hx : Rng x) (hS : Sh B (τ 4)) (hn : cel (τ 4) 107 = (N : Int)) : LK l D A ad adV cA (.codeWith yL_moves method_16_code 4 (some .int) [(0, 6, 7, 14)]) yL_moves 22 1 6 [.ref (ad 0), .int (iI x), .int (iI 0)] (wO ad cA (sz τ) ++ X) (RV ad cA X (A_moves_0 (τ 4) x) τ) := by
  have h := (c_moves_0 (τ := τ) hx hS hn).mono (show 8 ≤ 12 by decide)
  rw [show N = (cel (τ 4) 107).toNat from by omega] at h
  refine (w_moves hl0 h ?_).rv ?_
  · (repeat' split) <;> (first | exact Or.inl ⟨_, _, rfl⟩ | exact Or.inr ⟨0, _, _, rfl, rfl⟩ | exact Or.inr ⟨1, _, _, rfl, rfl⟩ | exact Or.inr ⟨2, _, _, rfl, rfl⟩)
  · unfold A_moves_0
    (repeat' split) <;> first | rfl | contradiction | exact ansK_x kof_0 | exact ansK_x (kof_1 (by decide)) | exact ansK_x (kof_2 (by decide) (by decide))
def A_captures_0 (c : Nat → Int) (x : Int) : Int := if 0 ≤ x ∧ x < 2 then ((cbj c x (cel c 107).toNat)) else ((-12))
theorem L_captures_0 {X : va_W} {x : Int} {τ : SZ} {B : Int} {N : Nat} (hl0 : l.stackTraces = false) (hx : Rng x) (hS : Sh B (τ 4)) (hn : cel (τ 4) 107 = (N : Int)) : LK l D A ad adV cA (.codeWith yL_captures method_17_code 4 (some .int) [(0, 6, 7, 14)]) yL_captures 22 1 6 [.ref (ad 0), .int (iI x), .int (iI 0)] (wO ad cA (sz τ) ++ X) (RV ad cA X (A_captures_0 (τ 4) x) τ) := by
  have h := (c_captures_0 (τ := τ) hx hS hn).mono (show 8 ≤ 12 by decide)
  rw [show N = (cel (τ 4) 107).toNat from by omega] at h
  refine (w_captures hl0 h ?_).rv ?_
  · (repeat' split) <;> (first | exact Or.inl ⟨_, _, rfl⟩ | exact Or.inr ⟨0, _, _, rfl, rfl⟩ | exact Or.inr ⟨1, _, _, rfl, rfl⟩ | exact Or.inr ⟨2, _, _, rfl, rfl⟩)
  · unfold A_captures_0
    (repeat' split) <;> first | rfl | contradiction | exact ansK_x kof_0 | exact ansK_x (kof_1 (by decide)) | exact ansK_x (kof_2 (by decide) (by decide))
def A_would_1 (c : Nat → Int) (f : Int) (r : Int) : Int := if (0 ≤ f ∧ f < cel c 107) ∧ (0 ≤ r ∧ r < 2) then ((if (ocn c f r 1 = 1 ∨ ocn c f r 1 = 2 ∨ ocn c f r 1 = 3) then ocn c f r 1 else 0)) else ((-11))
theorem L_would_1 {X : va_W} {f : Int} {r : Int} {τ : SZ} {B : Int} (hl0 : l.stackTraces = false) (hf : Rng f) (hr : Rng r) (hS : Sh B (τ 4)) : LK l D A ad adV cA (.codeWith yL_would method_13_code 5 (some .int) [(0, 7, 8, 22)]) yL_would 22 1 6 [.ref (ad 0), .int (iI f), .int (iI r), .int (iI 1)] (wO ad cA (sz τ) ++ X) (RV ad cA X (A_would_1 (τ 4) f r) τ) := by
  have h := (c_would_1 (τ := τ) hf hr hS).mono (show 7 ≤ 12 by decide)
  refine (w_would hl0 h ?_).rv ?_
  · (repeat' split) <;> (first | exact Or.inl ⟨_, _, rfl⟩ | exact Or.inr ⟨0, _, _, rfl, rfl⟩ | exact Or.inr ⟨1, _, _, rfl, rfl⟩ | exact Or.inr ⟨2, _, _, rfl, rfl⟩)
  · unfold A_would_1
    (repeat' split) <;> first | rfl | contradiction | exact ansK_x kof_0 | exact ansK_x (kof_1 (by decide)) | exact ansK_x (kof_2 (by decide) (by decide))
def A_to_1 (c : Nat → Int) (f : Int) (r : Int) : Int := if (0 ≤ f ∧ f < cel c 107) ∧ (0 ≤ r ∧ r < 2) then (if (ocn c f r 1 = 1 ∨ ocn c f r 1 = 2 ∨ ocn c f r 1 = 3) then ((gol c f r 1)) else ((-13))) else ((-11))
theorem L_to_1 {X : va_W} {f : Int} {r : Int} {τ : SZ} {B : Int} (hl0 : l.stackTraces = false) (hf : Rng f) (hr : Rng r) (hS : Sh B (τ 4)) : LK l D A ad adV cA (.codeWith yL_to method_15_code 5 (some .int) [(0, 7, 8, 22), (0, 7, 13, 58)]) yL_to 22 2 12 [.ref (ad 0), .int (iI f), .int (iI r), .int (iI 1)] (wO ad cA (sz τ) ++ X) (RV ad cA X (A_to_1 (τ 4) f r) τ) := by
  have h := (c_to_1 (τ := τ) hf hr hS).mono (show 7 ≤ 12 by decide)
  refine (w_to hl0 h ?_).rv ?_
  · (repeat' split) <;> (first | exact Or.inl ⟨_, _, rfl⟩ | exact Or.inr ⟨0, _, _, rfl, rfl⟩ | exact Or.inr ⟨1, _, _, rfl, rfl⟩ | exact Or.inr ⟨2, _, _, rfl, rfl⟩)
  · unfold A_to_1
    (repeat' split) <;> first | rfl | contradiction | exact ansK_x kof_0 | exact ansK_x (kof_1 (by decide)) | exact ansK_x (kof_2 (by decide) (by decide))
def A_why_1_0 (c : Nat → Int) (f : Int) (r : Int) : Int := if (0 ≤ f ∧ f < cel c 107) ∧ (0 ≤ r ∧ r < 2) then (if (ocn c f r 1 = 1 ∨ ocn c f r 1 = 2 ∨ ocn c f r 1 = 3) then ((-13)) else ((ocn c f r 1))) else ((-11))
theorem L_why_1_0 {X : va_W} {f : Int} {r : Int} {τ : SZ} {B : Int} (hl0 : l.stackTraces = false) (hf : Rng f) (hr : Rng r) (hS : Sh B (τ 4)) : LK l D A ad adV cA (.codeWith yL_why method_14_code 6 (some .int) [(0, 9, 10, 22), (0, 9, 15, 58)]) yL_why 22 2 12 [.ref (ad 0), .int (iI f), .int (iI r), .int (iI 1), .int (iI 0)] (wO ad cA (sz τ) ++ X) (RV ad cA X (A_why_1_0 (τ 4) f r) τ) := by
  have h := (c_why_1_0 (τ := τ) hf hr hS).mono (show 7 ≤ 12 by decide)
  refine (w_why hl0 h ?_).rv ?_
  · (repeat' split) <;> (first | exact Or.inl ⟨_, _, rfl⟩ | exact Or.inr ⟨0, _, _, rfl, rfl⟩ | exact Or.inr ⟨1, _, _, rfl, rfl⟩ | exact Or.inr ⟨2, _, _, rfl, rfl⟩)
  · unfold A_why_1_0
    (repeat' split) <;> first | rfl | contradiction | exact ansK_x kof_0 | exact ansK_x (kof_1 (by decide)) | exact ansK_x (kof_2 (by decide) (by decide))
def A_why_1_1 (c : Nat → Int) (f : Int) (r : Int) : Int := if (0 ≤ f ∧ f < cel c 107) ∧ (0 ≤ r ∧ r < 2) then (if (ocn c f r 1 = 1 ∨ ocn c f r 1 = 2 ∨ ocn c f r 1 = 3) then ((-13)) else ((dtl c (ocn c f r 1) f r 1))) else ((-11))
theorem L_why_1_1 {X : va_W} {f : Int} {r : Int} {τ : SZ} {B : Int} (hl0 : l.stackTraces = false) (hf : Rng f) (hr : Rng r) (hS : Sh B (τ 4)) : LK l D A ad adV cA (.codeWith yL_why method_14_code 6 (some .int) [(0, 9, 10, 22), (0, 9, 15, 58)]) yL_why 22 2 12 [.ref (ad 0), .int (iI f), .int (iI r), .int (iI 1), .int (iI 1)] (wO ad cA (sz τ) ++ X) (RV ad cA X (A_why_1_1 (τ 4) f r) τ) := by
  have h := (c_why_1_1 (τ := τ) hf hr hS).mono (show 7 ≤ 12 by decide)
  refine (w_why hl0 h ?_).rv ?_
  · (repeat' split) <;> (first | exact Or.inl ⟨_, _, rfl⟩ | exact Or.inr ⟨0, _, _, rfl, rfl⟩ | exact Or.inr ⟨1, _, _, rfl, rfl⟩ | exact Or.inr ⟨2, _, _, rfl, rfl⟩)
  · unfold A_why_1_1
    (repeat' split) <;> first | rfl | contradiction | exact ansK_x kof_0 | exact ansK_x (kof_1 (by decide)) | exact ansK_x (kof_2 (by decide) (by decide))
def A_moves_1 (c : Nat → Int) (x : Int) : Int := if 0 ≤ x ∧ x < 2 then ((mbp c x)) else ((-12))
theorem L_moves_1 {X : va_W} {x : Int} {τ : SZ} {B : Int} {N : Nat} (hl0 : l.stackTraces = false) (hx : Rng x) (hS : Sh B (τ 4)) (hn : cel (τ 4) 107 = (N : Int)) : LK l D A ad adV cA (.codeWith yL_moves method_16_code 4 (some .int) [(0, 6, 7, 14)]) yL_moves 22 1 6 [.ref (ad 0), .int (iI x), .int (iI 1)] (wO ad cA (sz τ) ++ X) (RV ad cA X (A_moves_1 (τ 4) x) τ) := by
  have h := (c_moves_1 (τ := τ) hx hS hn).mono (show 8 ≤ 12 by decide)
  refine (w_moves hl0 h ?_).rv ?_
  · (repeat' split) <;> (first | exact Or.inl ⟨_, _, rfl⟩ | exact Or.inr ⟨0, _, _, rfl, rfl⟩ | exact Or.inr ⟨1, _, _, rfl, rfl⟩ | exact Or.inr ⟨2, _, _, rfl, rfl⟩)
  · unfold A_moves_1
    (repeat' split) <;> first | rfl | contradiction | exact ansK_x kof_0 | exact ansK_x (kof_1 (by decide)) | exact ansK_x (kof_2 (by decide) (by decide))
def A_captures_1 (c : Nat → Int) (x : Int) : Int := if 0 ≤ x ∧ x < 2 then ((cbd c x (cel c 107).toNat)) else ((-12))
theorem L_captures_1 {X : va_W} {x : Int} {τ : SZ} {B : Int} {N : Nat} (hl0 : l.stackTraces = false) (hx : Rng x) (hS : Sh B (τ 4)) (hn : cel (τ 4) 107 = (N : Int)) : LK l D A ad adV cA (.codeWith yL_captures method_17_code 4 (some .int) [(0, 6, 7, 14)]) yL_captures 22 1 6 [.ref (ad 0), .int (iI x), .int (iI 1)] (wO ad cA (sz τ) ++ X) (RV ad cA X (A_captures_1 (τ 4) x) τ) := by
  have h := (c_captures_1 (τ := τ) hx hS hn).mono (show 8 ≤ 12 by decide)
  rw [show N = (cel (τ 4) 107).toNat from by omega] at h
  refine (w_captures hl0 h ?_).rv ?_
  · (repeat' split) <;> (first | exact Or.inl ⟨_, _, rfl⟩ | exact Or.inr ⟨0, _, _, rfl, rfl⟩ | exact Or.inr ⟨1, _, _, rfl, rfl⟩ | exact Or.inr ⟨2, _, _, rfl, rfl⟩)
  · unfold A_captures_1
    (repeat' split) <;> first | rfl | contradiction | exact ansK_x kof_0 | exact ansK_x (kof_1 (by decide)) | exact ansK_x (kof_2 (by decide) (by decide))
def A_isThreatened (c : Nat → Int) (f : Int) : Int := if (0 ≤ f ∧ f < cel c 107) then ((b2 (0 < jov c f))) else ((-11))
theorem L_isThreatened {X : va_W} {f : Int} {τ : SZ} {B : Int} (hl0 : l.stackTraces = false) (hf : Rng f) (hS : Sh B (τ 4)) : LK l D A ad adV cA (.codeWith yL_isThreatened method_18_code 3 (some .int) [(0, 13, 14, 22)]) yL_isThreatened 22 1 6 [.ref (ad 0), .int (iI f)] (wO ad cA (sz τ) ++ X) (RV ad cA X (A_isThreatened (τ 4) f) τ) := by
  have h := (c_isThreatened (τ := τ) hf hS).mono (show 7 ≤ 12 by decide)
  refine (w_isThreatened hl0 h ?_).rv ?_
  · refine ⟨by (repeat' split) <;> (first | exact Or.inl ⟨_, _, rfl⟩ | exact Or.inr ⟨0, _, _, rfl, rfl⟩ | exact Or.inr ⟨1, _, _, rfl, rfl⟩ | exact Or.inr ⟨2, _, _, rfl, rfl⟩), fun e => ?_⟩
    (repeat' split at e) <;> first | (cases e; exact b2_or) | cases e
  · unfold A_isThreatened
    (repeat' split) <;> first | rfl | contradiction | exact ansK_x kof_0 | (exact congrArg (fun x => (x, τ)) zBz_b2)
def A_toLock (c : Nat → Int) (f : Int) (r : Int) : Int := if (0 ≤ f ∧ f < cel c 107) ∧ (0 ≤ r ∧ r < 2) then (if wtl c f r 11 = 0 then ((-13)) else ((wtl c f r 11))) else ((-11))
theorem L_toLock {X : va_W} {f : Int} {r : Int} {τ : SZ} {B : Int} (hl0 : l.stackTraces = false) (hf : Rng f) (hr : Rng r) (hS : Sh B (τ 4)) : LK l D A ad adV cA (.codeWith yL_toLock method_21_code 4 (some .int) [(0, 6, 7, 22), (0, 6, 11, 58)]) yL_toLock 22 2 12 [.ref (ad 0), .int (iI f), .int (iI r)] (wO ad cA (sz τ) ++ X) (RV ad cA X (A_toLock (τ 4) f r) τ) := by
  have h := (c_toLock (τ := τ) hf hr hS).mono (show 7 ≤ 12 by decide)
  refine (w_toLock hl0 h ?_).rv ?_
  · (repeat' split) <;> (first | exact Or.inl ⟨_, _, rfl⟩ | exact Or.inr ⟨0, _, _, rfl, rfl⟩ | exact Or.inr ⟨1, _, _, rfl, rfl⟩ | exact Or.inr ⟨2, _, _, rfl, rfl⟩)
  · unfold A_toLock
    (repeat' split) <;> first | rfl | contradiction | exact ansK_x kof_0 | exact ansK_x (kof_1 (by decide)) | exact ansK_x (kof_2 (by decide) (by decide))
def A_boldest (c : Nat → Int) (p : Int) : Int := if ffs (fun f => ahd (fun k => bdn c (k : Int)) f (cel c 107).toNat) p (cel c 107).toNat 0 = -1 then ((-13)) else ((ffs (fun f => ahd (fun k => bdn c (k : Int)) f (cel c 107).toNat) p (cel c 107).toNat 0))
theorem L_boldest {X : va_W} {p : Int} {τ : SZ} {B : Int} {N : Nat} (hl0 : l.stackTraces = false) (hp : Rng p) (hS : Sh B (τ 4)) (hn : cel (τ 4) 107 = (N : Int)) : LK l D A ad adV cA (.codeWith yL_boldest method_22_code 3 (some .int) [(0, 5, 6, 58)]) yL_boldest 22 1 6 [.ref (ad 0), .int (iI p)] (wO ad cA (sz τ) ++ X) (RV ad cA X (A_boldest (τ 4) p) τ) := by
  have h := (c_boldest (τ := τ) hp hS hn).mono (show 7 ≤ 12 by decide)
  rw [show N = (cel (τ 4) 107).toNat from by omega] at h
  refine (w_boldest hl0 h ?_).rv ?_
  · (repeat' split) <;> (first | exact Or.inl ⟨_, _, rfl⟩ | exact Or.inr ⟨0, _, _, rfl, rfl⟩ | exact Or.inr ⟨1, _, _, rfl, rfl⟩ | exact Or.inr ⟨2, _, _, rfl, rfl⟩)
  · unfold A_boldest
    (repeat' split) <;> first | rfl | contradiction | exact ansK_x kof_0 | exact ansK_x (kof_1 (by decide)) | exact ansK_x (kof_2 (by decide) (by decide))
def A_farthest (c : Nat → Int) (p : Int) : Int := if ffs (fun f => ahd (fun k => wcm c (k : Int)) f (cel c 107).toNat) p (cel c 107).toNat 0 = -1 then ((-13)) else ((ffs (fun f => ahd (fun k => wcm c (k : Int)) f (cel c 107).toNat) p (cel c 107).toNat 0))
theorem L_farthest {X : va_W} {p : Int} {τ : SZ} {B : Int} {N : Nat} (hl0 : l.stackTraces = false) (hp : Rng p) (hS : Sh B (τ 4)) (hn : cel (τ 4) 107 = (N : Int)) : LK l D A ad adV cA (.codeWith yL_farthest method_23_code 3 (some .int) [(0, 5, 6, 58)]) yL_farthest 22 1 6 [.ref (ad 0), .int (iI p)] (wO ad cA (sz τ) ++ X) (RV ad cA X (A_farthest (τ 4) p) τ) := by
  have h := (c_farthest (τ := τ) hp hS hn).mono (show 7 ≤ 12 by decide)
  rw [show N = (cel (τ 4) 107).toNat from by omega] at h
  refine (w_farthest hl0 h ?_).rv ?_
  · (repeat' split) <;> (first | exact Or.inl ⟨_, _, rfl⟩ | exact Or.inr ⟨0, _, _, rfl, rfl⟩ | exact Or.inr ⟨1, _, _, rfl, rfl⟩ | exact Or.inr ⟨2, _, _, rfl, rfl⟩)
  · unfold A_farthest
    (repeat' split) <;> first | rfl | contradiction | exact ansK_x kof_0 | exact ansK_x (kof_1 (by decide)) | exact ansK_x (kof_2 (by decide) (by decide))
def A_refusal_0 (c : Nat → Int) (τ : SZ) (z : Int) : Int := if z < 0 then ((-1012)) else (if τ 9 2 ≤ z then ((-1013)) else ((τ 10 z.toNat)))
theorem L_refusal_0 {X : va_W} {z : Int} {τ : SZ} (hl0 : l.stackTraces = false) (hz : Rng z) (hc : 0 ≤ τ 9 2 ∧ τ 9 2 ≤ 3) : LK l D A ad adV cA (.codeWith yL_refusal method_29_code 4 (some .int) [(0, 6, 7, 14), (0, 6, 12, 58)]) yL_refusal 22 1 6 [.ref (ad 0), .int (iI z), .int (iI 0)] (wO ad cA (sz τ) ++ X) (RV ad cA X (A_refusal_0 (τ 4) τ z) τ) := by
  have h := (c_refusal_0 (τ := τ) hz hc).mono (show 4 ≤ 12 by decide)
  refine (w_refusal hl0 h ?_).rv ?_
  · (repeat' split) <;> (first | exact Or.inl ⟨_, _, rfl⟩ | exact Or.inr ⟨0, _, _, rfl, rfl⟩ | exact Or.inr ⟨1, _, _, rfl, rfl⟩ | exact Or.inr ⟨2, _, _, rfl, rfl⟩)
  · unfold A_refusal_0
    (repeat' split) <;> first | rfl | contradiction | exact ansK_x kof_0 | exact ansK_x (kof_1 (by decide)) | exact ansK_x (kof_2 (by decide) (by decide))
def A_gain_0 (c : Nat → Int) (f : Int) (r : Int) : Int := if (0 ≤ f ∧ f < cel c 107) ∧ (0 ≤ r ∧ r < 2) then (if (ocn c f r (-1) = 1 ∨ ocn c f r (-1) = 2 ∨ ocn c f r (-1) = 3) then ((gnb c f r (-1))) else ((-13))) else ((-11))
def S_gain_0 (τ : SZ) (f : Int) (r : Int) : SZ := if (0 ≤ f ∧ f < cel (τ 4) 107) ∧ (0 ≤ r ∧ r < 2) then (if (ocn (τ 4) f r (-1) = 1 ∨ ocn (τ 4) f r (-1) = 2 ∨ ocn (τ 4) f r (-1) = 3) then (zr τ 5 (mkm (τ 4) f r (-1))) else (τ)) else (τ)
theorem L_gain_0 {X : va_W} {f : Int} {r : Int} {τ : SZ} {B : Int} (hl0 : l.stackTraces = false) (hf : Rng f) (hr : Rng r) (hI : Iv B (τ 4)) (hB : B + 7 ≤ 100000000) (hT5 : Tz (τ 5)) : LK l D A ad adV cA (.codeWith yL_gain method_19_code 5 (some .int) [(0, 7, 8, 22), (0, 7, 13, 58)]) yL_gain 22 2 12 [.ref (ad 0), .int (iI f), .int (iI r), .int (iI 0)] (wO ad cA (sz τ) ++ X) (RV ad cA X (A_gain_0 (τ 4) f r) (S_gain_0 τ f r)) := by
  have h := (c_gain_0 (τ := τ) hf hr hI hB hT5).mono (show 8 ≤ 12 by decide)
  refine (w_gain hl0 h ?_).rv ?_
  · (repeat' split) <;> (first | exact Or.inl ⟨_, _, rfl⟩ | exact Or.inr ⟨0, _, _, rfl, rfl⟩ | exact Or.inr ⟨1, _, _, rfl, rfl⟩ | exact Or.inr ⟨2, _, _, rfl, rfl⟩)
  · unfold A_gain_0 S_gain_0
    (repeat' split) <;> first | rfl | contradiction | exact ansK_x kof_0 | exact ansK_x (kof_1 (by decide)) | exact ansK_x (kof_2 (by decide) (by decide))
def A_move_0 (c : Nat → Int) (f : Int) (r : Int) : Int := if obM c f r (-1) = 1 then ((-11)) else (if obM c f r (-1) = 3 then ((-1)) else ((mkp c f r (-1))))
def S_move_0 (τ : SZ) (f : Int) (r : Int) : SZ := if obM (τ 4) f r (-1) = 1 then (τ) else (if obM (τ 4) f r (-1) = 3 then (rpa (rkp τ (ocn (τ 4) f r (-1)) (dtl (τ 4) (ocn (τ 4) f r (-1)) f r (-1))) 4 f) else (zr (hkp τ) 4 (mkm (τ 4) f r (-1))))
theorem L_move_0 {X : va_W} {f : Int} {r : Int} {τ : SZ} {B : Int} (hl0 : l.stackTraces = false) (hf : Rng f) (hr : Rng r) (hI : Iv B (τ 4)) (hB : B + 7 ≤ 100000000) (hx : 0 ≤ τ 14 1 ∧ τ 14 1 < 8) (hc : 0 ≤ τ 14 2 ∧ τ 14 2 ≤ 8) : LK l D A ad adV cA (.codeWith yL_move method_7_code 5 (some .int) [(0, 7, 8, 22), (0, 7, 13, 16)]) yL_move 22 1 6 [.ref (ad 0), .int (iI f), .int (iI r), .int (iI 0)] (wO ad cA (sz τ) ++ X) (RV ad cA X (A_move_0 (τ 4) f r) (S_move_0 τ f r)) := by
  have h := (c_move_0 (τ := τ) hf hr hI hB hx hc).mono (show 8 ≤ 12 by decide)
  refine (w_move hl0 h ?_).rv ?_
  · (repeat' split) <;> (first | exact Or.inl ⟨_, _, rfl⟩ | exact Or.inr ⟨0, _, _, rfl, rfl⟩ | exact Or.inr ⟨1, _, _, rfl, rfl⟩ | exact Or.inr ⟨2, _, _, rfl, rfl⟩)
  · unfold A_move_0 S_move_0
    (repeat' split) <;> first | rfl | contradiction | exact ansK_x kof_0 | exact ansK_x (kof_1 (by decide)) | exact ansK_x (kof_2 (by decide) (by decide))
def A_refusal_1 (c : Nat → Int) (τ : SZ) (z : Int) : Int := if z < 0 then ((-1012)) else (if τ 9 2 ≤ z then ((-1013)) else ((τ 11 z.toNat)))
theorem L_refusal_1 {X : va_W} {z : Int} {τ : SZ} (hl0 : l.stackTraces = false) (hz : Rng z) (hc : 0 ≤ τ 9 2 ∧ τ 9 2 ≤ 3) : LK l D A ad adV cA (.codeWith yL_refusal method_29_code 4 (some .int) [(0, 6, 7, 14), (0, 6, 12, 58)]) yL_refusal 22 1 6 [.ref (ad 0), .int (iI z), .int (iI 1)] (wO ad cA (sz τ) ++ X) (RV ad cA X (A_refusal_1 (τ 4) τ z) τ) := by
  have h := (c_refusal_1 (τ := τ) hz hc).mono (show 4 ≤ 12 by decide)
  refine (w_refusal hl0 h ?_).rv ?_
  · (repeat' split) <;> (first | exact Or.inl ⟨_, _, rfl⟩ | exact Or.inr ⟨0, _, _, rfl, rfl⟩ | exact Or.inr ⟨1, _, _, rfl, rfl⟩ | exact Or.inr ⟨2, _, _, rfl, rfl⟩)
  · unfold A_refusal_1
    (repeat' split) <;> first | rfl | contradiction | exact ansK_x kof_0 | exact ansK_x (kof_1 (by decide)) | exact ansK_x (kof_2 (by decide) (by decide))
def A_gain_1 (c : Nat → Int) (f : Int) (r : Int) : Int := if (0 ≤ f ∧ f < cel c 107) ∧ (0 ≤ r ∧ r < 2) then (if (ocn c f r 1 = 1 ∨ ocn c f r 1 = 2 ∨ ocn c f r 1 = 3) then ((gnb c f r 1)) else ((-13))) else ((-11))
def S_gain_1 (τ : SZ) (f : Int) (r : Int) : SZ := if (0 ≤ f ∧ f < cel (τ 4) 107) ∧ (0 ≤ r ∧ r < 2) then (if (ocn (τ 4) f r 1 = 1 ∨ ocn (τ 4) f r 1 = 2 ∨ ocn (τ 4) f r 1 = 3) then (zr τ 5 (mkm (τ 4) f r 1)) else (τ)) else (τ)
theorem L_gain_1 {X : va_W} {f : Int} {r : Int} {τ : SZ} {B : Int} (hl0 : l.stackTraces = false) (hf : Rng f) (hr : Rng r) (hI : Iv B (τ 4)) (hB : B + 7 ≤ 100000000) (hT5 : Tz (τ 5)) : LK l D A ad adV cA (.codeWith yL_gain method_19_code 5 (some .int) [(0, 7, 8, 22), (0, 7, 13, 58)]) yL_gain 22 2 12 [.ref (ad 0), .int (iI f), .int (iI r), .int (iI 1)] (wO ad cA (sz τ) ++ X) (RV ad cA X (A_gain_1 (τ 4) f r) (S_gain_1 τ f r)) := by
  have h := (c_gain_1 (τ := τ) hf hr hI hB hT5).mono (show 8 ≤ 12 by decide)
  refine (w_gain hl0 h ?_).rv ?_
  · (repeat' split) <;> (first | exact Or.inl ⟨_, _, rfl⟩ | exact Or.inr ⟨0, _, _, rfl, rfl⟩ | exact Or.inr ⟨1, _, _, rfl, rfl⟩ | exact Or.inr ⟨2, _, _, rfl, rfl⟩)
  · unfold A_gain_1 S_gain_1
    (repeat' split) <;> first | rfl | contradiction | exact ansK_x kof_0 | exact ansK_x (kof_1 (by decide)) | exact ansK_x (kof_2 (by decide) (by decide))
def A_move_1 (c : Nat → Int) (f : Int) (r : Int) : Int := if obM c f r 1 = 1 then ((-11)) else (if obM c f r 1 = 3 then ((-1)) else ((mkp c f r 1)))
def S_move_1 (τ : SZ) (f : Int) (r : Int) : SZ := if obM (τ 4) f r 1 = 1 then (τ) else (if obM (τ 4) f r 1 = 3 then (rpa (rkp τ (ocn (τ 4) f r 1) (dtl (τ 4) (ocn (τ 4) f r 1) f r 1)) 4 f) else (zr (hkp τ) 4 (mkm (τ 4) f r 1)))
theorem L_move_1 {X : va_W} {f : Int} {r : Int} {τ : SZ} {B : Int} (hl0 : l.stackTraces = false) (hf : Rng f) (hr : Rng r) (hI : Iv B (τ 4)) (hB : B + 7 ≤ 100000000) (hx : 0 ≤ τ 14 1 ∧ τ 14 1 < 8) (hc : 0 ≤ τ 14 2 ∧ τ 14 2 ≤ 8) : LK l D A ad adV cA (.codeWith yL_move method_7_code 5 (some .int) [(0, 7, 8, 22), (0, 7, 13, 16)]) yL_move 22 1 6 [.ref (ad 0), .int (iI f), .int (iI r), .int (iI 1)] (wO ad cA (sz τ) ++ X) (RV ad cA X (A_move_1 (τ 4) f r) (S_move_1 τ f r)) := by
  have h := (c_move_1 (τ := τ) hf hr hI hB hx hc).mono (show 8 ≤ 12 by decide)
  refine (w_move hl0 h ?_).rv ?_
  · (repeat' split) <;> (first | exact Or.inl ⟨_, _, rfl⟩ | exact Or.inr ⟨0, _, _, rfl, rfl⟩ | exact Or.inr ⟨1, _, _, rfl, rfl⟩ | exact Or.inr ⟨2, _, _, rfl, rfl⟩)
  · unfold A_move_1 S_move_1
    (repeat' split) <;> first | rfl | contradiction | exact ansK_x kof_0 | exact ansK_x (kof_1 (by decide)) | exact ansK_x (kof_2 (by decide) (by decide))
def A_best_0 (c : Nat → Int) : Int := if (bsb c (4 * cel c 107).toNat).1 < 0 then ((-13)) else ((if (0 : Int) = 0 then (bsb c (4 * cel c 107).toNat).1 / 4 else if (0 : Int) = 1 then (bsb c (4 * cel c 107).toNat).1 / 2 % 2 else 1 - (bsb c (4 * cel c 107).toNat).1 % 2))
def S_best_0 (τ : SZ) : SZ := if (bsb (τ 4) (4 * cel (τ 4) 107).toNat).1 < 0 then (zr τ 5 (bsd (τ 4) (τ 5) (4 * cel (τ 4) 107).toNat)) else (zr τ 5 (bsd (τ 4) (τ 5) (4 * cel (τ 4) 107).toNat))
theorem L_best_0 {X : va_W} {τ : SZ} {B : Int} (hl0 : l.stackTraces = false) (hI : Iv B (τ 4)) (hB : B + 7 ≤ 100000000) (hT5 : Tz (τ 5)) : LK l D A ad adV cA (.codeWith yL_best method_20_code 3 (some .int) [(0, 5, 6, 14), (0, 5, 10, 58)]) yL_best 22 1 6 [.ref (ad 0), .int (iI 0)] (wO ad cA (sz τ) ++ X) (RV ad cA X (A_best_0 (τ 4)) (S_best_0 τ)) := by
  have h := (c_best_0 (τ := τ) hI hB hT5).mono (show 8 ≤ 12 by decide)
  refine (w_best hl0 h ?_).rv ?_
  · (repeat' split) <;> (first | exact Or.inl ⟨_, _, rfl⟩ | exact Or.inr ⟨0, _, _, rfl, rfl⟩ | exact Or.inr ⟨1, _, _, rfl, rfl⟩ | exact Or.inr ⟨2, _, _, rfl, rfl⟩)
  · unfold A_best_0 S_best_0
    (repeat' split) <;> first | rfl | contradiction | exact ansK_x kof_0 | exact ansK_x (kof_1 (by decide)) | exact ansK_x (kof_2 (by decide) (by decide))
def A_best_1 (c : Nat → Int) : Int := if (bsb c (4 * cel c 107).toNat).1 < 0 then ((-13)) else ((if (1 : Int) = 0 then (bsb c (4 * cel c 107).toNat).1 / 4 else if (1 : Int) = 1 then (bsb c (4 * cel c 107).toNat).1 / 2 % 2 else 1 - (bsb c (4 * cel c 107).toNat).1 % 2))
def S_best_1 (τ : SZ) : SZ := if (bsb (τ 4) (4 * cel (τ 4) 107).toNat).1 < 0 then (zr τ 5 (bsd (τ 4) (τ 5) (4 * cel (τ 4) 107).toNat)) else (zr τ 5 (bsd (τ 4) (τ 5) (4 * cel (τ 4) 107).toNat))
theorem L_best_1 {X : va_W} {τ : SZ} {B : Int} (hl0 : l.stackTraces = false) (hI : Iv B (τ 4)) (hB : B + 7 ≤ 100000000) (hT5 : Tz (τ 5)) : LK l D A ad adV cA (.codeWith yL_best method_20_code 3 (some .int) [(0, 5, 6, 14), (0, 5, 10, 58)]) yL_best 22 1 6 [.ref (ad 0), .int (iI 1)] (wO ad cA (sz τ) ++ X) (RV ad cA X (A_best_1 (τ 4)) (S_best_1 τ)) := by
  have h := (c_best_1 (τ := τ) hI hB hT5).mono (show 8 ≤ 12 by decide)
  refine (w_best hl0 h ?_).rv ?_
  · (repeat' split) <;> (first | exact Or.inl ⟨_, _, rfl⟩ | exact Or.inr ⟨0, _, _, rfl, rfl⟩ | exact Or.inr ⟨1, _, _, rfl, rfl⟩ | exact Or.inr ⟨2, _, _, rfl, rfl⟩)
  · unfold A_best_1 S_best_1
    (repeat' split) <;> first | rfl | contradiction | exact ansK_x kof_0 | exact ansK_x (kof_1 (by decide)) | exact ansK_x (kof_2 (by decide) (by decide))
def A_best_2 (c : Nat → Int) : Int := if (bsb c (4 * cel c 107).toNat).1 < 0 then ((-13)) else ((if (2 : Int) = 0 then (bsb c (4 * cel c 107).toNat).1 / 4 else if (2 : Int) = 1 then (bsb c (4 * cel c 107).toNat).1 / 2 % 2 else 1 - (bsb c (4 * cel c 107).toNat).1 % 2))
def S_best_2 (τ : SZ) : SZ := if (bsb (τ 4) (4 * cel (τ 4) 107).toNat).1 < 0 then (zr τ 5 (bsd (τ 4) (τ 5) (4 * cel (τ 4) 107).toNat)) else (zr τ 5 (bsd (τ 4) (τ 5) (4 * cel (τ 4) 107).toNat))
theorem L_best_2 {X : va_W} {τ : SZ} {B : Int} (hl0 : l.stackTraces = false) (hI : Iv B (τ 4)) (hB : B + 7 ≤ 100000000) (hT5 : Tz (τ 5)) : LK l D A ad adV cA (.codeWith yL_best method_20_code 3 (some .int) [(0, 5, 6, 14), (0, 5, 10, 58)]) yL_best 22 1 6 [.ref (ad 0), .int (iI 2)] (wO ad cA (sz τ) ++ X) (RV ad cA X (A_best_2 (τ 4)) (S_best_2 τ)) := by
  have h := (c_best_2 (τ := τ) hI hB hT5).mono (show 8 ≤ 12 by decide)
  refine (w_best hl0 h ?_).rv ?_
  · (repeat' split) <;> (first | exact Or.inl ⟨_, _, rfl⟩ | exact Or.inr ⟨0, _, _, rfl, rfl⟩ | exact Or.inr ⟨1, _, _, rfl, rfl⟩ | exact Or.inr ⟨2, _, _, rfl, rfl⟩)
  · unfold A_best_2 S_best_2
    (repeat' split) <;> first | rfl | contradiction | exact ansK_x kof_0 | exact ansK_x (kof_1 (by decide)) | exact ansK_x (kof_2 (by decide) (by decide))
def A_best_x (c : Nat → Int) (w : Int) : Int := (-12)
theorem L_best_x {X : va_W} {w : Int} {τ : SZ} (hl0 : l.stackTraces = false) (hw : Rng w) (hx : ¬ (0 ≤ w ∧ w ≤ 2)) : LK l D A ad adV cA (.codeWith yL_best method_20_code 3 (some .int) [(0, 5, 6, 14), (0, 5, 10, 58)]) yL_best 22 1 6 [.ref (ad 0), .int (iI w)] (wO ad cA (sz τ) ++ X) (RV ad cA X (A_best_x (τ 4) w) τ) := by
  have h := (c_best_x (τ := τ) hw hx).mono (show 8 ≤ 12 by decide)
  refine (w_best hl0 h ?_).rv ?_
  · (first | exact Or.inl ⟨_, _, rfl⟩ | exact Or.inr ⟨0, _, _, rfl, rfl⟩ | exact Or.inr ⟨1, _, _, rfl, rfl⟩ | exact Or.inr ⟨2, _, _, rfl, rfl⟩)
  · unfold A_best_x
    first | rfl | contradiction | exact ansK_x kof_0 | exact ansK_x (kof_1 (by decide)) | exact ansK_x (kof_2 (by decide) (by decide))
def A_ferry (c : Nat → Int) (x : Int) (p : Int) (q : Int) : Int := if obF c x p q = 2 then ((-12)) else (if obF c x p q = 3 then ((-1)) else ((cel c 107)))
def S_ferry (τ : SZ) (x : Int) (p : Int) (q : Int) : SZ := if obF (τ 4) x p q = 2 then (τ) else (if obF (τ 4) x p q = 3 then (rkp τ (rwF (τ 4)) (rdF (τ 4) p q)) else (zr (hkp τ) 4 (adf (τ 4) x p q)))
theorem L_ferry {X : va_W} {x : Int} {p : Int} {q : Int} {τ : SZ} {B : Int} (hl0 : l.stackTraces = false) (hx : Rng x) (hp : Rng p) (hq : Rng q) (hI : Iv B (τ 4)) (hB : B + 7 ≤ 100000000) (hxh : 0 ≤ τ 14 1 ∧ τ 14 1 < 8) (hch : 0 ≤ τ 14 2 ∧ τ 14 2 ≤ 8) : LK l D A ad adV cA (.codeWith yL_ferry method_3_code 5 (some .int) [(0, 7, 8, 14), (0, 7, 13, 16)]) yL_ferry 22 1 6 [.ref (ad 0), .int (iI x), .int (iI p), .int (iI q)] (wO ad cA (sz τ) ++ X) (RV ad cA X (A_ferry (τ 4) x p q) (S_ferry τ x p q)) := by
  have h := (c_ferry (τ := τ) hx hp hq hI hB hxh hch).mono (show 6 ≤ 12 by decide)
  refine (w_ferry hl0 h ?_).rv ?_
  · (repeat' split) <;> (first | exact Or.inl ⟨_, _, rfl⟩ | exact Or.inr ⟨0, _, _, rfl, rfl⟩ | exact Or.inr ⟨1, _, _, rfl, rfl⟩ | exact Or.inr ⟨2, _, _, rfl, rfl⟩)
  · unfold A_ferry S_ferry
    (repeat' split) <;> first | rfl | contradiction | exact ansK_x kof_0 | exact ansK_x (kof_1 (by decide)) | exact ansK_x (kof_2 (by decide) (by decide))
def A_tug (c : Nat → Int) (r : Int) (p : Int) : Int := if obT c r p = 1 then ((-11)) else (if obT c r p = 3 then ((-1)) else ((tgs (swh c r p 8) r)))
def S_tug (τ : SZ) (r : Int) (p : Int) : SZ := if obT (τ 4) r p = 1 then (τ) else (if obT (τ 4) r p = 3 then (rkp τ (rwT (τ 4) r) (rdT (τ 4) r p)) else (zr (hkp τ) 4 (swh (τ 4) r p 8)))
theorem L_tug {X : va_W} {r : Int} {p : Int} {τ : SZ} {B : Int} (hl0 : l.stackTraces = false) (hr : Rng r) (hp : Rng p) (hI : Iv B (τ 4)) (hB : B + 7 ≤ 100000000) (hx : 0 ≤ τ 14 1 ∧ τ 14 1 < 8) (hc : 0 ≤ τ 14 2 ∧ τ 14 2 ≤ 8) : LK l D A ad adV cA (.codeWith yL_tug method_4_code 4 (some .int) [(0, 6, 7, 22), (0, 6, 11, 16)]) yL_tug 22 1 6 [.ref (ad 0), .int (iI r), .int (iI p)] (wO ad cA (sz τ) ++ X) (RV ad cA X (A_tug (τ 4) r p) (S_tug τ r p)) := by
  have h := (c_tug (τ := τ) hr hp hI hB hx hc).mono (show 6 ≤ 12 by decide)
  refine (w_tug hl0 h ?_).rv ?_
  · (repeat' split) <;> (first | exact Or.inl ⟨_, _, rfl⟩ | exact Or.inr ⟨0, _, _, rfl, rfl⟩ | exact Or.inr ⟨1, _, _, rfl, rfl⟩ | exact Or.inr ⟨2, _, _, rfl, rfl⟩)
  · unfold A_tug S_tug
    (repeat' split) <;> first | rfl | contradiction | exact ansK_x kof_0 | exact ansK_x (kof_1 (by decide)) | exact ansK_x (kof_2 (by decide) (by decide))
def A_lock (c : Nat → Int) (r : Int) (p : Int) (v : Int) : Int := if obL c r p v = 1 then ((-11)) else (if obL c r p v = 2 then ((-12)) else (if obL c r p v = 3 then ((-1)) else ((usz c r p))))
def S_lock (τ : SZ) (r : Int) (p : Int) (v : Int) : SZ := if obL (τ 4) r p v = 1 then (τ) else (if obL (τ 4) r p v = 2 then (τ) else (if obL (τ 4) r p v = 3 then (rkp τ 3 v) else (zr (hkp τ) 4 (sus (τ 4) r p v))))
theorem L_lock {X : va_W} {r : Int} {p : Int} {v : Int} {τ : SZ} {B : Int} (hl0 : l.stackTraces = false) (hr : Rng r) (hp : Rng p) (hv : Rng v) (hI : Iv B (τ 4)) (hB : B + 7 ≤ 100000000) (hx : 0 ≤ τ 14 1 ∧ τ 14 1 < 8) (hc : 0 ≤ τ 14 2 ∧ τ 14 2 ≤ 8) : LK l D A ad adV cA (.codeWith yL_lock method_5_code 5 (some .int) [(0, 7, 8, 22), (0, 7, 13, 14), (0, 7, 18, 16)]) yL_lock 22 1 6 [.ref (ad 0), .int (iI r), .int (iI p), .int (iI v)] (wO ad cA (sz τ) ++ X) (RV ad cA X (A_lock (τ 4) r p v) (S_lock τ r p v)) := by
  have h := (c_lock (τ := τ) hr hp hv hI hB hx hc).mono (show 6 ≤ 12 by decide)
  refine (w_lock hl0 h ?_).rv ?_
  · (repeat' split) <;> (first | exact Or.inl ⟨_, _, rfl⟩ | exact Or.inr ⟨0, _, _, rfl, rfl⟩ | exact Or.inr ⟨1, _, _, rfl, rfl⟩ | exact Or.inr ⟨2, _, _, rfl, rfl⟩)
  · unfold A_lock S_lock
    (repeat' split) <;> first | rfl | contradiction | exact ansK_x kof_0 | exact ansK_x (kof_1 (by decide)) | exact ansK_x (kof_2 (by decide) (by decide))
def A_fog (c : Nat → Int) (r : Int) (p : Int) (v : Int) : Int := if obG c r p v = 1 then ((-11)) else (if obG c r p v = 2 then ((-12)) else (if obG c r p v = 3 then ((-1)) else ((cel c (98 + r)))))
def S_fog (τ : SZ) (r : Int) (p : Int) (v : Int) : SZ := if obG (τ 4) r p v = 1 then (τ) else (if obG (τ 4) r p v = 2 then (τ) else (if obG (τ 4) r p v = 3 then (rkp τ 3 v) else (zr (hkp τ) 4 (sce (sce (τ 4) (96 + r) p) (98 + r) v))))
theorem L_fog {X : va_W} {r : Int} {p : Int} {v : Int} {τ : SZ} {B : Int} (hl0 : l.stackTraces = false) (hr : Rng r) (hp : Rng p) (hv : Rng v) (hI : Iv B (τ 4)) (hB : B + 7 ≤ 100000000) (hx : 0 ≤ τ 14 1 ∧ τ 14 1 < 8) (hc : 0 ≤ τ 14 2 ∧ τ 14 2 ≤ 8) : LK l D A ad adV cA (.codeWith yL_fog method_6_code 5 (some .int) [(0, 7, 8, 22), (0, 7, 13, 14), (0, 7, 18, 16)]) yL_fog 22 1 6 [.ref (ad 0), .int (iI r), .int (iI p), .int (iI v)] (wO ad cA (sz τ) ++ X) (RV ad cA X (A_fog (τ 4) r p v) (S_fog τ r p v)) := by
  have h := (c_fog (τ := τ) hr hp hv hI hB hx hc).mono (show 6 ≤ 12 by decide)
  refine (w_fog hl0 h ?_).rv ?_
  · (repeat' split) <;> (first | exact Or.inl ⟨_, _, rfl⟩ | exact Or.inr ⟨0, _, _, rfl, rfl⟩ | exact Or.inr ⟨1, _, _, rfl, rfl⟩ | exact Or.inr ⟨2, _, _, rfl, rfl⟩)
  · unfold A_fog S_fog
    (repeat' split) <;> first | rfl | contradiction | exact ansK_x kof_0 | exact ansK_x (kof_1 (by decide)) | exact ansK_x (kof_2 (by decide) (by decide))
def A_pass (c : Nat → Int) : Int := if obP c = 3 then ((-1)) else ((cel (psT c) 108))
def S_pass (τ : SZ) : SZ := if obP (τ 4) = 3 then (rkp τ 5 (fsm (τ 4) (cel (τ 4) 107).toNat 0)) else (zr (hkp τ) 4 (psT (τ 4)))
theorem L_pass {X : va_W} {τ : SZ} {B : Int} (hl0 : l.stackTraces = false) (hI : Iv B (τ 4)) (hB : B + 7 ≤ 100000000) (hx : 0 ≤ τ 14 1 ∧ τ 14 1 < 8) (hc : 0 ≤ τ 14 2 ∧ τ 14 2 ≤ 8) : LK l D A ad adV cA (.codeWith yL_pass method_8_code 2 (some .int) [(0, 4, 5, 16)]) yL_pass 22 1 6 [.ref (ad 0)] (wO ad cA (sz τ) ++ X) (RV ad cA X (A_pass (τ 4)) (S_pass τ)) := by
  have h := (c_pass (τ := τ) hI hB hx hc).mono (show 7 ≤ 12 by decide)
  refine (w_pass hl0 h ?_).rv ?_
  · (repeat' split) <;> (first | exact Or.inl ⟨_, _, rfl⟩ | exact Or.inr ⟨0, _, _, rfl, rfl⟩ | exact Or.inr ⟨1, _, _, rfl, rfl⟩ | exact Or.inr ⟨2, _, _, rfl, rfl⟩)
  · unfold A_pass S_pass
    (repeat' split) <;> first | rfl | contradiction | exact ansK_x kof_0 | exact ansK_x (kof_1 (by decide)) | exact ansK_x (kof_2 (by decide) (by decide))
def A_undo (c : Nat → Int) (τ : SZ) : Int := if τ 14 2 = 0 then ((-1)) else ((τ 14 2 - 1))
def S_undo (τ : SZ) : SZ := if τ 14 2 = 0 then (τ) else (hpb τ)
theorem L_undo {X : va_W} {τ : SZ} (hl0 : l.stackTraces = false) (hx : 0 ≤ τ 14 1 ∧ τ 14 1 < 8) (hc : 0 ≤ τ 14 2 ∧ τ 14 2 ≤ 8) : LK l D A ad adV cA (.codeWith yL_undo method_30_code 2 (some .int) [(0, 4, 5, 104)]) yL_undo 22 1 6 [.ref (ad 0)] (wO ad cA (sz τ) ++ X) (RV ad cA X (A_undo (τ 4) τ) (S_undo τ)) := by
  have h := (c_undo (τ := τ) hx hc).mono (show 4 ≤ 12 by decide)
  refine (w_undo hl0 h ?_).rv ?_
  · (repeat' split) <;> (first | exact Or.inl ⟨_, _, rfl⟩ | exact Or.inr ⟨0, _, _, rfl, rfl⟩ | exact Or.inr ⟨1, _, _, rfl, rfl⟩ | exact Or.inr ⟨2, _, _, rfl, rfl⟩)
  · unfold A_undo S_undo
    (repeat' split) <;> first | rfl | contradiction | exact ansK_x kof_0 | exact ansK_x (kof_1 (by decide)) | exact ansK_x (kof_2 (by decide) (by decide))
def A_riverLine (c : Nat → Int) (r : Int) : Int := if 0 ≤ r ∧ r < 2 then (12) else ((-11))
def S_riverLine (τ : SZ) (r : Int) : SZ := if 0 ≤ r ∧ r < 2 then (lns τ (rvl (τ 4) r 12)) else (τ)
theorem L_riverLine {X : va_W} {r : Int} {τ : SZ} {B : Int} (hl0 : l.stackTraces = false) (hr : Rng r) (hS : Sh B (τ 4)) : LK l D A ad adV cA (.codeWith yL_riverLine method_24_code 3 (some .int) [(0, 5, 6, 22)]) yL_riverLine 22 1 6 [.ref (ad 0), .int (iI r)] (wO ad cA (sz τ) ++ X) (RV ad cA X (A_riverLine (τ 4) r) (S_riverLine τ r)) := by
  have h := (c_riverLine (τ := τ) hr hS).mono (show 6 ≤ 12 by decide)
  refine (w_riverLine hl0 h ?_).rv ?_
  · (repeat' split) <;> (first | exact Or.inl ⟨_, _, rfl⟩ | exact Or.inr ⟨0, _, _, rfl, rfl⟩ | exact Or.inr ⟨1, _, _, rfl, rfl⟩ | exact Or.inr ⟨2, _, _, rfl, rfl⟩)
  · unfold A_riverLine S_riverLine
    (repeat' split) <;> first | rfl | contradiction | exact ansK_x kof_0 | exact ansK_x (kof_1 (by decide)) | exact ansK_x (kof_2 (by decide) (by decide))
def A_ferryLine (c : Nat → Int) (f : Int) : Int := if 0 ≤ f ∧ f < cel c 107 then (((fll c f).length : Int)) else ((-11))
def S_ferryLine (τ : SZ) (f : Int) : SZ := if 0 ≤ f ∧ f < cel (τ 4) 107 then (lns τ (fll (τ 4) f)) else (τ)
theorem L_ferryLine {X : va_W} {f : Int} {τ : SZ} {B : Int} (hl0 : l.stackTraces = false) (hf : Rng f) (hS : Sh B (τ 4)) : LK l D A ad adV cA (.codeWith yL_ferryLine method_25_code 3 (some .int) [(0, 5, 6, 22)]) yL_ferryLine 22 1 6 [.ref (ad 0), .int (iI f)] (wO ad cA (sz τ) ++ X) (RV ad cA X (A_ferryLine (τ 4) f) (S_ferryLine τ f)) := by
  have h := (c_ferryLine (τ := τ) hf hS).mono (show 6 ≤ 12 by decide)
  refine (w_ferryLine hl0 h ?_).rv ?_
  · (repeat' split) <;> (first | exact Or.inl ⟨_, _, rfl⟩ | exact Or.inr ⟨0, _, _, rfl, rfl⟩ | exact Or.inr ⟨1, _, _, rfl, rfl⟩ | exact Or.inr ⟨2, _, _, rfl, rfl⟩)
  · unfold A_ferryLine S_ferryLine
    (repeat' split) <;> first | rfl | contradiction | exact ansK_x kof_0 | exact ansK_x (kof_1 (by decide)) | exact ansK_x (kof_2 (by decide) (by decide))
def A_character (c : Nat → Int) (τ : SZ) (z : Int) : Int := if 0 ≤ z ∧ z < τ 19 1 then ((τ 20 z.toNat)) else ((-11))
theorem L_character {X : va_W} {z : Int} {τ : SZ} (hl0 : l.stackTraces = false) (hz : Rng z) (h1 : 0 ≤ τ 19 1 ∧ τ 19 1 ≤ 12) (hch : ∀ i, 0 ≤ τ 20 i ∧ τ 20 i < 65536) : LK l D A ad adV cA (.codeWith yL_character method_26_code 3 (some .int) [(0, 5, 6, 22)]) yL_character 22 1 6 [.ref (ad 0), .int (iI z)] (wO ad cA (sz τ) ++ X) (RV ad cA X (A_character (τ 4) τ z) τ) := by
  have h := (c_character (τ := τ) hz h1 hch).mono (show 4 ≤ 12 by decide)
  refine (w_character hl0 h ?_).rv ?_
  · (repeat' split) <;> (first | exact Or.inl ⟨_, _, rfl⟩ | exact Or.inr ⟨0, _, _, rfl, rfl⟩ | exact Or.inr ⟨1, _, _, rfl, rfl⟩ | exact Or.inr ⟨2, _, _, rfl, rfl⟩)
  · unfold A_character
    (repeat' split) <;> first | rfl | contradiction | exact ansK_x kof_0 | exact ansK_x (kof_1 (by decide)) | exact ansK_x (kof_2 (by decide) (by decide))
def A_append (c : Nat → Int) (τ : SZ) (c : Int) : Int := if τ 16 1 = 60 then ((-14)) else ((τ 16 1 + 1))
def S_append (τ : SZ) (c : Int) : SZ := if τ 16 1 = 60 then (τ) else (tad τ c)
theorem L_append {X : va_W} {c : Int} {τ : SZ} (hl0 : l.stackTraces = false) (hc : 0 ≤ c ∧ c < 65536) (hT : Tx τ) : LK l D A ad adV cA (.codeWith yL_append method_27_code 3 (some .int) [(0, 5, 6, 104)]) yL_append 22 1 6 [.ref (ad 0), .int (iI c)] (wO ad cA (sz τ) ++ X) (RV ad cA X (A_append (τ 4) τ c) (S_append τ c)) := by
  have h := (c_append (τ := τ) hc hT).mono (show 4 ≤ 12 by decide)
  refine (w_append hl0 h ?_).rv ?_
  · (repeat' split) <;> (first | exact Or.inl ⟨_, _, rfl⟩ | exact Or.inr ⟨0, _, _, rfl, rfl⟩ | exact Or.inr ⟨1, _, _, rfl, rfl⟩ | exact Or.inr ⟨2, _, _, rfl, rfl⟩)
  · unfold A_append S_append
    (repeat' split) <;> first | rfl | contradiction | exact ansK_x kof_0 | exact ansK_x (kof_1 (by decide)) | exact ansK_x (kof_2 (by decide) (by decide))
end TEL
