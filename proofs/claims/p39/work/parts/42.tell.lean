/-! the wrappers that only tell, over the row of numbers: printed by wip/p39/db42.py -/
section TEL
variable {l : Launch} {D : va_G} {A : Nat → Prop} {ad adV : Nat → Nat} {cA : Nat → ClassId}
/-- a number, and the state behind it -/
def RV (ad : Nat → Nat) (cA : Nat → ClassId) (X : va_W) (k : Int) (τ : SZ) (v : Option Value) (V' : va_W) : Prop := v = some (.int (iI k)) ∧ V' = wO ad cA (sz τ) ++ X
theorem LK.rv {w : Jvm.Cond} {y : MethodName} {f mc ms : Nat} {as : List Value} {V X : va_W} {g : Int → Int} {ks : List (String × Int)} {r : RSZ} {k : Int} {τ : SZ} (h : LK l D A ad adV cA w y f mc ms as V (WGz ad cA X g ks r)) (e : ansK g ks r = (k, τ)) : LK l D A ad adV cA w y f mc ms as V (RV ad cA X k τ) := by
  have e2 : WGz ad cA X g ks r = RV ad cA X k τ := by
    funext v V'
    unfold WGz RV
    rw [e]
  rw [← e2]
  exact h
theorem ansK_x {g : Int → Int} {ks : List (String × Int)} {E : String} {τ : SZ} {k : Int} (h : kof ks E = k) : ansK g ks (.inr (E, τ)) = (k, τ) := by rw [← h]; rfl
theorem zBz_b2 {P : Prop} [Decidable P] : zBz (b2 P) = b2 P := by
  unfold b2 zBz
  split <;> rfl
def A_of (c : Nat → Int) (f : Int) (w : Int) : Int := if (0 ≤ f ∧ f < cel c 107) then (if 0 ≤ w ∧ w < 6 then (cel c (0 + f * 6 + w)) else (-12)) else (-11)
theorem L_of {X : va_W} {f : Int} {w : Int} {τ : SZ} {B : Int} (hl0 : l.stackTraces = false) (hf : Rng f) (hw : Rng w) (hS : Sh B (τ 4)) : LK l D A ad adV cA (.codeWith yL_of method_9_code 4 (some .int) [(0, 6, 7, 22), (0, 6, 11, 14)]) yL_of 22 2 12 [.ref (ad 0), .int (iI f), .int (iI w)] (wO ad cA (sz τ) ++ X) (RV ad cA X (A_of (τ 4) f w) τ) := by
  have h := (c_ferryOf hf hw hS).mono (show 6 ≤ 12 by decide)
  refine (w_of hl0 h ?_).rv ?_
  · (repeat' split) <;> (first | exact Or.inl ⟨_, _, rfl⟩ | exact Or.inr ⟨0, _, _, rfl, rfl⟩ | exact Or.inr ⟨1, _, _, rfl, rfl⟩ | exact Or.inr ⟨2, _, _, rfl, rfl⟩)
  · unfold A_of
    (repeat' split) <;> first | rfl | contradiction | exact ansK_x kof_0 | exact ansK_x (kof_1 (by decide)) | exact ansK_x (kof_2 (by decide) (by decide))
def A_at (c : Nat → Int) (r : Int) (p : Int) : Int := if (0 ≤ r ∧ r < 2) ∧ (0 ≤ p ∧ p < 12) then (whz c r p) else (-11)
theorem L_at {X : va_W} {r : Int} {p : Int} {τ : SZ} (hl0 : l.stackTraces = false) (hr : Rng r) (hp : Rng p) : LK l D A ad adV cA (.codeWith yL_at method_10_code 4 (some .int) [(0, 6, 7, 22)]) yL_at 22 1 6 [.ref (ad 0), .int (iI r), .int (iI p)] (wO ad cA (sz τ) ++ X) (RV ad cA X (A_at (τ 4) r p) τ) := by
  have h := (c_at hr hp).mono (show 6 ≤ 12 by decide)
  refine (w_at hl0 h ?_).rv ?_
  · (repeat' split) <;> (first | exact Or.inl ⟨_, _, rfl⟩ | exact Or.inr ⟨0, _, _, rfl, rfl⟩ | exact Or.inr ⟨1, _, _, rfl, rfl⟩ | exact Or.inr ⟨2, _, _, rfl, rfl⟩)
  · unfold A_at
    (repeat' split) <;> first | rfl | contradiction | exact ansK_x kof_0 | exact ansK_x (kof_1 (by decide)) | exact ansK_x (kof_2 (by decide) (by decide))
def A_lockAt (c : Nat → Int) (r : Int) (p : Int) : Int := if (0 ≤ r ∧ r < 2) ∧ (0 ≤ p ∧ p < 12) then (usz c r p) else (-11)
theorem L_lockAt {X : va_W} {r : Int} {p : Int} {τ : SZ} (hl0 : l.stackTraces = false) (hr : Rng r) (hp : Rng p) : LK l D A ad adV cA (.codeWith yL_lockAt method_11_code 4 (some .int) [(0, 6, 7, 22)]) yL_lockAt 22 1 6 [.ref (ad 0), .int (iI r), .int (iI p)] (wO ad cA (sz τ) ++ X) (RV ad cA X (A_lockAt (τ 4) r p) τ) := by
  have h := (c_lockAt hr hp).mono (show 6 ≤ 12 by decide)
  refine (w_lockAt hl0 h ?_).rv ?_
  · (repeat' split) <;> (first | exact Or.inl ⟨_, _, rfl⟩ | exact Or.inr ⟨0, _, _, rfl, rfl⟩ | exact Or.inr ⟨1, _, _, rfl, rfl⟩ | exact Or.inr ⟨2, _, _, rfl, rfl⟩)
  · unfold A_lockAt
    (repeat' split) <;> first | rfl | contradiction | exact ansK_x kof_0 | exact ansK_x (kof_1 (by decide)) | exact ansK_x (kof_2 (by decide) (by decide))
def A_isFog (c : Nat → Int) (r : Int) (p : Int) : Int := if (0 ≤ r ∧ r < 2) ∧ (0 ≤ p ∧ p < 12) then (b2 (fgd c r p)) else (-11)
theorem L_isFog {X : va_W} {r : Int} {p : Int} {τ : SZ} {B : Int} (hl0 : l.stackTraces = false) (hr : Rng r) (hp : Rng p) (hS : Sh B (τ 4)) : LK l D A ad adV cA (.codeWith yL_isFog method_12_code 4 (some .int) [(0, 14, 15, 22)]) yL_isFog 22 1 6 [.ref (ad 0), .int (iI r), .int (iI p)] (wO ad cA (sz τ) ++ X) (RV ad cA X (A_isFog (τ 4) r p) τ) := by
  have h := (c_isFog hr hp hS).mono (show 6 ≤ 12 by decide)
  refine (w_isFog hl0 h ?_).rv ?_
  · refine ⟨by (repeat' split) <;> (first | exact Or.inl ⟨_, _, rfl⟩ | exact Or.inr ⟨0, _, _, rfl, rfl⟩ | exact Or.inr ⟨1, _, _, rfl, rfl⟩ | exact Or.inr ⟨2, _, _, rfl, rfl⟩), fun e => ?_⟩
    (repeat' split at e) <;> first | (cases e; exact b2_or) | cases e
  · unfold A_isFog
    (repeat' split) <;> first | rfl | contradiction | exact ansK_x kof_0 | (exact congrArg (fun x => (x, τ)) zBz_b2)
def A_would_0 (c : Nat → Int) (f : Int) (r : Int) : Int := if (0 ≤ f ∧ f < cel c 107) ∧ (0 ≤ r ∧ r < 2) then (if (ocn c f r (-1) = 1 ∨ ocn c f r (-1) = 2 ∨ ocn c f r (-1) = 3) then ocn c f r (-1) else 0) else (-11)
theorem L_would_0 {X : va_W} {f : Int} {r : Int} {τ : SZ} {B : Int} (hl0 : l.stackTraces = false) (hf : Rng f) (hr : Rng r) (hS : Sh B (τ 4)) : LK l D A ad adV cA (.codeWith yL_would method_13_code 5 (some .int) [(0, 7, 8, 22)]) yL_would 22 1 6 [.ref (ad 0), .int (iI f), .int (iI r), .int (iI 0)] (wO ad cA (sz τ) ++ X) (RV ad cA X (A_would_0 (τ 4) f r) τ) := by
  have h := (c_would_0 hf hr hS).mono (show 7 ≤ 12 by decide)
  refine (w_would hl0 h ?_).rv ?_
  · (repeat' split) <;> (first | exact Or.inl ⟨_, _, rfl⟩ | exact Or.inr ⟨0, _, _, rfl, rfl⟩ | exact Or.inr ⟨1, _, _, rfl, rfl⟩ | exact Or.inr ⟨2, _, _, rfl, rfl⟩)
  · unfold A_would_0
    (repeat' split) <;> first | rfl | contradiction | exact ansK_x kof_0 | exact ansK_x (kof_1 (by decide)) | exact ansK_x (kof_2 (by decide) (by decide))
def A_to_0 (c : Nat → Int) (f : Int) (r : Int) : Int := if (0 ≤ f ∧ f < cel c 107) ∧ (0 ≤ r ∧ r < 2) then (if (ocn c f r (-1) = 1 ∨ ocn c f r (-1) = 2 ∨ ocn c f r (-1) = 3) then (gol c f r (-1)) else (-13)) else (-11)
theorem L_to_0 {X : va_W} {f : Int} {r : Int} {τ : SZ} {B : Int} (hl0 : l.stackTraces = false) (hf : Rng f) (hr : Rng r) (hS : Sh B (τ 4)) : LK l D A ad adV cA (.codeWith yL_to method_15_code 5 (some .int) [(0, 7, 8, 22), (0, 7, 13, 58)]) yL_to 22 2 12 [.ref (ad 0), .int (iI f), .int (iI r), .int (iI 0)] (wO ad cA (sz τ) ++ X) (RV ad cA X (A_to_0 (τ 4) f r) τ) := by
  have h := (c_to_0 hf hr hS).mono (show 7 ≤ 12 by decide)
  refine (w_to hl0 h ?_).rv ?_
  · (repeat' split) <;> (first | exact Or.inl ⟨_, _, rfl⟩ | exact Or.inr ⟨0, _, _, rfl, rfl⟩ | exact Or.inr ⟨1, _, _, rfl, rfl⟩ | exact Or.inr ⟨2, _, _, rfl, rfl⟩)
  · unfold A_to_0
    (repeat' split) <;> first | rfl | contradiction | exact ansK_x kof_0 | exact ansK_x (kof_1 (by decide)) | exact ansK_x (kof_2 (by decide) (by decide))
def A_why_0_0 (c : Nat → Int) (f : Int) (r : Int) : Int := if (0 ≤ f ∧ f < cel c 107) ∧ (0 ≤ r ∧ r < 2) then (if (ocn c f r (-1) = 1 ∨ ocn c f r (-1) = 2 ∨ ocn c f r (-1) = 3) then (-13) else (ocn c f r (-1))) else (-11)
theorem L_why_0_0 {X : va_W} {f : Int} {r : Int} {τ : SZ} {B : Int} (hl0 : l.stackTraces = false) (hf : Rng f) (hr : Rng r) (hS : Sh B (τ 4)) : LK l D A ad adV cA (.codeWith yL_why method_14_code 6 (some .int) [(0, 9, 10, 22), (0, 9, 15, 58)]) yL_why 22 2 12 [.ref (ad 0), .int (iI f), .int (iI r), .int (iI 0), .int (iI 0)] (wO ad cA (sz τ) ++ X) (RV ad cA X (A_why_0_0 (τ 4) f r) τ) := by
  have h := (c_why_0_0 hf hr hS).mono (show 7 ≤ 12 by decide)
  refine (w_why hl0 h ?_).rv ?_
  · (repeat' split) <;> (first | exact Or.inl ⟨_, _, rfl⟩ | exact Or.inr ⟨0, _, _, rfl, rfl⟩ | exact Or.inr ⟨1, _, _, rfl, rfl⟩ | exact Or.inr ⟨2, _, _, rfl, rfl⟩)
  · unfold A_why_0_0
    (repeat' split) <;> first | rfl | contradiction | exact ansK_x kof_0 | exact ansK_x (kof_1 (by decide)) | exact ansK_x (kof_2 (by decide) (by decide))
def A_why_0_1 (c : Nat → Int) (f : Int) (r : Int) : Int := if (0 ≤ f ∧ f < cel c 107) ∧ (0 ≤ r ∧ r < 2) then (if (ocn c f r (-1) = 1 ∨ ocn c f r (-1) = 2 ∨ ocn c f r (-1) = 3) then (-13) else (dtl c (ocn c f r (-1)) f r (-1))) else (-11)
theorem L_why_0_1 {X : va_W} {f : Int} {r : Int} {τ : SZ} {B : Int} (hl0 : l.stackTraces = false) (hf : Rng f) (hr : Rng r) (hS : Sh B (τ 4)) : LK l D A ad adV cA (.codeWith yL_why method_14_code 6 (some .int) [(0, 9, 10, 22), (0, 9, 15, 58)]) yL_why 22 2 12 [.ref (ad 0), .int (iI f), .int (iI r), .int (iI 0), .int (iI 1)] (wO ad cA (sz τ) ++ X) (RV ad cA X (A_why_0_1 (τ 4) f r) τ) := by
  have h := (c_why_0_1 hf hr hS).mono (show 7 ≤ 12 by decide)
  refine (w_why hl0 h ?_).rv ?_
  · (repeat' split) <;> (first | exact Or.inl ⟨_, _, rfl⟩ | exact Or.inr ⟨0, _, _, rfl, rfl⟩ | exact Or.inr ⟨1, _, _, rfl, rfl⟩ | exact Or.inr ⟨2, _, _, rfl, rfl⟩)
  · unfold A_why_0_1
    (repeat' split) <;> first | rfl | contradiction | exact ansK_x kof_0 | exact ansK_x (kof_1 (by decide)) | exact ansK_x (kof_2 (by decide) (by decide))
def A_moves_0 (c : Nat → Int) (x : Int) : Int := if 0 ≤ x ∧ x < 2 then (mbf c x (cel c 107).toNat) else (-12)
theorem L_moves_0 {X : va_W} {x : Int} {τ : SZ} {B : Int} {N : Nat} (hl0 : l.stackTraces = false) (hx : Rng x) (hS : Sh B (τ 4)) (hn : cel (τ 4) 107 = (N : Int)) : LK l D A ad adV cA (.codeWith yL_moves method_16_code 4 (some .int) [(0, 6, 7, 14)]) yL_moves 22 1 6 [.ref (ad 0), .int (iI x), .int (iI 0)] (wO ad cA (sz τ) ++ X) (RV ad cA X (A_moves_0 (τ 4) x) τ) := by
  have h := (c_moves_0 hx hS hn).mono (show 8 ≤ 12 by decide)
  rw [show N = (cel (τ 4) 107).toNat from by omega] at h
  refine (w_moves hl0 h ?_).rv ?_
  · (repeat' split) <;> (first | exact Or.inl ⟨_, _, rfl⟩ | exact Or.inr ⟨0, _, _, rfl, rfl⟩ | exact Or.inr ⟨1, _, _, rfl, rfl⟩ | exact Or.inr ⟨2, _, _, rfl, rfl⟩)
  · unfold A_moves_0
    (repeat' split) <;> first | rfl | contradiction | exact ansK_x kof_0 | exact ansK_x (kof_1 (by decide)) | exact ansK_x (kof_2 (by decide) (by decide))
def A_captures_0 (c : Nat → Int) (x : Int) : Int := if 0 ≤ x ∧ x < 2 then (cbj c x (cel c 107).toNat) else (-12)
theorem L_captures_0 {X : va_W} {x : Int} {τ : SZ} {B : Int} {N : Nat} (hl0 : l.stackTraces = false) (hx : Rng x) (hS : Sh B (τ 4)) (hn : cel (τ 4) 107 = (N : Int)) : LK l D A ad adV cA (.codeWith yL_captures method_17_code 4 (some .int) [(0, 6, 7, 14)]) yL_captures 22 1 6 [.ref (ad 0), .int (iI x), .int (iI 0)] (wO ad cA (sz τ) ++ X) (RV ad cA X (A_captures_0 (τ 4) x) τ) := by
  have h := (c_captures_0 hx hS hn).mono (show 8 ≤ 12 by decide)
  rw [show N = (cel (τ 4) 107).toNat from by omega] at h
  refine (w_captures hl0 h ?_).rv ?_
  · (repeat' split) <;> (first | exact Or.inl ⟨_, _, rfl⟩ | exact Or.inr ⟨0, _, _, rfl, rfl⟩ | exact Or.inr ⟨1, _, _, rfl, rfl⟩ | exact Or.inr ⟨2, _, _, rfl, rfl⟩)
  · unfold A_captures_0
    (repeat' split) <;> first | rfl | contradiction | exact ansK_x kof_0 | exact ansK_x (kof_1 (by decide)) | exact ansK_x (kof_2 (by decide) (by decide))
def A_would_1 (c : Nat → Int) (f : Int) (r : Int) : Int := if (0 ≤ f ∧ f < cel c 107) ∧ (0 ≤ r ∧ r < 2) then (if (ocn c f r 1 = 1 ∨ ocn c f r 1 = 2 ∨ ocn c f r 1 = 3) then ocn c f r 1 else 0) else (-11)
theorem L_would_1 {X : va_W} {f : Int} {r : Int} {τ : SZ} {B : Int} (hl0 : l.stackTraces = false) (hf : Rng f) (hr : Rng r) (hS : Sh B (τ 4)) : LK l D A ad adV cA (.codeWith yL_would method_13_code 5 (some .int) [(0, 7, 8, 22)]) yL_would 22 1 6 [.ref (ad 0), .int (iI f), .int (iI r), .int (iI 1)] (wO ad cA (sz τ) ++ X) (RV ad cA X (A_would_1 (τ 4) f r) τ) := by
  have h := (c_would_1 hf hr hS).mono (show 7 ≤ 12 by decide)
  refine (w_would hl0 h ?_).rv ?_
  · (repeat' split) <;> (first | exact Or.inl ⟨_, _, rfl⟩ | exact Or.inr ⟨0, _, _, rfl, rfl⟩ | exact Or.inr ⟨1, _, _, rfl, rfl⟩ | exact Or.inr ⟨2, _, _, rfl, rfl⟩)
  · unfold A_would_1
    (repeat' split) <;> first | rfl | contradiction | exact ansK_x kof_0 | exact ansK_x (kof_1 (by decide)) | exact ansK_x (kof_2 (by decide) (by decide))
def A_to_1 (c : Nat → Int) (f : Int) (r : Int) : Int := if (0 ≤ f ∧ f < cel c 107) ∧ (0 ≤ r ∧ r < 2) then (if (ocn c f r 1 = 1 ∨ ocn c f r 1 = 2 ∨ ocn c f r 1 = 3) then (gol c f r 1) else (-13)) else (-11)
theorem L_to_1 {X : va_W} {f : Int} {r : Int} {τ : SZ} {B : Int} (hl0 : l.stackTraces = false) (hf : Rng f) (hr : Rng r) (hS : Sh B (τ 4)) : LK l D A ad adV cA (.codeWith yL_to method_15_code 5 (some .int) [(0, 7, 8, 22), (0, 7, 13, 58)]) yL_to 22 2 12 [.ref (ad 0), .int (iI f), .int (iI r), .int (iI 1)] (wO ad cA (sz τ) ++ X) (RV ad cA X (A_to_1 (τ 4) f r) τ) := by
  have h := (c_to_1 hf hr hS).mono (show 7 ≤ 12 by decide)
  refine (w_to hl0 h ?_).rv ?_
  · (repeat' split) <;> (first | exact Or.inl ⟨_, _, rfl⟩ | exact Or.inr ⟨0, _, _, rfl, rfl⟩ | exact Or.inr ⟨1, _, _, rfl, rfl⟩ | exact Or.inr ⟨2, _, _, rfl, rfl⟩)
  · unfold A_to_1
    (repeat' split) <;> first | rfl | contradiction | exact ansK_x kof_0 | exact ansK_x (kof_1 (by decide)) | exact ansK_x (kof_2 (by decide) (by decide))
def A_why_1_0 (c : Nat → Int) (f : Int) (r : Int) : Int := if (0 ≤ f ∧ f < cel c 107) ∧ (0 ≤ r ∧ r < 2) then (if (ocn c f r 1 = 1 ∨ ocn c f r 1 = 2 ∨ ocn c f r 1 = 3) then (-13) else (ocn c f r 1)) else (-11)
theorem L_why_1_0 {X : va_W} {f : Int} {r : Int} {τ : SZ} {B : Int} (hl0 : l.stackTraces = false) (hf : Rng f) (hr : Rng r) (hS : Sh B (τ 4)) : LK l D A ad adV cA (.codeWith yL_why method_14_code 6 (some .int) [(0, 9, 10, 22), (0, 9, 15, 58)]) yL_why 22 2 12 [.ref (ad 0), .int (iI f), .int (iI r), .int (iI 1), .int (iI 0)] (wO ad cA (sz τ) ++ X) (RV ad cA X (A_why_1_0 (τ 4) f r) τ) := by
  have h := (c_why_1_0 hf hr hS).mono (show 7 ≤ 12 by decide)
  refine (w_why hl0 h ?_).rv ?_
  · (repeat' split) <;> (first | exact Or.inl ⟨_, _, rfl⟩ | exact Or.inr ⟨0, _, _, rfl, rfl⟩ | exact Or.inr ⟨1, _, _, rfl, rfl⟩ | exact Or.inr ⟨2, _, _, rfl, rfl⟩)
  · unfold A_why_1_0
    (repeat' split) <;> first | rfl | contradiction | exact ansK_x kof_0 | exact ansK_x (kof_1 (by decide)) | exact ansK_x (kof_2 (by decide) (by decide))
def A_why_1_1 (c : Nat → Int) (f : Int) (r : Int) : Int := if (0 ≤ f ∧ f < cel c 107) ∧ (0 ≤ r ∧ r < 2) then (if (ocn c f r 1 = 1 ∨ ocn c f r 1 = 2 ∨ ocn c f r 1 = 3) then (-13) else (dtl c (ocn c f r 1) f r 1)) else (-11)
theorem L_why_1_1 {X : va_W} {f : Int} {r : Int} {τ : SZ} {B : Int} (hl0 : l.stackTraces = false) (hf : Rng f) (hr : Rng r) (hS : Sh B (τ 4)) : LK l D A ad adV cA (.codeWith yL_why method_14_code 6 (some .int) [(0, 9, 10, 22), (0, 9, 15, 58)]) yL_why 22 2 12 [.ref (ad 0), .int (iI f), .int (iI r), .int (iI 1), .int (iI 1)] (wO ad cA (sz τ) ++ X) (RV ad cA X (A_why_1_1 (τ 4) f r) τ) := by
  have h := (c_why_1_1 hf hr hS).mono (show 7 ≤ 12 by decide)
  refine (w_why hl0 h ?_).rv ?_
  · (repeat' split) <;> (first | exact Or.inl ⟨_, _, rfl⟩ | exact Or.inr ⟨0, _, _, rfl, rfl⟩ | exact Or.inr ⟨1, _, _, rfl, rfl⟩ | exact Or.inr ⟨2, _, _, rfl, rfl⟩)
  · unfold A_why_1_1
    (repeat' split) <;> first | rfl | contradiction | exact ansK_x kof_0 | exact ansK_x (kof_1 (by decide)) | exact ansK_x (kof_2 (by decide) (by decide))
def A_moves_1 (c : Nat → Int) (x : Int) : Int := if 0 ≤ x ∧ x < 2 then (mbp c x) else (-12)
theorem L_moves_1 {X : va_W} {x : Int} {τ : SZ} {B : Int} {N : Nat} (hl0 : l.stackTraces = false) (hx : Rng x) (hS : Sh B (τ 4)) (hn : cel (τ 4) 107 = (N : Int)) : LK l D A ad adV cA (.codeWith yL_moves method_16_code 4 (some .int) [(0, 6, 7, 14)]) yL_moves 22 1 6 [.ref (ad 0), .int (iI x), .int (iI 1)] (wO ad cA (sz τ) ++ X) (RV ad cA X (A_moves_1 (τ 4) x) τ) := by
  have h := (c_moves_1 hx hS hn).mono (show 8 ≤ 12 by decide)
  rw [show N = (cel (τ 4) 107).toNat from by omega] at h
  refine (w_moves hl0 h ?_).rv ?_
  · (repeat' split) <;> (first | exact Or.inl ⟨_, _, rfl⟩ | exact Or.inr ⟨0, _, _, rfl, rfl⟩ | exact Or.inr ⟨1, _, _, rfl, rfl⟩ | exact Or.inr ⟨2, _, _, rfl, rfl⟩)
  · unfold A_moves_1
    (repeat' split) <;> first | rfl | contradiction | exact ansK_x kof_0 | exact ansK_x (kof_1 (by decide)) | exact ansK_x (kof_2 (by decide) (by decide))
def A_captures_1 (c : Nat → Int) (x : Int) : Int := if 0 ≤ x ∧ x < 2 then (cbd c x (cel c 107).toNat) else (-12)
theorem L_captures_1 {X : va_W} {x : Int} {τ : SZ} {B : Int} {N : Nat} (hl0 : l.stackTraces = false) (hx : Rng x) (hS : Sh B (τ 4)) (hn : cel (τ 4) 107 = (N : Int)) : LK l D A ad adV cA (.codeWith yL_captures method_17_code 4 (some .int) [(0, 6, 7, 14)]) yL_captures 22 1 6 [.ref (ad 0), .int (iI x), .int (iI 1)] (wO ad cA (sz τ) ++ X) (RV ad cA X (A_captures_1 (τ 4) x) τ) := by
  have h := (c_captures_1 hx hS hn).mono (show 8 ≤ 12 by decide)
  rw [show N = (cel (τ 4) 107).toNat from by omega] at h
  refine (w_captures hl0 h ?_).rv ?_
  · (repeat' split) <;> (first | exact Or.inl ⟨_, _, rfl⟩ | exact Or.inr ⟨0, _, _, rfl, rfl⟩ | exact Or.inr ⟨1, _, _, rfl, rfl⟩ | exact Or.inr ⟨2, _, _, rfl, rfl⟩)
  · unfold A_captures_1
    (repeat' split) <;> first | rfl | contradiction | exact ansK_x kof_0 | exact ansK_x (kof_1 (by decide)) | exact ansK_x (kof_2 (by decide) (by decide))
def A_isThreatened (c : Nat → Int) (f : Int) : Int := if (0 ≤ f ∧ f < cel c 107) then (b2 (0 < jov c f)) else (-11)
theorem L_isThreatened {X : va_W} {f : Int} {τ : SZ} {B : Int} (hl0 : l.stackTraces = false) (hf : Rng f) (hS : Sh B (τ 4)) : LK l D A ad adV cA (.codeWith yL_isThreatened method_18_code 3 (some .int) [(0, 13, 14, 22)]) yL_isThreatened 22 1 6 [.ref (ad 0), .int (iI f)] (wO ad cA (sz τ) ++ X) (RV ad cA X (A_isThreatened (τ 4) f) τ) := by
  have h := (c_isThreatened hf hS).mono (show 7 ≤ 12 by decide)
  refine (w_isThreatened hl0 h ?_).rv ?_
  · refine ⟨by (repeat' split) <;> (first | exact Or.inl ⟨_, _, rfl⟩ | exact Or.inr ⟨0, _, _, rfl, rfl⟩ | exact Or.inr ⟨1, _, _, rfl, rfl⟩ | exact Or.inr ⟨2, _, _, rfl, rfl⟩), fun e => ?_⟩
    (repeat' split at e) <;> first | (cases e; exact b2_or) | cases e
  · unfold A_isThreatened
    (repeat' split) <;> first | rfl | contradiction | exact ansK_x kof_0 | (exact congrArg (fun x => (x, τ)) zBz_b2)
def A_toLock (c : Nat → Int) (f : Int) (r : Int) : Int := if (0 ≤ f ∧ f < cel c 107) ∧ (0 ≤ r ∧ r < 2) then (if wtl c f r 11 = 0 then (-13) else (wtl c f r 11)) else (-11)
theorem L_toLock {X : va_W} {f : Int} {r : Int} {τ : SZ} {B : Int} (hl0 : l.stackTraces = false) (hf : Rng f) (hr : Rng r) (hS : Sh B (τ 4)) : LK l D A ad adV cA (.codeWith yL_toLock method_21_code 4 (some .int) [(0, 6, 7, 22), (0, 6, 11, 58)]) yL_toLock 22 2 12 [.ref (ad 0), .int (iI f), .int (iI r)] (wO ad cA (sz τ) ++ X) (RV ad cA X (A_toLock (τ 4) f r) τ) := by
  have h := (c_toLock hf hr hS).mono (show 7 ≤ 12 by decide)
  refine (w_toLock hl0 h ?_).rv ?_
  · (repeat' split) <;> (first | exact Or.inl ⟨_, _, rfl⟩ | exact Or.inr ⟨0, _, _, rfl, rfl⟩ | exact Or.inr ⟨1, _, _, rfl, rfl⟩ | exact Or.inr ⟨2, _, _, rfl, rfl⟩)
  · unfold A_toLock
    (repeat' split) <;> first | rfl | contradiction | exact ansK_x kof_0 | exact ansK_x (kof_1 (by decide)) | exact ansK_x (kof_2 (by decide) (by decide))
def A_boldest (c : Nat → Int) (p : Int) : Int := if ffs (fun f => ahd (fun k => bdn c (k : Int)) f (cel c 107).toNat) p (cel c 107).toNat 0 = -1 then (-13) else (ffs (fun f => ahd (fun k => bdn c (k : Int)) f (cel c 107).toNat) p (cel c 107).toNat 0)
theorem L_boldest {X : va_W} {p : Int} {τ : SZ} {B : Int} {N : Nat} (hl0 : l.stackTraces = false) (hp : Rng p) (hS : Sh B (τ 4)) (hn : cel (τ 4) 107 = (N : Int)) : LK l D A ad adV cA (.codeWith yL_boldest method_22_code 3 (some .int) [(0, 5, 6, 58)]) yL_boldest 22 1 6 [.ref (ad 0), .int (iI p)] (wO ad cA (sz τ) ++ X) (RV ad cA X (A_boldest (τ 4) p) τ) := by
  have h := (c_boldest hp hS hn).mono (show 7 ≤ 12 by decide)
  rw [show N = (cel (τ 4) 107).toNat from by omega] at h
  refine (w_boldest hl0 h ?_).rv ?_
  · (repeat' split) <;> (first | exact Or.inl ⟨_, _, rfl⟩ | exact Or.inr ⟨0, _, _, rfl, rfl⟩ | exact Or.inr ⟨1, _, _, rfl, rfl⟩ | exact Or.inr ⟨2, _, _, rfl, rfl⟩)
  · unfold A_boldest
    (repeat' split) <;> first | rfl | contradiction | exact ansK_x kof_0 | exact ansK_x (kof_1 (by decide)) | exact ansK_x (kof_2 (by decide) (by decide))
def A_farthest (c : Nat → Int) (p : Int) : Int := if ffs (fun f => ahd (fun k => wcm c (k : Int)) f (cel c 107).toNat) p (cel c 107).toNat 0 = -1 then (-13) else (ffs (fun f => ahd (fun k => wcm c (k : Int)) f (cel c 107).toNat) p (cel c 107).toNat 0)
theorem L_farthest {X : va_W} {p : Int} {τ : SZ} {B : Int} {N : Nat} (hl0 : l.stackTraces = false) (hp : Rng p) (hS : Sh B (τ 4)) (hn : cel (τ 4) 107 = (N : Int)) : LK l D A ad adV cA (.codeWith yL_farthest method_23_code 3 (some .int) [(0, 5, 6, 58)]) yL_farthest 22 1 6 [.ref (ad 0), .int (iI p)] (wO ad cA (sz τ) ++ X) (RV ad cA X (A_farthest (τ 4) p) τ) := by
  have h := (c_farthest hp hS hn).mono (show 7 ≤ 12 by decide)
  rw [show N = (cel (τ 4) 107).toNat from by omega] at h
  refine (w_farthest hl0 h ?_).rv ?_
  · (repeat' split) <;> (first | exact Or.inl ⟨_, _, rfl⟩ | exact Or.inr ⟨0, _, _, rfl, rfl⟩ | exact Or.inr ⟨1, _, _, rfl, rfl⟩ | exact Or.inr ⟨2, _, _, rfl, rfl⟩)
  · unfold A_farthest
    (repeat' split) <;> first | rfl | contradiction | exact ansK_x kof_0 | exact ansK_x (kof_1 (by decide)) | exact ansK_x (kof_2 (by decide) (by decide))
end TEL
