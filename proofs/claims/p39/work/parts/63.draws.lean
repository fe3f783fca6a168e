/-! the changes that the law draws: printed by wip/p39/db63.py -/
section DRW
variable {l : Launch} {D : va_G} {A : Nat → Prop} {ad adV : Nat → Nat} {cA : Nat → ClassId}
theorem D_ferry {X : va_W} {τ : SZ} {h : List (Nat → Int)} {B k x p q : Int} (hl0 : l.stackTraces = false) (C : CV B τ h) (hB : B + 100 ≤ 100000000) (J : DJ (τ 4) k 0) (hk : k < 8) (hx : 0 ≤ x ∧ x < 2) (hp : 0 ≤ p ∧ p < 12) (hq : 0 ≤ q ∧ q < 12) : ∃ (z : Int) (τ1 : SZ) (h1 : List (Nat → Int)), LK l D A ad adV cA (.codeWith yL_ferry method_3_code 5 (some .int) [(0, 7, 8, 14), (0, 7, 13, 16)]) yL_ferry 22 1 6 [.ref (ad 0), .int (iI x), .int (iI p), .int (iI q)] (wO ad cA (sz τ) ++ X) (RV ad cA X z τ1) ∧ (z = -1 → τ1 10 0 = 2 ∧ 0 < τ1 9 2) ∧ (-1 ≤ z ∧ z ≤ 12) ∧ CV (B + 100) τ1 h1 ∧ DJ (τ1 4) (k + 1) 0 := by
  have hn := C.1.1.n
  have w := L_ferry (x := x) (p := p) (q := q) (X := X) (τ := τ) (B := B) (ad := ad) (adV := adV) (cA := cA) (D := D) (A := A) hl0 ⟨by omega, by omega⟩ ⟨by omega, by omega⟩ ⟨by omega, by omega⟩ C.1 (by omega) C.h1 C.h2
  have oo := o_ferry C hB x p q
  have hn8 : cel (τ 4) 107 < 8 := by have := J.1; omega
  have h2 : ¬ obF (τ 4) x p q = 2 := by
    unfold obF
    rw [if_neg (fun z => z ⟨hx, hp, hq⟩)]
    (repeat' split) <;> omega
  unfold A_ferry S_ferry at w oo
  by_cases h3 : obF (τ 4) x p q = 3
  · rw [if_neg h2, if_neg h2, if_pos h3, if_pos h3] at w
    exact ⟨-1, _, h, w, fun _ => ⟨(show rwF (τ 4) = 2 from if_neg (by omega)), (show (0 : Int) < 1 by decide)⟩, ⟨by omega, by omega⟩, C.rkp.mono (by omega) hB, J.mono (by omega) (by omega)⟩
  · rw [if_neg h2, if_neg h2, if_neg h3, if_neg h3] at w oo
    rcases oo with ⟨o1, -⟩ | ⟨-, o2⟩
    · omega
    · exact ⟨_, _, _, w, fun z => absurd z (by omega), ⟨by omega, by omega⟩, o2, J.adf ⟨hn.1, hn8⟩ hp hq⟩
theorem D_lock {X : va_W} {τ : SZ} {h : List (Nat → Int)} {B k t r p v : Int} (hl0 : l.stackTraces = false) (C : CV B τ h) (hB : B + 100 ≤ 100000000) (J : DJ (τ 4) k t) (hr : 0 ≤ r ∧ r < 2) (hp : 0 ≤ p ∧ p < 12) (hv : 0 ≤ v ∧ v ≤ 3) : ∃ (z : Int) (τ1 : SZ) (h1 : List (Nat → Int)), LK l D A ad adV cA (.codeWith yL_lock method_5_code 5 (some .int) [(0, 7, 8, 22), (0, 7, 13, 14), (0, 7, 18, 16)]) yL_lock 22 1 6 [.ref (ad 0), .int (iI r), .int (iI p), .int (iI v)] (wO ad cA (sz τ) ++ X) (RV ad cA X z τ1) ∧ (z = -1 → τ1 10 0 = 3 ∧ 0 < τ1 9 2) ∧ (-1 ≤ z ∧ z ≤ 12) ∧ CV (B + 100) τ1 h1 ∧ DJ (τ1 4) k t := by
  have hu := C.1.1.us (p := p) hr
  have w := L_lock (r := r) (p := p) (v := v) (X := X) (τ := τ) (B := B) (ad := ad) (adV := adV) (cA := cA) (D := D) (A := A) hl0 ⟨by omega, by omega⟩ ⟨by omega, by omega⟩ ⟨by omega, by omega⟩ C.1 (by omega) C.h1 C.h2
  have oo := o_lock C hB r p v
  have h1 : ¬ obL (τ 4) r p v = 1 := by
    unfold obL
    rw [if_neg (fun z => z ⟨hr, hp⟩)]
    (repeat' split) <;> omega
  have h2 : ¬ obL (τ 4) r p v = 2 := by
    unfold obL
    rw [if_neg (fun z => z ⟨hr, hp⟩), if_neg (fun z => z hv)]
    split <;> omega
  unfold A_lock S_lock at w oo
  by_cases h3 : obL (τ 4) r p v = 3
  · rw [if_neg h1, if_neg h1, if_neg h2, if_neg h2, if_pos h3, if_pos h3] at w
    exact ⟨-1, _, h, w, fun _ => ⟨rfl, (show (0 : Int) < 1 by decide)⟩, ⟨by omega, by omega⟩, C.rkp.mono (by omega) hB, J⟩
  · rw [if_neg h1, if_neg h1, if_neg h2, if_neg h2, if_neg h3, if_neg h3] at w oo
    rcases oo with ⟨o1, -⟩ | ⟨-, o2⟩
    · omega
    · exact ⟨_, _, _, w, fun z => absurd z (by omega), ⟨by omega, by omega⟩, o2, J.sus hr⟩
theorem D_tug {X : va_W} {τ : SZ} {h : List (Nat → Int)} {B k t r p : Int} (hl0 : l.stackTraces = false) (C : CV B τ h) (hB : B + 100 ≤ 100000000) (J : DJ (τ 4) k t) (ht : t ≤ 3) (hr : 0 ≤ r ∧ r < 2) (hp : 0 ≤ p ∧ p < 12) : ∃ (z : Int) (τ1 : SZ) (h1 : List (Nat → Int)), LK l D A ad adV cA (.codeWith yL_tug method_4_code 4 (some .int) [(0, 6, 7, 22), (0, 6, 11, 16)]) yL_tug 22 1 6 [.ref (ad 0), .int (iI r), .int (iI p)] (wO ad cA (sz τ) ++ X) (RV ad cA X z τ1) ∧ (z = -1 → τ1 10 0 = 2 ∧ 0 < τ1 9 2) ∧ (-1 ≤ z ∧ z ≤ 12) ∧ CV (B + 100) τ1 h1 ∧ DJ (τ1 4) k (t + 1) := by
  have w := L_tug (r := r) (p := p) (X := X) (τ := τ) (B := B) (ad := ad) (adV := adV) (cA := cA) (D := D) (A := A) hl0 ⟨by omega, by omega⟩ ⟨by omega, by omega⟩ C.1 (by omega) C.h1 C.h2
  have oo := o_tug C hB r p
  have hb : 0 ≤ tgs (swh (τ 4) r p 8) r ∧ tgs (swh (τ 4) r p 8) r ≤ ((12 : Nat) : Int) := sm_01 (fun k _ => by have q := @b2_or (whz (swh (τ 4) r p 8) r (k : Int) = 8) _; omega)
  have h1 : ¬ obT (τ 4) r p = 1 := by
    unfold obT
    rw [if_neg (fun z => z ⟨hr, hp⟩)]
    (repeat' split) <;> omega
  have h4 : ¬ 4 ≤ tgo (τ 4) r := by
    rcases (show r = 0 ∨ r = 1 by omega) with rfl | rfl
    · have := J.2.2.1; omega
    · have := J.2.2.2; omega
  unfold A_tug S_tug at w oo
  by_cases h3 : obT (τ 4) r p = 3
  · rw [if_neg h1, if_neg h1, if_pos h3, if_pos h3] at w
    exact ⟨-1, _, h, w, fun _ => ⟨(show rwT (τ 4) r = 2 from if_neg h4), (show (0 : Int) < 1 by decide)⟩, ⟨by omega, by omega⟩, C.rkp.mono (by omega) hB, J.mono (by omega) (by omega)⟩
  · rw [if_neg h1, if_neg h1, if_neg h3, if_neg h3] at w oo
    rcases oo with ⟨o1, -⟩ | ⟨-, o2⟩
    · omega
    · exact ⟨_, _, _, w, fun z => absurd z (by omega), ⟨by omega, by omega⟩, o2, J.swh hr⟩
theorem D_fog {X : va_W} {τ : SZ} {h : List (Nat → Int)} {B r p v : Int} (hl0 : l.stackTraces = false) (C : CV B τ h) (hB : B + 100 ≤ 100000000) (e : cel (τ 4) (98 + r) = 0) (hr : 0 ≤ r ∧ r < 2) (hp : 0 ≤ p ∧ p < 12) (hv : 1 ≤ v ∧ v ≤ 4) : ∃ (τ1 : SZ) (h1 : List (Nat → Int)), LK l D A ad adV cA (.codeWith yL_fog method_6_code 5 (some .int) [(0, 7, 8, 22), (0, 7, 13, 14), (0, 7, 18, 16)]) yL_fog 22 1 6 [.ref (ad 0), .int (iI r), .int (iI p), .int (iI v)] (wO ad cA (sz τ) ++ X) (RV ad cA X 0 τ1) ∧ CV (B + 100) τ1 h1 ∧ τ1 4 = sce (sce (τ 4) (96 + r) p) (98 + r) v := by
  have w := L_fog (r := r) (p := p) (v := v) (X := X) (τ := τ) (B := B) (ad := ad) (adV := adV) (cA := cA) (D := D) (A := A) hl0 ⟨by omega, by omega⟩ ⟨by omega, by omega⟩ ⟨by omega, by omega⟩ C.1 (by omega) C.h1 C.h2
  have oo := o_fog C hB r p v
  have h0 : obG (τ 4) r p v = 0 := by
    unfold obG
    rw [if_neg (fun z => z ⟨hr, hp⟩), if_neg (fun z => z ⟨by omega, by omega⟩), if_neg (fun z => by have := z.2; omega)]
  unfold A_fog S_fog at w oo
  rw [if_neg (by omega), if_neg (by omega), if_neg (by omega), if_neg (by omega), if_neg (by omega), if_neg (by omega)] at w oo
  rw [e] at w oo
  rcases oo with ⟨o1, -⟩ | ⟨-, o2⟩
  · omega
  · exact ⟨_, _, w, o2, rfl⟩
theorem D_pass {X : va_W} {τ : SZ} {h : List (Nat → Int)} {B  : Int} (hl0 : l.stackTraces = false) (C : CV B τ h) (hB : B + 100 ≤ 100000000) (hb : (bsb (τ 4) (4 * cel (τ 4) 107).toNat).1 < 0) : ∃ (z : Int) (τ1 : SZ) (h1 : List (Nat → Int)), LK l D A ad adV cA (.codeWith yL_pass method_8_code 2 (some .int) [(0, 4, 5, 16)]) yL_pass 22 1 6 [.ref (ad 0)] (wO ad cA (sz τ) ++ X) (RV ad cA X z τ1) ∧ (0 ≤ z ∧ z ≤ 1) ∧ CV (B + 100) τ1 h1 := by
  have w := L_pass (X := X) (τ := τ) (B := B) (ad := ad) (adV := adV) (cA := cA) (D := D) (A := A) hl0 C.1 (by omega) C.h1 C.h2
  have oo := o_pass C hB
  have h3 := obP_0 C.1 hb
  have ht := (C.1.psT (by omega)).1.tu
  unfold A_pass S_pass at w oo
  rw [if_neg h3, if_neg h3] at w oo
  rcases oo with ⟨o1, -⟩ | ⟨-, o2⟩
  · omega
  · exact ⟨_, _, _, w, ⟨by omega, by omega⟩, o2⟩
theorem D_move_0 {X : va_W} {τ : SZ} {h : List (Nat → Int)} {B f r : Int} (hl0 : l.stackTraces = false) (C : CV B τ h) (hB : B + 100 ≤ 100000000) {c : Nat → Int} (e : τ 4 = c) (hf : 0 ≤ f ∧ f < cel c 107) (hr : 0 ≤ r ∧ r < 2) (hm : ocn c f r (-1) = 1 ∨ ocn c f r (-1) = 2 ∨ ocn c f r (-1) = 3) : ∃ (z : Int) (τ1 : SZ) (h1 : List (Nat → Int)), LK l D A ad adV cA (.codeWith yL_move method_7_code 5 (some .int) [(0, 7, 8, 22), (0, 7, 13, 16)]) yL_move 22 1 6 [.ref (ad 0), .int (iI f), .int (iI r), .int (iI 0)] (wO ad cA (sz τ) ++ X) (RV ad cA X z τ1) ∧ (0 ≤ z ∧ z ≤ 2) ∧ CV (B + 100) τ1 h1 := by
  have q := M_move_0 (X := X) (ad := ad) (adV := adV) (cA := cA) (D := D) (A := A) hl0 C e hB hf hr hm
  obtain ⟨-, C2, -⟩ := st_move C e hB (s := (-1)) (Or.inr rfl) hf hr hm
  have k := mkp_in (e ▸ C.1 : Iv B c) hf hr (ocn_mv hm) (by omega)
  exact ⟨_, _, _, q, k, C2⟩
theorem D_move_1 {X : va_W} {τ : SZ} {h : List (Nat → Int)} {B f r : Int} (hl0 : l.stackTraces = false) (C : CV B τ h) (hB : B + 100 ≤ 100000000) {c : Nat → Int} (e : τ 4 = c) (hf : 0 ≤ f ∧ f < cel c 107) (hr : 0 ≤ r ∧ r < 2) (hm : ocn c f r 1 = 1 ∨ ocn c f r 1 = 2 ∨ ocn c f r 1 = 3) : ∃ (z : Int) (τ1 : SZ) (h1 : List (Nat → Int)), LK l D A ad adV cA (.codeWith yL_move method_7_code 5 (some .int) [(0, 7, 8, 22), (0, 7, 13, 16)]) yL_move 22 1 6 [.ref (ad 0), .int (iI f), .int (iI r), .int (iI 1)] (wO ad cA (sz τ) ++ X) (RV ad cA X z τ1) ∧ (0 ≤ z ∧ z ≤ 2) ∧ CV (B + 100) τ1 h1 := by
  have q := M_move_1 (X := X) (ad := ad) (adV := adV) (cA := cA) (D := D) (A := A) hl0 C e hB hf hr hm
  obtain ⟨-, C2, -⟩ := st_move C e hB (s := 1) (Or.inl rfl) hf hr hm
  have k := mkp_in (e ▸ C.1 : Iv B c) hf hr (ocn_mv hm) (by omega)
  exact ⟨_, _, _, q, k, C2⟩
end DRW
