/-! desks, part two; the class's own methods but those of the text: printed by wip/whole/db10.py -/
section MAI
theorem nz_dflt {i pc len : Nat} {d lo hi : Int} {offs : Array Int} {is : List CI} {L : List (Option VZ)} {x : Int} {st : List VZ} {τ : SZ} (h : x < lo ∨ hi < x) : nz i ((pc, .tableswitch d lo hi offs, len) :: is, L, .inr x :: st, τ) = jmpz i (some (Rng x)) ((pc : Int) + d) L st τ := by
  show (match swTz pc d lo hi offs x with
    | some z => jmpz i (some (Rng x)) z L st τ
    | none => none) = _
  rw [show swTz pc d lo hi offs x = some ((pc : Int) + d) from if_pos h]
def obW (c : Nat → Int) (w x y z : Int) : Int := if w = 0 then obF c x y z else if w = 1 then obT c x y else if w = 2 then obL c x y z else if w = 3 then obG c x y z else if w = 4 then obM c x y (if z = 1 then 1 else -1) else obP c
/-- the reasons that a refused order leaves -/
def rsW (τ : SZ) (c : Nat → Int) (w x y z : Int) : SZ := if w = 0 then rkp τ (rwF c) (rdF c y z) else if w = 1 then rkp τ (rwT c x) (rdT c x y) else if w = 2 then rkp τ 3 z else if w = 3 then rkp τ 3 z
  else if w = 4 then rpa (rkp τ (ocn c x y (if z = 1 then 1 else -1)) (dtl c (ocn c x y (if z = 1 then 1 else -1)) x y (if z = 1 then 1 else -1))) 4 x else rkp τ 5 (fsm c (cel c 107).toNat 0)
def cao (c : Nat → Int) (w x y z : Int) : Nat → Int := if w = 0 then adf c x y z else if w = 1 then swh c x y 8 else if w = 2 then sus c x y z else if w = 3 then sce (sce c (96 + x) y) (98 + x) z else if w = 4 then mkm c x y (if z = 1 then 1 else -1) else psT c
theorem Iv.cao {B : Int} {c : Nat → Int} (h : Iv B c) {w x y z : Int} (ho : obW c w x y z = 0) (hB : B + 7 ≤ 100000000) : Iv (B + 7) (cao c w x y z) := by
  have hm : ∀ {k : Int} {d : Nat → Int}, Iv (B + k) d → k ≤ 7 → Iv (B + 7) d := fun q hk => ⟨q.1.mono (by omega) hB, q.2⟩
  have hm0 : ∀ {d : Nat → Int}, Iv B d → Iv (B + 7) d := fun q => ⟨q.1.mono (by omega) hB, q.2⟩
  unfold obW at ho
  unfold Jvm.Pilot.CFerryDraughtsLaw_law_r4794_defe46.cao
  split at ho
  next q => rw [if_pos q]; exact hm (h.adf ho (by omega)) (by omega)
  next q =>
    rw [if_neg q]
    split at ho
    next q => rw [if_pos q]; exact hm0 (h.tug ho)
    next q =>
      rw [if_neg q]
      split at ho
      next q => rw [if_pos q]; exact hm0 (h.lck ho)
      next q =>
        rw [if_neg q]
        split at ho
        next q => rw [if_pos q]; exact hm0 (h.fgg ho)
        next q =>
          rw [if_neg q]
          split at ho
          next q =>
            rw [if_pos q]
            have k := obM_ok ho
            exact h.mkm k.1 k.2.1 (by split <;> omega) k.2.2 hB
          next q =>
            rw [if_neg q]
            exact hm (h.psT (by omega)) (by omega)
theorem s_objectionTo {δ γ ρ a : Nat} {w x y z : Int} {τ : SZ} (hδ : DA δ γ ρ a) (hw : w = 0 ∨ w = 1 ∨ w = 2 ∨ w = 3 ∨ w = 4 ∨ w = 5) (hx : Rng x) (hy : Rng y) (hz : Rng z) {B : Int} (hS : Sh B (τ a)) : RZ 6 m0_objectionTo [.inl δ, .inr w, .inr x, .inr y, .inr z] τ (.inl (some (.inr (obW (τ a) w x y z)), if obW (τ a) w x y z = 3 then rsW τ (τ a) w x y z else τ)) := by
  obtain ⟨hx1, hx2⟩ := hx
  obtain ⟨hy1, hy2⟩ := hy
  obtain ⟨hz1, hz2⟩ := hz
  rcases hδ with ⟨rfl, rfl, rfl, rfl⟩ | ⟨rfl, rfl, rfl, rfl⟩
  · rcases hw with rfl | rfl | rfl | rfl | rfl | rfl
    · refine Ex.call ?_ rfl rfl
      show Ex _ _ (cod m0_objectionTo 0, [some (.inl 12), some (.inr 0), some (.inr x), some (.inr y), some (.inr z)], [], τ) _ _
      refine ex_k 2 (P := some (Rng 0)) (g := (cod m0_objectionTo 2, [some (.inl 12), some (.inr 0), some (.inr x), some (.inr y), some (.inr z)], [], τ)) rfl ⟨by decide, by decide⟩ ?_
      refine ex_k 4 (P := none) (g := (cod m0_objectionTo 6, [some (.inl 12), some (.inr 0), some (.inr x), some (.inr y), some (.inr z)], [.inr z, .inr y, .inr x, .inl 12], τ)) rfl trivial ?_
      refine ex_c (s_objF (τ := τ) (x := x) (p := y) (q := z) (Or.inl ⟨rfl, rfl, rfl, rfl⟩) ⟨by omega, by omega⟩ ⟨by omega, by omega⟩ ⟨by omega, by omega⟩ hS) (is := cod m0_objectionTo 7) (L := [some (.inl 12), some (.inr 0), some (.inr x), some (.inr y), some (.inr z)]) (st := []) rfl rfl rfl ?_
      show Ex _ _ (cod m0_objectionTo 7, [some (.inl 12), some (.inr 0), some (.inr x), some (.inr y), some (.inr z)], [.inr (obF (τ 4) x y z)], (if obF (τ 4) x y z = 3 then rkp τ (rwF (τ 4)) (rdF (τ 4) y z) else τ)) _ _
      exact ex_r rfl trivial rfl (rfl)
    · refine Ex.call ?_ rfl rfl
      show Ex _ _ (cod m0_objectionTo 0, [some (.inl 12), some (.inr 1), some (.inr x), some (.inr y), some (.inr z)], [], τ) _ _
      refine ex_k 2 (P := some (Rng 1)) (g := (cod m0_objectionTo 8, [some (.inl 12), some (.inr 1), some (.inr x), some (.inr y), some (.inr z)], [], τ)) rfl ⟨by decide, by decide⟩ ?_
      refine ex_k 3 (P := none) (g := (cod m0_objectionTo 11, [some (.inl 12), some (.inr 1), some (.inr x), some (.inr y), some (.inr z)], [.inr y, .inr x, .inl 12], τ)) rfl trivial ?_
      refine ex_c (s_objT (τ := τ) (r := x) (p := y) (Or.inl ⟨rfl, rfl, rfl, rfl⟩) ⟨by omega, by omega⟩ ⟨by omega, by omega⟩ hS) (is := cod m0_objectionTo 12) (L := [some (.inl 12), some (.inr 1), some (.inr x), some (.inr y), some (.inr z)]) (st := []) rfl rfl rfl ?_
      show Ex _ _ (cod m0_objectionTo 12, [some (.inl 12), some (.inr 1), some (.inr x), some (.inr y), some (.inr z)], [.inr (obT (τ 4) x y)], (if obT (τ 4) x y = 3 then rkp τ (rwT (τ 4) x) (rdT (τ 4) x y) else τ)) _ _
      exact ex_r rfl trivial rfl (rfl)
    · refine Ex.call ?_ rfl rfl
      show Ex _ _ (cod m0_objectionTo 0, [some (.inl 12), some (.inr 2), some (.inr x), some (.inr y), some (.inr z)], [], τ) _ _
      refine ex_k 2 (P := some (Rng 2)) (g := (cod m0_objectionTo 13, [some (.inl 12), some (.inr 2), some (.inr x), some (.inr y), some (.inr z)], [], τ)) rfl ⟨by decide, by decide⟩ ?_
      refine ex_k 4 (P := none) (g := (cod m0_objectionTo 17, [some (.inl 12), some (.inr 2), some (.inr x), some (.inr y), some (.inr z)], [.inr z, .inr y, .inr x, .inl 12], τ)) rfl trivial ?_
      refine ex_c (s_objL (τ := τ) (r := x) (p := y) (v := z) (Or.inl ⟨rfl, rfl, rfl, rfl⟩) ⟨by omega, by omega⟩ ⟨by omega, by omega⟩ ⟨by omega, by omega⟩ hS) (is := cod m0_objectionTo 18) (L := [some (.inl 12), some (.inr 2), some (.inr x), some (.inr y), some (.inr z)]) (st := []) rfl rfl rfl ?_
      show Ex _ _ (cod m0_objectionTo 18, [some (.inl 12), some (.inr 2), some (.inr x), some (.inr y), some (.inr z)], [.inr (obL (τ 4) x y z)], (if obL (τ 4) x y z = 3 then rkp τ 3 z else τ)) _ _
      exact ex_r rfl trivial rfl (rfl)
    · refine Ex.call ?_ rfl rfl
      show Ex _ _ (cod m0_objectionTo 0, [some (.inl 12), some (.inr 3), some (.inr x), some (.inr y), some (.inr z)], [], τ) _ _
      refine ex_k 2 (P := some (Rng 3)) (g := (cod m0_objectionTo 19, [some (.inl 12), some (.inr 3), some (.inr x), some (.inr y), some (.inr z)], [], τ)) rfl ⟨by decide, by decide⟩ ?_
      refine ex_k 4 (P := none) (g := (cod m0_objectionTo 23, [some (.inl 12), some (.inr 3), some (.inr x), some (.inr y), some (.inr z)], [.inr z, .inr y, .inr x, .inl 12], τ)) rfl trivial ?_
      refine ex_c (s_objG (τ := τ) (r := x) (p := y) (v := z) (Or.inl ⟨rfl, rfl, rfl, rfl⟩) ⟨by omega, by omega⟩ ⟨by omega, by omega⟩ ⟨by omega, by omega⟩ hS) (is := cod m0_objectionTo 24) (L := [some (.inl 12), some (.inr 3), some (.inr x), some (.inr y), some (.inr z)]) (st := []) rfl rfl rfl ?_
      show Ex _ _ (cod m0_objectionTo 24, [some (.inl 12), some (.inr 3), some (.inr x), some (.inr y), some (.inr z)], [.inr (obG (τ 4) x y z)], (if obG (τ 4) x y z = 3 then rkp τ 3 z else τ)) _ _
      exact ex_r rfl trivial rfl (rfl)
    · refine Ex.call ?_ rfl rfl
      show Ex _ _ (cod m0_objectionTo 0, [some (.inl 12), some (.inr 4), some (.inr x), some (.inr y), some (.inr z)], [], τ) _ _
      refine ex_k 2 (P := some (Rng 4)) (g := (cod m0_objectionTo 25, [some (.inl 12), some (.inr 4), some (.inr x), some (.inr y), some (.inr z)], [], τ)) rfl ⟨by decide, by decide⟩ ?_
      refine ex_k 5 (P := none) (g := (cod m0_objectionTo 30, [some (.inl 12), some (.inr 4), some (.inr x), some (.inr y), some (.inr z)], [.inr 1, .inr z, .inr y, .inr x, .inl 12], τ)) rfl trivial ?_
      refine ex_b (P := ¬ z = 1) (ct := (cod m0_objectionTo 33, [some (.inl 12), some (.inr 4), some (.inr x), some (.inr y), some (.inr z)], [.inr y, .inr x, .inl 12], τ)) (cf := (cod m0_objectionTo 31, [some (.inl 12), some (.inr 4), some (.inr x), some (.inr y), some (.inr z)], [.inr y, .inr x, .inl 12], τ)) rfl ⟨⟨by omega, by omega⟩, ⟨by decide, by decide⟩⟩ (fun h1 => ?_) (fun h1 => ?_)
      · first
        | (exfalso; omega)
        | (
            refine ex_k 1 (P := none) (g := (cod m0_objectionTo 34, [some (.inl 12), some (.inr 4), some (.inr x), some (.inr y), some (.inr z)], [.inr 0, .inr y, .inr x, .inl 12], τ)) rfl trivial ?_
            refine ex_c (s_stepTo (τ := τ) (z := 0) ⟨by omega, by omega⟩) (is := cod m0_objectionTo 35) (L := [some (.inl 12), some (.inr 4), some (.inr x), some (.inr y), some (.inr z)]) (st := [.inr y, .inr x, .inl 12]) rfl rfl rfl ?_
            show Ex _ _ (cod m0_objectionTo 35, [some (.inl 12), some (.inr 4), some (.inr x), some (.inr y), some (.inr z)], [.inr (-1), .inr y, .inr x, .inl 12], τ) _ _
            refine ex_c (s_objM (τ := τ) (f := x) (r := y) (s := (-1)) (Or.inl ⟨rfl, rfl, rfl, rfl⟩) ⟨by omega, by omega⟩ ⟨by omega, by omega⟩ (by omega) hS) (is := cod m0_objectionTo 36) (L := [some (.inl 12), some (.inr 4), some (.inr x), some (.inr y), some (.inr z)]) (st := []) rfl rfl rfl ?_
            show Ex _ _ (cod m0_objectionTo 36, [some (.inl 12), some (.inr 4), some (.inr x), some (.inr y), some (.inr z)], [.inr (obM (τ 4) x y (-1))], (if obM (τ 4) x y (-1) = 3 then rpa (rkp τ (ocn (τ 4) x y (-1)) (dtl (τ 4) (ocn (τ 4) x y (-1)) x y (-1))) 4 x else τ)) _ _
            exact ex_r rfl trivial rfl (by show _ = _; rw [show obW (τ 4) 4 x y z = obM (τ 4) x y (if z = 1 then 1 else -1) from rfl, show rsW τ (τ 4) 4 x y z = rpa (rkp τ (ocn (τ 4) x y (if z = 1 then 1 else -1)) (dtl (τ 4) (ocn (τ 4) x y (if z = 1 then 1 else -1)) x y (if z = 1 then 1 else -1))) 4 x from rfl]; first | rw [show (if z = 1 then (1 : Int) else -1) = 1 from if_pos (by omega)] | rw [show (if z = 1 then (1 : Int) else -1) = -1 from if_neg (by omega)]))
      · first
        | (exfalso; omega)
        | (
            refine ex_k 2 (P := none) (g := (cod m0_objectionTo 34, [some (.inl 12), some (.inr 4), some (.inr x), some (.inr y), some (.inr z)], [.inr 1, .inr y, .inr x, .inl 12], τ)) rfl trivial ?_
            refine ex_c (s_stepTo (τ := τ) (z := 1) ⟨by omega, by omega⟩) (is := cod m0_objectionTo 35) (L := [some (.inl 12), some (.inr 4), some (.inr x), some (.inr y), some (.inr z)]) (st := [.inr y, .inr x, .inl 12]) rfl rfl rfl ?_
            show Ex _ _ (cod m0_objectionTo 35, [some (.inl 12), some (.inr 4), some (.inr x), some (.inr y), some (.inr z)], [.inr 1, .inr y, .inr x, .inl 12], τ) _ _
            refine ex_c (s_objM (τ := τ) (f := x) (r := y) (s := 1) (Or.inl ⟨rfl, rfl, rfl, rfl⟩) ⟨by omega, by omega⟩ ⟨by omega, by omega⟩ (by omega) hS) (is := cod m0_objectionTo 36) (L := [some (.inl 12), some (.inr 4), some (.inr x), some (.inr y), some (.inr z)]) (st := []) rfl rfl rfl ?_
            show Ex _ _ (cod m0_objectionTo 36, [some (.inl 12), some (.inr 4), some (.inr x), some (.inr y), some (.inr z)], [.inr (obM (τ 4) x y 1)], (if obM (τ 4) x y 1 = 3 then rpa (rkp τ (ocn (τ 4) x y 1) (dtl (τ 4) (ocn (τ 4) x y 1) x y 1)) 4 x else τ)) _ _
            exact ex_r rfl trivial rfl (by show _ = _; rw [show obW (τ 4) 4 x y z = obM (τ 4) x y (if z = 1 then 1 else -1) from rfl, show rsW τ (τ 4) 4 x y z = rpa (rkp τ (ocn (τ 4) x y (if z = 1 then 1 else -1)) (dtl (τ 4) (ocn (τ 4) x y (if z = 1 then 1 else -1)) x y (if z = 1 then 1 else -1))) 4 x from rfl]; first | rw [show (if z = 1 then (1 : Int) else -1) = 1 from if_pos (by omega)] | rw [show (if z = 1 then (1 : Int) else -1) = -1 from if_neg (by omega)]))
    · refine Ex.call ?_ rfl rfl
      show Ex _ _ (cod m0_objectionTo 0, [some (.inl 12), some (.inr 5), some (.inr x), some (.inr y), some (.inr z)], [], τ) _ _
      refine ex_k 2 (P := some (Rng 5)) (g := (cod m0_objectionTo 37, [some (.inl 12), some (.inr 5), some (.inr x), some (.inr y), some (.inr z)], [], τ)) rfl ⟨by decide, by decide⟩ ?_
      refine ex_k 1 (P := none) (g := (cod m0_objectionTo 38, [some (.inl 12), some (.inr 5), some (.inr x), some (.inr y), some (.inr z)], [.inl 12], τ)) rfl trivial ?_
      refine ex_c (s_objP (τ := τ)  (Or.inl ⟨rfl, rfl, rfl, rfl⟩)  hS) (is := cod m0_objectionTo 39) (L := [some (.inl 12), some (.inr 5), some (.inr x), some (.inr y), some (.inr z)]) (st := []) rfl rfl rfl ?_
      show Ex _ _ (cod m0_objectionTo 39, [some (.inl 12), some (.inr 5), some (.inr x), some (.inr y), some (.inr z)], [.inr (obP (τ 4))], (if obP (τ 4) = 3 then rkp τ 5 (fsm (τ 4) (cel (τ 4) 107).toNat 0) else τ)) _ _
      exact ex_r rfl trivial rfl (rfl)
  · rcases hw with rfl | rfl | rfl | rfl | rfl | rfl
    · refine Ex.call ?_ rfl rfl
      show Ex _ _ (cod m0_objectionTo 0, [some (.inl 13), some (.inr 0), some (.inr x), some (.inr y), some (.inr z)], [], τ) _ _
      refine ex_k 2 (P := some (Rng 0)) (g := (cod m0_objectionTo 2, [some (.inl 13), some (.inr 0), some (.inr x), some (.inr y), some (.inr z)], [], τ)) rfl ⟨by decide, by decide⟩ ?_
      refine ex_k 4 (P := none) (g := (cod m0_objectionTo 6, [some (.inl 13), some (.inr 0), some (.inr x), some (.inr y), some (.inr z)], [.inr z, .inr y, .inr x, .inl 13], τ)) rfl trivial ?_
      refine ex_c (s_objF (τ := τ) (x := x) (p := y) (q := z) (Or.inr ⟨rfl, rfl, rfl, rfl⟩) ⟨by omega, by omega⟩ ⟨by omega, by omega⟩ ⟨by omega, by omega⟩ hS) (is := cod m0_objectionTo 7) (L := [some (.inl 13), some (.inr 0), some (.inr x), some (.inr y), some (.inr z)]) (st := []) rfl rfl rfl ?_
      show Ex _ _ (cod m0_objectionTo 7, [some (.inl 13), some (.inr 0), some (.inr x), some (.inr y), some (.inr z)], [.inr (obF (τ 5) x y z)], (if obF (τ 5) x y z = 3 then rkp τ (rwF (τ 5)) (rdF (τ 5) y z) else τ)) _ _
      exact ex_r rfl trivial rfl (rfl)
    · refine Ex.call ?_ rfl rfl
      show Ex _ _ (cod m0_objectionTo 0, [some (.inl 13), some (.inr 1), some (.inr x), some (.inr y), some (.inr z)], [], τ) _ _
      refine ex_k 2 (P := some (Rng 1)) (g := (cod m0_objectionTo 8, [some (.inl 13), some (.inr 1), some (.inr x), some (.inr y), some (.inr z)], [], τ)) rfl ⟨by decide, by decide⟩ ?_
      refine ex_k 3 (P := none) (g := (cod m0_objectionTo 11, [some (.inl 13), some (.inr 1), some (.inr x), some (.inr y), some (.inr z)], [.inr y, .inr x, .inl 13], τ)) rfl trivial ?_
      refine ex_c (s_objT (τ := τ) (r := x) (p := y) (Or.inr ⟨rfl, rfl, rfl, rfl⟩) ⟨by omega, by omega⟩ ⟨by omega, by omega⟩ hS) (is := cod m0_objectionTo 12) (L := [some (.inl 13), some (.inr 1), some (.inr x), some (.inr y), some (.inr z)]) (st := []) rfl rfl rfl ?_
      show Ex _ _ (cod m0_objectionTo 12, [some (.inl 13), some (.inr 1), some (.inr x), some (.inr y), some (.inr z)], [.inr (obT (τ 5) x y)], (if obT (τ 5) x y = 3 then rkp τ (rwT (τ 5) x) (rdT (τ 5) x y) else τ)) _ _
      exact ex_r rfl trivial rfl (rfl)
    · refine Ex.call ?_ rfl rfl
      show Ex _ _ (cod m0_objectionTo 0, [some (.inl 13), some (.inr 2), some (.inr x), some (.inr y), some (.inr z)], [], τ) _ _
      refine ex_k 2 (P := some (Rng 2)) (g := (cod m0_objectionTo 13, [some (.inl 13), some (.inr 2), some (.inr x), some (.inr y), some (.inr z)], [], τ)) rfl ⟨by decide, by decide⟩ ?_
      refine ex_k 4 (P := none) (g := (cod m0_objectionTo 17, [some (.inl 13), some (.inr 2), some (.inr x), some (.inr y), some (.inr z)], [.inr z, .inr y, .inr x, .inl 13], τ)) rfl trivial ?_
      refine ex_c (s_objL (τ := τ) (r := x) (p := y) (v := z) (Or.inr ⟨rfl, rfl, rfl, rfl⟩) ⟨by omega, by omega⟩ ⟨by omega, by omega⟩ ⟨by omega, by omega⟩ hS) (is := cod m0_objectionTo 18) (L := [some (.inl 13), some (.inr 2), some (.inr x), some (.inr y), some (.inr z)]) (st := []) rfl rfl rfl ?_
      show Ex _ _ (cod m0_objectionTo 18, [some (.inl 13), some (.inr 2), some (.inr x), some (.inr y), some (.inr z)], [.inr (obL (τ 5) x y z)], (if obL (τ 5) x y z = 3 then rkp τ 3 z else τ)) _ _
      exact ex_r rfl trivial rfl (rfl)
    · refine Ex.call ?_ rfl rfl
      show Ex _ _ (cod m0_objectionTo 0, [some (.inl 13), some (.inr 3), some (.inr x), some (.inr y), some (.inr z)], [], τ) _ _
      refine ex_k 2 (P := some (Rng 3)) (g := (cod m0_objectionTo 19, [some (.inl 13), some (.inr 3), some (.inr x), some (.inr y), some (.inr z)], [], τ)) rfl ⟨by decide, by decide⟩ ?_
      refine ex_k 4 (P := none) (g := (cod m0_objectionTo 23, [some (.inl 13), some (.inr 3), some (.inr x), some (.inr y), some (.inr z)], [.inr z, .inr y, .inr x, .inl 13], τ)) rfl trivial ?_
      refine ex_c (s_objG (τ := τ) (r := x) (p := y) (v := z) (Or.inr ⟨rfl, rfl, rfl, rfl⟩) ⟨by omega, by omega⟩ ⟨by omega, by omega⟩ ⟨by omega, by omega⟩ hS) (is := cod m0_objectionTo 24) (L := [some (.inl 13), some (.inr 3), some (.inr x), some (.inr y), some (.inr z)]) (st := []) rfl rfl rfl ?_
      show Ex _ _ (cod m0_objectionTo 24, [some (.inl 13), some (.inr 3), some (.inr x), some (.inr y), some (.inr z)], [.inr (obG (τ 5) x y z)], (if obG (τ 5) x y z = 3 then rkp τ 3 z else τ)) _ _
      exact ex_r rfl trivial rfl (rfl)
    · refine Ex.call ?_ rfl rfl
      show Ex _ _ (cod m0_objectionTo 0, [some (.inl 13), some (.inr 4), some (.inr x), some (.inr y), some (.inr z)], [], τ) _ _
      refine ex_k 2 (P := some (Rng 4)) (g := (cod m0_objectionTo 25, [some (.inl 13), some (.inr 4), some (.inr x), some (.inr y), some (.inr z)], [], τ)) rfl ⟨by decide, by decide⟩ ?_
      refine ex_k 5 (P := none) (g := (cod m0_objectionTo 30, [some (.inl 13), some (.inr 4), some (.inr x), some (.inr y), some (.inr z)], [.inr 1, .inr z, .inr y, .inr x, .inl 13], τ)) rfl trivial ?_
      refine ex_b (P := ¬ z = 1) (ct := (cod m0_objectionTo 33, [some (.inl 13), some (.inr 4), some (.inr x), some (.inr y), some (.inr z)], [.inr y, .inr x, .inl 13], τ)) (cf := (cod m0_objectionTo 31, [some (.inl 13), some (.inr 4), some (.inr x), some (.inr y), some (.inr z)], [.inr y, .inr x, .inl 13], τ)) rfl ⟨⟨by omega, by omega⟩, ⟨by decide, by decide⟩⟩ (fun h1 => ?_) (fun h1 => ?_)
      · first
        | (exfalso; omega)
        | (
            refine ex_k 1 (P := none) (g := (cod m0_objectionTo 34, [some (.inl 13), some (.inr 4), some (.inr x), some (.inr y), some (.inr z)], [.inr 0, .inr y, .inr x, .inl 13], τ)) rfl trivial ?_
            refine ex_c (s_stepTo (τ := τ) (z := 0) ⟨by omega, by omega⟩) (is := cod m0_objectionTo 35) (L := [some (.inl 13), some (.inr 4), some (.inr x), some (.inr y), some (.inr z)]) (st := [.inr y, .inr x, .inl 13]) rfl rfl rfl ?_
            show Ex _ _ (cod m0_objectionTo 35, [some (.inl 13), some (.inr 4), some (.inr x), some (.inr y), some (.inr z)], [.inr (-1), .inr y, .inr x, .inl 13], τ) _ _
            refine ex_c (s_objM (τ := τ) (f := x) (r := y) (s := (-1)) (Or.inr ⟨rfl, rfl, rfl, rfl⟩) ⟨by omega, by omega⟩ ⟨by omega, by omega⟩ (by omega) hS) (is := cod m0_objectionTo 36) (L := [some (.inl 13), some (.inr 4), some (.inr x), some (.inr y), some (.inr z)]) (st := []) rfl rfl rfl ?_
            show Ex _ _ (cod m0_objectionTo 36, [some (.inl 13), some (.inr 4), some (.inr x), some (.inr y), some (.inr z)], [.inr (obM (τ 5) x y (-1))], (if obM (τ 5) x y (-1) = 3 then rpa (rkp τ (ocn (τ 5) x y (-1)) (dtl (τ 5) (ocn (τ 5) x y (-1)) x y (-1))) 4 x else τ)) _ _
            exact ex_r rfl trivial rfl (by show _ = _; rw [show obW (τ 5) 4 x y z = obM (τ 5) x y (if z = 1 then 1 else -1) from rfl, show rsW τ (τ 5) 4 x y z = rpa (rkp τ (ocn (τ 5) x y (if z = 1 then 1 else -1)) (dtl (τ 5) (ocn (τ 5) x y (if z = 1 then 1 else -1)) x y (if z = 1 then 1 else -1))) 4 x from rfl]; first | rw [show (if z = 1 then (1 : Int) else -1) = 1 from if_pos (by omega)] | rw [show (if z = 1 then (1 : Int) else -1) = -1 from if_neg (by omega)]))
      · first
        | (exfalso; omega)
        | (
            refine ex_k 2 (P := none) (g := (cod m0_objectionTo 34, [some (.inl 13), some (.inr 4), some (.inr x), some (.inr y), some (.inr z)], [.inr 1, .inr y, .inr x, .inl 13], τ)) rfl trivial ?_
            refine ex_c (s_stepTo (τ := τ) (z := 1) ⟨by omega, by omega⟩) (is := cod m0_objectionTo 35) (L := [some (.inl 13), some (.inr 4), some (.inr x), some (.inr y), some (.inr z)]) (st := [.inr y, .inr x, .inl 13]) rfl rfl rfl ?_
            show Ex _ _ (cod m0_objectionTo 35, [some (.inl 13), some (.inr 4), some (.inr x), some (.inr y), some (.inr z)], [.inr 1, .inr y, .inr x, .inl 13], τ) _ _
            refine ex_c (s_objM (τ := τ) (f := x) (r := y) (s := 1) (Or.inr ⟨rfl, rfl, rfl, rfl⟩) ⟨by omega, by omega⟩ ⟨by omega, by omega⟩ (by omega) hS) (is := cod m0_objectionTo 36) (L := [some (.inl 13), some (.inr 4), some (.inr x), some (.inr y), some (.inr z)]) (st := []) rfl rfl rfl ?_
            show Ex _ _ (cod m0_objectionTo 36, [some (.inl 13), some (.inr 4), some (.inr x), some (.inr y), some (.inr z)], [.inr (obM (τ 5) x y 1)], (if obM (τ 5) x y 1 = 3 then rpa (rkp τ (ocn (τ 5) x y 1) (dtl (τ 5) (ocn (τ 5) x y 1) x y 1)) 4 x else τ)) _ _
            exact ex_r rfl trivial rfl (by show _ = _; rw [show obW (τ 5) 4 x y z = obM (τ 5) x y (if z = 1 then 1 else -1) from rfl, show rsW τ (τ 5) 4 x y z = rpa (rkp τ (ocn (τ 5) x y (if z = 1 then 1 else -1)) (dtl (τ 5) (ocn (τ 5) x y (if z = 1 then 1 else -1)) x y (if z = 1 then 1 else -1))) 4 x from rfl]; first | rw [show (if z = 1 then (1 : Int) else -1) = 1 from if_pos (by omega)] | rw [show (if z = 1 then (1 : Int) else -1) = -1 from if_neg (by omega)]))
    · refine Ex.call ?_ rfl rfl
      show Ex _ _ (cod m0_objectionTo 0, [some (.inl 13), some (.inr 5), some (.inr x), some (.inr y), some (.inr z)], [], τ) _ _
      refine ex_k 2 (P := some (Rng 5)) (g := (cod m0_objectionTo 37, [some (.inl 13), some (.inr 5), some (.inr x), some (.inr y), some (.inr z)], [], τ)) rfl ⟨by decide, by decide⟩ ?_
      refine ex_k 1 (P := none) (g := (cod m0_objectionTo 38, [some (.inl 13), some (.inr 5), some (.inr x), some (.inr y), some (.inr z)], [.inl 13], τ)) rfl trivial ?_
      refine ex_c (s_objP (τ := τ)  (Or.inr ⟨rfl, rfl, rfl, rfl⟩)  hS) (is := cod m0_objectionTo 39) (L := [some (.inl 13), some (.inr 5), some (.inr x), some (.inr y), some (.inr z)]) (st := []) rfl rfl rfl ?_
      show Ex _ _ (cod m0_objectionTo 39, [some (.inl 13), some (.inr 5), some (.inr x), some (.inr y), some (.inr z)], [.inr (obP (τ 5))], (if obP (τ 5) = 3 then rkp τ 5 (fsm (τ 5) (cel (τ 5) 107).toNat 0) else τ)) _ _
      exact ex_r rfl trivial rfl (rfl)
theorem s_carryOut {δ γ ρ a : Nat} {w x y z : Int} {τ : SZ} (hδ : DA δ γ ρ a) (hw : w = 0 ∨ w = 1 ∨ w = 2 ∨ w = 3 ∨ w = 4 ∨ w = 5) (hx : Rng x) (hy : Rng y) (hz : Rng z) {B : Int} (hI : Iv B (τ a)) (hB : B + 7 ≤ 100000000) (ho : obW (τ a) w x y z = 0) : RZ 7 m0_carryOut [.inl δ, .inr w, .inr x, .inr y, .inr z] τ (.inl (none, zr τ a (cao (τ a) w x y z))) := by
  obtain ⟨hx1, hx2⟩ := hx
  obtain ⟨hy1, hy2⟩ := hy
  obtain ⟨hz1, hz2⟩ := hz
  have hS := hI.1
  have hN := hS.n
  have hC := hI.2.1
  rcases hδ with ⟨rfl, rfl, rfl, rfl⟩ | ⟨rfl, rfl, rfl, rfl⟩
  · rcases hw with rfl | rfl | rfl | rfl | rfl | rfl
    · refine Ex.call ?_ rfl rfl
      show Ex _ _ (cod m0_carryOut 0, [some (.inl 12), some (.inr 0), some (.inr x), some (.inr y), some (.inr z)], [], τ) _ _
      refine ex_k 2 (P := some (Rng 0)) (g := (cod m0_carryOut 2, [some (.inl 12), some (.inr 0), some (.inr x), some (.inr y), some (.inr z)], [], τ)) rfl ⟨by decide, by decide⟩ ?_
      refine ex_k 5 (P := none) (g := (cod m0_carryOut 7, [some (.inl 12), some (.inr 0), some (.inr x), some (.inr y), some (.inr z)], [.inr z, .inr y, .inr x, .inl 1], τ)) rfl trivial ?_
      refine ex_c (s_addFerry (τ := τ) (x := x) (p := y) (q := z) (Or.inl ⟨rfl, rfl⟩) (show 0 ≤ cel (τ 4) 107 ∧ cel (τ 4) 107 ≤ 8 by omega) ⟨by omega, by omega⟩ ⟨by omega, by omega⟩) (is := cod m0_carryOut 8) (L := [some (.inl 12), some (.inr 0), some (.inr x), some (.inr y), some (.inr z)]) (st := []) rfl rfl rfl ?_
      show Ex _ _ (cod m0_carryOut 8, [some (.inl 12), some (.inr 0), some (.inr x), some (.inr y), some (.inr z)], [.inr (cel (τ 4) 107)], (zr τ 4 (adf (τ 4) x y z))) _ _
      refine ex_k 2 (P := none) (g := (cod m0_carryOut 51, [some (.inl 12), some (.inr 0), some (.inr x), some (.inr y), some (.inr z)], [], (zr τ 4 (adf (τ 4) x y z)))) rfl trivial ?_
      exact ex_r rfl rfl rfl (rfl)
    · have hr : 0 ≤ x ∧ x < 2 := by first | (have q : obT (τ 4) x y = 0 := ho; unfold obT at q; split at q <;> omega) | (have q : obL (τ 4) x y z = 0 := ho; unfold obL at q; split at q <;> omega) | (have q : obG (τ 4) x y z = 0 := ho; unfold obG at q; split at q <;> omega)
      refine Ex.call ?_ rfl rfl
      show Ex _ _ (cod m0_carryOut 0, [some (.inl 12), some (.inr 1), some (.inr x), some (.inr y), some (.inr z)], [], τ) _ _
      refine ex_k 2 (P := some (Rng 1)) (g := (cod m0_carryOut 10, [some (.inl 12), some (.inr 1), some (.inr x), some (.inr y), some (.inr z)], [], τ)) rfl ⟨by decide, by decide⟩ ?_
      refine ex_k 4 (P := none) (g := (cod m0_carryOut 14, [some (.inl 12), some (.inr 1), some (.inr x), some (.inr y), some (.inr z)], [.inr y, .inr x, .inl 1], τ)) rfl trivial ?_
      refine ex_c (s_addTug (τ := τ) (r := x) (p := y) (Or.inl ⟨rfl, rfl⟩) (by omega) ⟨by omega, by omega⟩ hS.bd) (is := cod m0_carryOut 15) (L := [some (.inl 12), some (.inr 1), some (.inr x), some (.inr y), some (.inr z)]) (st := []) rfl rfl rfl ?_
      show Ex _ _ (cod m0_carryOut 15, [some (.inl 12), some (.inr 1), some (.inr x), some (.inr y), some (.inr z)], [.inr (tgs (swh (τ 4) x y 8) x)], (zr τ 4 (swh (τ 4) x y 8))) _ _
      refine ex_k 2 (P := none) (g := (cod m0_carryOut 51, [some (.inl 12), some (.inr 1), some (.inr x), some (.inr y), some (.inr z)], [], (zr τ 4 (swh (τ 4) x y 8)))) rfl trivial ?_
      exact ex_r rfl rfl rfl (rfl)
    · have hr : 0 ≤ x ∧ x < 2 := by first | (have q : obT (τ 4) x y = 0 := ho; unfold obT at q; split at q <;> omega) | (have q : obL (τ 4) x y z = 0 := ho; unfold obL at q; split at q <;> omega) | (have q : obG (τ 4) x y z = 0 := ho; unfold obG at q; split at q <;> omega)
      refine Ex.call ?_ rfl rfl
      show Ex _ _ (cod m0_carryOut 0, [some (.inl 12), some (.inr 2), some (.inr x), some (.inr y), some (.inr z)], [], τ) _ _
      refine ex_k 2 (P := some (Rng 2)) (g := (cod m0_carryOut 17, [some (.inl 12), some (.inr 2), some (.inr x), some (.inr y), some (.inr z)], [], τ)) rfl ⟨by decide, by decide⟩ ?_
      refine ex_k 5 (P := none) (g := (cod m0_carryOut 22, [some (.inl 12), some (.inr 2), some (.inr x), some (.inr y), some (.inr z)], [.inr z, .inr y, .inr x, .inl 1], τ)) rfl trivial ?_
      refine ex_c (s_tellUses (τ := τ) (r := x) (p := y) (v := z) (Or.inl ⟨rfl, rfl⟩) (by omega) ⟨by omega, by omega⟩) (is := cod m0_carryOut 23) (L := [some (.inl 12), some (.inr 2), some (.inr x), some (.inr y), some (.inr z)]) (st := []) rfl rfl rfl ?_
      show Ex _ _ (cod m0_carryOut 23, [some (.inl 12), some (.inr 2), some (.inr x), some (.inr y), some (.inr z)], [.inr (usz (τ 4) x y)], (zr τ 4 (sus (τ 4) x y z))) _ _
      refine ex_k 2 (P := none) (g := (cod m0_carryOut 51, [some (.inl 12), some (.inr 2), some (.inr x), some (.inr y), some (.inr z)], [], (zr τ 4 (sus (τ 4) x y z)))) rfl trivial ?_
      exact ex_r rfl rfl rfl (rfl)
    · have hr : 0 ≤ x ∧ x < 2 := by first | (have q : obT (τ 4) x y = 0 := ho; unfold obT at q; split at q <;> omega) | (have q : obL (τ 4) x y z = 0 := ho; unfold obL at q; split at q <;> omega) | (have q : obG (τ 4) x y z = 0 := ho; unfold obG at q; split at q <;> omega)
      refine Ex.call ?_ rfl rfl
      show Ex _ _ (cod m0_carryOut 0, [some (.inl 12), some (.inr 3), some (.inr x), some (.inr y), some (.inr z)], [], τ) _ _
      refine ex_k 2 (P := some (Rng 3)) (g := (cod m0_carryOut 25, [some (.inl 12), some (.inr 3), some (.inr x), some (.inr y), some (.inr z)], [], τ)) rfl ⟨by decide, by decide⟩ ?_
      refine ex_k 5 (P := none) (g := (cod m0_carryOut 30, [some (.inl 12), some (.inr 3), some (.inr x), some (.inr y), some (.inr z)], [.inr z, .inr y, .inr x, .inl 1], τ)) rfl trivial ?_
      refine ex_c (s_tellFog (τ := τ) (r := x) (b := y) (w := z) (Or.inl ⟨rfl, rfl⟩) (by omega)) (is := cod m0_carryOut 31) (L := [some (.inl 12), some (.inr 3), some (.inr x), some (.inr y), some (.inr z)]) (st := []) rfl rfl rfl ?_
      show Ex _ _ (cod m0_carryOut 31, [some (.inl 12), some (.inr 3), some (.inr x), some (.inr y), some (.inr z)], [.inr (cel (τ 4) (98 + x))], (zr τ 4 (sce (sce (τ 4) (96 + x) y) (98 + x) z))) _ _
      refine ex_k 2 (P := none) (g := (cod m0_carryOut 51, [some (.inl 12), some (.inr 3), some (.inr x), some (.inr y), some (.inr z)], [], (zr τ 4 (sce (sce (τ 4) (96 + x) y) (98 + x) z)))) rfl trivial ?_
      exact ex_r rfl rfl rfl (rfl)
    · have ho2 : obM (τ 4) x y (if z = 1 then 1 else -1) = 0 := ho
      obtain ⟨hf, hr, hoc⟩ := obM_ok ho2
      have hgo := (gol_ok hoc).1
      have hov := hC.ov (p := cel (τ 4) (0 + x * 6 + (1 + y)) + (if z = 1 then 1 else -1)) hr
      show RZ 7 m0_carryOut _ τ (.inl (none, zr τ 4 (mkm (τ 4) x y (if z = 1 then 1 else -1))))
      by_cases hzz : z = 1
      · rw [if_pos hzz] at hgo hov ⊢
        refine Ex.call ?_ rfl rfl
        show Ex _ _ (cod m0_carryOut 0, [some (.inl 12), some (.inr 4), some (.inr x), some (.inr y), some (.inr z)], [], τ) _ _
        refine ex_k 2 (P := some (Rng 4)) (g := (cod m0_carryOut 33, [some (.inl 12), some (.inr 4), some (.inr x), some (.inr y), some (.inr z)], [], τ)) rfl ⟨by decide, by decide⟩ ?_
        refine ex_k 6 (P := none) (g := (cod m0_carryOut 39, [some (.inl 12), some (.inr 4), some (.inr x), some (.inr y), some (.inr z)], [.inr 1, .inr z, .inr y, .inr x, .inl 7], τ)) rfl trivial ?_
        refine ex_b (P := ¬ z = 1) (ct := (cod m0_carryOut 42, [some (.inl 12), some (.inr 4), some (.inr x), some (.inr y), some (.inr z)], [.inr y, .inr x, .inl 7], τ)) (cf := (cod m0_carryOut 40, [some (.inl 12), some (.inr 4), some (.inr x), some (.inr y), some (.inr z)], [.inr y, .inr x, .inl 7], τ)) rfl ⟨⟨by omega, by omega⟩, ⟨by decide, by decide⟩⟩ (fun hh => absurd hh (by omega)) (fun _ => ?_)
        refine ex_k 2 (P := none) (g := (cod m0_carryOut 43, [some (.inl 12), some (.inr 4), some (.inr x), some (.inr y), some (.inr z)], [.inr 1, .inr y, .inr x, .inl 7], τ)) rfl trivial ?_
        refine ex_c (s_stepTo (τ := τ) (z := 1) ⟨by omega, by omega⟩) (is := cod m0_carryOut 44) (L := [some (.inl 12), some (.inr 4), some (.inr x), some (.inr y), some (.inr z)]) (st := [.inr y, .inr x, .inl 7]) rfl rfl rfl ?_
        show Ex _ _ (cod m0_carryOut 44, [some (.inl 12), some (.inr 4), some (.inr x), some (.inr y), some (.inr z)], [.inr 1, .inr y, .inr x, .inl 7], τ) _ _
        refine ex_c (s_makeMove (τ := τ) (f := x) (r := y) (s := 1) (Or.inl ⟨rfl, rfl, rfl⟩) hS (by omega) (by omega) (by omega) hgo hov (by omega)) (is := cod m0_carryOut 45) (L := [some (.inl 12), some (.inr 4), some (.inr x), some (.inr y), some (.inr z)]) (st := []) rfl rfl rfl ?_
        show Ex _ _ (cod m0_carryOut 45, [some (.inl 12), some (.inr 4), some (.inr x), some (.inr y), some (.inr z)], [.inr (mkp (τ 4) x y 1)], (zr τ 4 (mkm (τ 4) x y 1))) _ _
        refine ex_k 2 (P := none) (g := (cod m0_carryOut 51, [some (.inl 12), some (.inr 4), some (.inr x), some (.inr y), some (.inr z)], [], (zr τ 4 (mkm (τ 4) x y 1)))) rfl trivial ?_
        exact ex_r rfl rfl rfl (rfl)
      · rw [if_neg hzz] at hgo hov ⊢
        refine Ex.call ?_ rfl rfl
        show Ex _ _ (cod m0_carryOut 0, [some (.inl 12), some (.inr 4), some (.inr x), some (.inr y), some (.inr z)], [], τ) _ _
        refine ex_k 2 (P := some (Rng 4)) (g := (cod m0_carryOut 33, [some (.inl 12), some (.inr 4), some (.inr x), some (.inr y), some (.inr z)], [], τ)) rfl ⟨by decide, by decide⟩ ?_
        refine ex_k 6 (P := none) (g := (cod m0_carryOut 39, [some (.inl 12), some (.inr 4), some (.inr x), some (.inr y), some (.inr z)], [.inr 1, .inr z, .inr y, .inr x, .inl 7], τ)) rfl trivial ?_
        refine ex_b (P := ¬ z = 1) (ct := (cod m0_carryOut 42, [some (.inl 12), some (.inr 4), some (.inr x), some (.inr y), some (.inr z)], [.inr y, .inr x, .inl 7], τ)) (cf := (cod m0_carryOut 40, [some (.inl 12), some (.inr 4), some (.inr x), some (.inr y), some (.inr z)], [.inr y, .inr x, .inl 7], τ)) rfl ⟨⟨by omega, by omega⟩, ⟨by decide, by decide⟩⟩ (fun _ => ?_) (fun hh => absurd (by omega) hh)
        refine ex_k 1 (P := none) (g := (cod m0_carryOut 43, [some (.inl 12), some (.inr 4), some (.inr x), some (.inr y), some (.inr z)], [.inr 0, .inr y, .inr x, .inl 7], τ)) rfl trivial ?_
        refine ex_c (s_stepTo (τ := τ) (z := 0) ⟨by omega, by omega⟩) (is := cod m0_carryOut 44) (L := [some (.inl 12), some (.inr 4), some (.inr x), some (.inr y), some (.inr z)]) (st := [.inr y, .inr x, .inl 7]) rfl rfl rfl ?_
        show Ex _ _ (cod m0_carryOut 44, [some (.inl 12), some (.inr 4), some (.inr x), some (.inr y), some (.inr z)], [.inr (-1), .inr y, .inr x, .inl 7], τ) _ _
        refine ex_c (s_makeMove (τ := τ) (f := x) (r := y) (s := (-1)) (Or.inl ⟨rfl, rfl, rfl⟩) hS (by omega) (by omega) (by omega) hgo hov (by omega)) (is := cod m0_carryOut 45) (L := [some (.inl 12), some (.inr 4), some (.inr x), some (.inr y), some (.inr z)]) (st := []) rfl rfl rfl ?_
        show Ex _ _ (cod m0_carryOut 45, [some (.inl 12), some (.inr 4), some (.inr x), some (.inr y), some (.inr z)], [.inr (mkp (τ 4) x y (-1))], (zr τ 4 (mkm (τ 4) x y (-1)))) _ _
        refine ex_k 2 (P := none) (g := (cod m0_carryOut 51, [some (.inl 12), some (.inr 4), some (.inr x), some (.inr y), some (.inr z)], [], (zr τ 4 (mkm (τ 4) x y (-1))))) rfl trivial ?_
        exact ex_r rfl rfl rfl (rfl)
    · refine Ex.call ?_ rfl rfl
      show Ex _ _ (cod m0_carryOut 0, [some (.inl 12), some (.inr 5), some (.inr x), some (.inr y), some (.inr z)], [], τ) _ _
      refine ex_k 2 (P := some (Rng 5)) (g := (cod m0_carryOut 47, [some (.inl 12), some (.inr 5), some (.inr x), some (.inr y), some (.inr z)], [], τ)) rfl ⟨by decide, by decide⟩ ?_
      refine ex_k 2 (P := none) (g := (cod m0_carryOut 49, [some (.inl 12), some (.inr 5), some (.inr x), some (.inr y), some (.inr z)], [.inl 7], τ)) rfl trivial ?_
      refine ex_c (s_passTurn (τ := τ) (Or.inl ⟨rfl, rfl, rfl⟩) hS (by omega)) (is := cod m0_carryOut 50) (L := [some (.inl 12), some (.inr 5), some (.inr x), some (.inr y), some (.inr z)]) (st := []) rfl rfl rfl ?_
      show Ex _ _ (cod m0_carryOut 50, [some (.inl 12), some (.inr 5), some (.inr x), some (.inr y), some (.inr z)], [.inr (cel (psT (τ 4)) 108)], (zr τ 4 (psT (τ 4)))) _ _
      refine ex_k 1 (P := none) (g := (cod m0_carryOut 51, [some (.inl 12), some (.inr 5), some (.inr x), some (.inr y), some (.inr z)], [], (zr τ 4 (psT (τ 4))))) rfl trivial ?_
      exact ex_r rfl rfl rfl (rfl)
  · rcases hw with rfl | rfl | rfl | rfl | rfl | rfl
    · refine Ex.call ?_ rfl rfl
      show Ex _ _ (cod m0_carryOut 0, [some (.inl 13), some (.inr 0), some (.inr x), some (.inr y), some (.inr z)], [], τ) _ _
      refine ex_k 2 (P := some (Rng 0)) (g := (cod m0_carryOut 2, [some (.inl 13), some (.inr 0), some (.inr x), some (.inr y), some (.inr z)], [], τ)) rfl ⟨by decide, by decide⟩ ?_
      refine ex_k 5 (P := none) (g := (cod m0_carryOut 7, [some (.inl 13), some (.inr 0), some (.inr x), some (.inr y), some (.inr z)], [.inr z, .inr y, .inr x, .inl 2], τ)) rfl trivial ?_
      refine ex_c (s_addFerry (τ := τ) (x := x) (p := y) (q := z) (Or.inr (Or.inl ⟨rfl, rfl⟩)) (show 0 ≤ cel (τ 5) 107 ∧ cel (τ 5) 107 ≤ 8 by omega) ⟨by omega, by omega⟩ ⟨by omega, by omega⟩) (is := cod m0_carryOut 8) (L := [some (.inl 13), some (.inr 0), some (.inr x), some (.inr y), some (.inr z)]) (st := []) rfl rfl rfl ?_
      show Ex _ _ (cod m0_carryOut 8, [some (.inl 13), some (.inr 0), some (.inr x), some (.inr y), some (.inr z)], [.inr (cel (τ 5) 107)], (zr τ 5 (adf (τ 5) x y z))) _ _
      refine ex_k 2 (P := none) (g := (cod m0_carryOut 51, [some (.inl 13), some (.inr 0), some (.inr x), some (.inr y), some (.inr z)], [], (zr τ 5 (adf (τ 5) x y z)))) rfl trivial ?_
      exact ex_r rfl rfl rfl (rfl)
    · have hr : 0 ≤ x ∧ x < 2 := by first | (have q : obT (τ 5) x y = 0 := ho; unfold obT at q; split at q <;> omega) | (have q : obL (τ 5) x y z = 0 := ho; unfold obL at q; split at q <;> omega) | (have q : obG (τ 5) x y z = 0 := ho; unfold obG at q; split at q <;> omega)
      refine Ex.call ?_ rfl rfl
      show Ex _ _ (cod m0_carryOut 0, [some (.inl 13), some (.inr 1), some (.inr x), some (.inr y), some (.inr z)], [], τ) _ _
      refine ex_k 2 (P := some (Rng 1)) (g := (cod m0_carryOut 10, [some (.inl 13), some (.inr 1), some (.inr x), some (.inr y), some (.inr z)], [], τ)) rfl ⟨by decide, by decide⟩ ?_
      refine ex_k 4 (P := none) (g := (cod m0_carryOut 14, [some (.inl 13), some (.inr 1), some (.inr x), some (.inr y), some (.inr z)], [.inr y, .inr x, .inl 2], τ)) rfl trivial ?_
      refine ex_c (s_addTug (τ := τ) (r := x) (p := y) (Or.inr (Or.inl ⟨rfl, rfl⟩)) (by omega) ⟨by omega, by omega⟩ hS.bd) (is := cod m0_carryOut 15) (L := [some (.inl 13), some (.inr 1), some (.inr x), some (.inr y), some (.inr z)]) (st := []) rfl rfl rfl ?_
      show Ex _ _ (cod m0_carryOut 15, [some (.inl 13), some (.inr 1), some (.inr x), some (.inr y), some (.inr z)], [.inr (tgs (swh (τ 5) x y 8) x)], (zr τ 5 (swh (τ 5) x y 8))) _ _
      refine ex_k 2 (P := none) (g := (cod m0_carryOut 51, [some (.inl 13), some (.inr 1), some (.inr x), some (.inr y), some (.inr z)], [], (zr τ 5 (swh (τ 5) x y 8)))) rfl trivial ?_
      exact ex_r rfl rfl rfl (rfl)
    · have hr : 0 ≤ x ∧ x < 2 := by first | (have q : obT (τ 5) x y = 0 := ho; unfold obT at q; split at q <;> omega) | (have q : obL (τ 5) x y z = 0 := ho; unfold obL at q; split at q <;> omega) | (have q : obG (τ 5) x y z = 0 := ho; unfold obG at q; split at q <;> omega)
      refine Ex.call ?_ rfl rfl
      show Ex _ _ (cod m0_carryOut 0, [some (.inl 13), some (.inr 2), some (.inr x), some (.inr y), some (.inr z)], [], τ) _ _
      refine ex_k 2 (P := some (Rng 2)) (g := (cod m0_carryOut 17, [some (.inl 13), some (.inr 2), some (.inr x), some (.inr y), some (.inr z)], [], τ)) rfl ⟨by decide, by decide⟩ ?_
      refine ex_k 5 (P := none) (g := (cod m0_carryOut 22, [some (.inl 13), some (.inr 2), some (.inr x), some (.inr y), some (.inr z)], [.inr z, .inr y, .inr x, .inl 2], τ)) rfl trivial ?_
      refine ex_c (s_tellUses (τ := τ) (r := x) (p := y) (v := z) (Or.inr (Or.inl ⟨rfl, rfl⟩)) (by omega) ⟨by omega, by omega⟩) (is := cod m0_carryOut 23) (L := [some (.inl 13), some (.inr 2), some (.inr x), some (.inr y), some (.inr z)]) (st := []) rfl rfl rfl ?_
      show Ex _ _ (cod m0_carryOut 23, [some (.inl 13), some (.inr 2), some (.inr x), some (.inr y), some (.inr z)], [.inr (usz (τ 5) x y)], (zr τ 5 (sus (τ 5) x y z))) _ _
      refine ex_k 2 (P := none) (g := (cod m0_carryOut 51, [some (.inl 13), some (.inr 2), some (.inr x), some (.inr y), some (.inr z)], [], (zr τ 5 (sus (τ 5) x y z)))) rfl trivial ?_
      exact ex_r rfl rfl rfl (rfl)
    · have hr : 0 ≤ x ∧ x < 2 := by first | (have q : obT (τ 5) x y = 0 := ho; unfold obT at q; split at q <;> omega) | (have q : obL (τ 5) x y z = 0 := ho; unfold obL at q; split at q <;> omega) | (have q : obG (τ 5) x y z = 0 := ho; unfold obG at q; split at q <;> omega)
      refine Ex.call ?_ rfl rfl
      show Ex _ _ (cod m0_carryOut 0, [some (.inl 13), some (.inr 3), some (.inr x), some (.inr y), some (.inr z)], [], τ) _ _
      refine ex_k 2 (P := some (Rng 3)) (g := (cod m0_carryOut 25, [some (.inl 13), some (.inr 3), some (.inr x), some (.inr y), some (.inr z)], [], τ)) rfl ⟨by decide, by decide⟩ ?_
      refine ex_k 5 (P := none) (g := (cod m0_carryOut 30, [some (.inl 13), some (.inr 3), some (.inr x), some (.inr y), some (.inr z)], [.inr z, .inr y, .inr x, .inl 2], τ)) rfl trivial ?_
      refine ex_c (s_tellFog (τ := τ) (r := x) (b := y) (w := z) (Or.inr (Or.inl ⟨rfl, rfl⟩)) (by omega)) (is := cod m0_carryOut 31) (L := [some (.inl 13), some (.inr 3), some (.inr x), some (.inr y), some (.inr z)]) (st := []) rfl rfl rfl ?_
      show Ex _ _ (cod m0_carryOut 31, [some (.inl 13), some (.inr 3), some (.inr x), some (.inr y), some (.inr z)], [.inr (cel (τ 5) (98 + x))], (zr τ 5 (sce (sce (τ 5) (96 + x) y) (98 + x) z))) _ _
      refine ex_k 2 (P := none) (g := (cod m0_carryOut 51, [some (.inl 13), some (.inr 3), some (.inr x), some (.inr y), some (.inr z)], [], (zr τ 5 (sce (sce (τ 5) (96 + x) y) (98 + x) z)))) rfl trivial ?_
      exact ex_r rfl rfl rfl (rfl)
    · have ho2 : obM (τ 5) x y (if z = 1 then 1 else -1) = 0 := ho
      obtain ⟨hf, hr, hoc⟩ := obM_ok ho2
      have hgo := (gol_ok hoc).1
      have hov := hC.ov (p := cel (τ 5) (0 + x * 6 + (1 + y)) + (if z = 1 then 1 else -1)) hr
      show RZ 7 m0_carryOut _ τ (.inl (none, zr τ 5 (mkm (τ 5) x y (if z = 1 then 1 else -1))))
      by_cases hzz : z = 1
      · rw [if_pos hzz] at hgo hov ⊢
        refine Ex.call ?_ rfl rfl
        show Ex _ _ (cod m0_carryOut 0, [some (.inl 13), some (.inr 4), some (.inr x), some (.inr y), some (.inr z)], [], τ) _ _
        refine ex_k 2 (P := some (Rng 4)) (g := (cod m0_carryOut 33, [some (.inl 13), some (.inr 4), some (.inr x), some (.inr y), some (.inr z)], [], τ)) rfl ⟨by decide, by decide⟩ ?_
        refine ex_k 6 (P := none) (g := (cod m0_carryOut 39, [some (.inl 13), some (.inr 4), some (.inr x), some (.inr y), some (.inr z)], [.inr 1, .inr z, .inr y, .inr x, .inl 8], τ)) rfl trivial ?_
        refine ex_b (P := ¬ z = 1) (ct := (cod m0_carryOut 42, [some (.inl 13), some (.inr 4), some (.inr x), some (.inr y), some (.inr z)], [.inr y, .inr x, .inl 8], τ)) (cf := (cod m0_carryOut 40, [some (.inl 13), some (.inr 4), some (.inr x), some (.inr y), some (.inr z)], [.inr y, .inr x, .inl 8], τ)) rfl ⟨⟨by omega, by omega⟩, ⟨by decide, by decide⟩⟩ (fun hh => absurd hh (by omega)) (fun _ => ?_)
        refine ex_k 2 (P := none) (g := (cod m0_carryOut 43, [some (.inl 13), some (.inr 4), some (.inr x), some (.inr y), some (.inr z)], [.inr 1, .inr y, .inr x, .inl 8], τ)) rfl trivial ?_
        refine ex_c (s_stepTo (τ := τ) (z := 1) ⟨by omega, by omega⟩) (is := cod m0_carryOut 44) (L := [some (.inl 13), some (.inr 4), some (.inr x), some (.inr y), some (.inr z)]) (st := [.inr y, .inr x, .inl 8]) rfl rfl rfl ?_
        show Ex _ _ (cod m0_carryOut 44, [some (.inl 13), some (.inr 4), some (.inr x), some (.inr y), some (.inr z)], [.inr 1, .inr y, .inr x, .inl 8], τ) _ _
        refine ex_c (s_makeMove (τ := τ) (f := x) (r := y) (s := 1) (Or.inr ⟨rfl, rfl, rfl⟩) hS (by omega) (by omega) (by omega) hgo hov (by omega)) (is := cod m0_carryOut 45) (L := [some (.inl 13), some (.inr 4), some (.inr x), some (.inr y), some (.inr z)]) (st := []) rfl rfl rfl ?_
        show Ex _ _ (cod m0_carryOut 45, [some (.inl 13), some (.inr 4), some (.inr x), some (.inr y), some (.inr z)], [.inr (mkp (τ 5) x y 1)], (zr τ 5 (mkm (τ 5) x y 1))) _ _
        refine ex_k 2 (P := none) (g := (cod m0_carryOut 51, [some (.inl 13), some (.inr 4), some (.inr x), some (.inr y), some (.inr z)], [], (zr τ 5 (mkm (τ 5) x y 1)))) rfl trivial ?_
        exact ex_r rfl rfl rfl (rfl)
      · rw [if_neg hzz] at hgo hov ⊢
        refine Ex.call ?_ rfl rfl
        show Ex _ _ (cod m0_carryOut 0, [some (.inl 13), some (.inr 4), some (.inr x), some (.inr y), some (.inr z)], [], τ) _ _
        refine ex_k 2 (P := some (Rng 4)) (g := (cod m0_carryOut 33, [some (.inl 13), some (.inr 4), some (.inr x), some (.inr y), some (.inr z)], [], τ)) rfl ⟨by decide, by decide⟩ ?_
        refine ex_k 6 (P := none) (g := (cod m0_carryOut 39, [some (.inl 13), some (.inr 4), some (.inr x), some (.inr y), some (.inr z)], [.inr 1, .inr z, .inr y, .inr x, .inl 8], τ)) rfl trivial ?_
        refine ex_b (P := ¬ z = 1) (ct := (cod m0_carryOut 42, [some (.inl 13), some (.inr 4), some (.inr x), some (.inr y), some (.inr z)], [.inr y, .inr x, .inl 8], τ)) (cf := (cod m0_carryOut 40, [some (.inl 13), some (.inr 4), some (.inr x), some (.inr y), some (.inr z)], [.inr y, .inr x, .inl 8], τ)) rfl ⟨⟨by omega, by omega⟩, ⟨by decide, by decide⟩⟩ (fun _ => ?_) (fun hh => absurd (by omega) hh)
        refine ex_k 1 (P := none) (g := (cod m0_carryOut 43, [some (.inl 13), some (.inr 4), some (.inr x), some (.inr y), some (.inr z)], [.inr 0, .inr y, .inr x, .inl 8], τ)) rfl trivial ?_
        refine ex_c (s_stepTo (τ := τ) (z := 0) ⟨by omega, by omega⟩) (is := cod m0_carryOut 44) (L := [some (.inl 13), some (.inr 4), some (.inr x), some (.inr y), some (.inr z)]) (st := [.inr y, .inr x, .inl 8]) rfl rfl rfl ?_
        show Ex _ _ (cod m0_carryOut 44, [some (.inl 13), some (.inr 4), some (.inr x), some (.inr y), some (.inr z)], [.inr (-1), .inr y, .inr x, .inl 8], τ) _ _
        refine ex_c (s_makeMove (τ := τ) (f := x) (r := y) (s := (-1)) (Or.inr ⟨rfl, rfl, rfl⟩) hS (by omega) (by omega) (by omega) hgo hov (by omega)) (is := cod m0_carryOut 45) (L := [some (.inl 13), some (.inr 4), some (.inr x), some (.inr y), some (.inr z)]) (st := []) rfl rfl rfl ?_
        show Ex _ _ (cod m0_carryOut 45, [some (.inl 13), some (.inr 4), some (.inr x), some (.inr y), some (.inr z)], [.inr (mkp (τ 5) x y (-1))], (zr τ 5 (mkm (τ 5) x y (-1)))) _ _
        refine ex_k 2 (P := none) (g := (cod m0_carryOut 51, [some (.inl 13), some (.inr 4), some (.inr x), some (.inr y), some (.inr z)], [], (zr τ 5 (mkm (τ 5) x y (-1))))) rfl trivial ?_
        exact ex_r rfl rfl rfl (rfl)
    · refine Ex.call ?_ rfl rfl
      show Ex _ _ (cod m0_carryOut 0, [some (.inl 13), some (.inr 5), some (.inr x), some (.inr y), some (.inr z)], [], τ) _ _
      refine ex_k 2 (P := some (Rng 5)) (g := (cod m0_carryOut 47, [some (.inl 13), some (.inr 5), some (.inr x), some (.inr y), some (.inr z)], [], τ)) rfl ⟨by decide, by decide⟩ ?_
      refine ex_k 2 (P := none) (g := (cod m0_carryOut 49, [some (.inl 13), some (.inr 5), some (.inr x), some (.inr y), some (.inr z)], [.inl 8], τ)) rfl trivial ?_
      refine ex_c (s_passTurn (τ := τ) (Or.inr ⟨rfl, rfl, rfl⟩) hS (by omega)) (is := cod m0_carryOut 50) (L := [some (.inl 13), some (.inr 5), some (.inr x), some (.inr y), some (.inr z)]) (st := []) rfl rfl rfl ?_
      show Ex _ _ (cod m0_carryOut 50, [some (.inl 13), some (.inr 5), some (.inr x), some (.inr y), some (.inr z)], [.inr (cel (psT (τ 5)) 108)], (zr τ 5 (psT (τ 5)))) _ _
      refine ex_k 1 (P := none) (g := (cod m0_carryOut 51, [some (.inl 13), some (.inr 5), some (.inr x), some (.inr y), some (.inr z)], [], (zr τ 5 (psT (τ 5))))) rfl trivial ?_
      exact ex_r rfl rfl rfl (rfl)
end MAI
