/-! lines: printed by wip/whole/db13.py -/
section LIN
def lnl (b : Nat → Int) (l : List Int) : Nat → Int := fun i => if i < l.length then l.getD i 0 else b i
theorem lnl_nil {b : Nat → Int} : lnl b [] = b := by
  funext i
  unfold lnl
  rw [if_neg (by simp)]
theorem lnl_add {b : Nat → Int} {l : List Int} {v : Int} : zu (lnl b l) l.length v = lnl b (l ++ [v]) := by
  funext i
  unfold lnl zu
  by_cases h : i = l.length
  · subst h
    rw [if_pos rfl, if_pos (by simp)]
    simp [List.getD]
  · rw [if_neg h]
    show (if i < l.length then l.getD i 0 else b i) = _
    by_cases h2 : i < l.length
    · rw [if_pos h2, if_pos (by simp; omega)]
      simp [List.getD, List.getElem?_append, h2]
    · rw [if_neg h2, if_neg (by simp; omega)]
/-- the line of the class -/
def lns (τ : SZ) (l : List Int) : SZ := zr (zr τ 20 (lnl (τ 20) l)) 19 (zu (τ 19) 1 (l.length : Int))
theorem lns_nil {τ : SZ} : zr τ 19 (zu (τ 19) 1 0) = lns τ [] := by
  unfold lns
  rw [lnl_nil, zr_self]
  rfl
theorem lns_add {τ : SZ} {l : List Int} {v : Int} : zr (zr (lns τ l) 20 (zu (lns τ l 20) (lns τ l 19 1).toNat v)) 19 (zu (lns τ l 19) 1 (lns τ l 19 1 + 1)) = lns τ (l ++ [v]) := by
  show zr (zr (zr (zr τ 20 (lnl (τ 20) l)) 19 (zu (τ 19) 1 (l.length : Int))) 20 (zu (lnl (τ 20) l) ((l.length : Int)).toNat v)) 19 (zu (zu (τ 19) 1 (l.length : Int)) 1 ((l.length : Int) + 1)) = _
  rw [Int.toNat_natCast, lnl_add, zr_sw (a := 19) (b := 20) (by decide), zr_zr, zr_zr, zu_zu]
  unfold lns
  rw [show ((l ++ [v]).length : Int) = (l.length : Int) + 1 from by simp]
theorem s_lineAdd {τ : SZ} {l : List Int} {v : Int} (hl : l.length < 12) (hv : 0 ≤ v ∧ v < 65536) : RZ 1 m3_add [.inl 19, .inr v] (lns τ l) (.inl (none, lns τ (l ++ [v]))) := by
  have e : lns τ l 19 1 = (l.length : Int) := rfl
  refine Ex.call ?_ rfl rfl
  show Ex _ _ (cod m3_add 0, [some (.inl 19), some (.inr v)], [], lns τ l) _ _
  refine ex_k 2 (P := none) (g := (cod m3_add 2, [some (.inl 19), some (.inr v)], [.inr (((lns τ l) 19) 1)], lns τ l)) rfl trivial ?_
  refine ex_b (P := (((lns τ l) 19) 1) < 0) (ct := (cod m3_add 21, [some (.inl 19), some (.inr v)], [], lns τ l)) (cf := (cod m3_add 3, [some (.inl 19), some (.inr v)], [], lns τ l)) rfl ⟨by omega, by omega⟩ (fun h1 => ?_) (fun h1 => ?_)
  · first
    | (exfalso; omega)
    | (
        exact ex_r rfl rfl rfl (rV lns_add.symm))
  · first
    | (exfalso; omega)
    | (
        refine ex_k 5 (P := none) (g := (cod m3_add 8, [some (.inl 19), some (.inr v)], [.inr 12, .inr (((lns τ l) 19) 1)], lns τ l)) rfl trivial ?_
        refine ex_b (P := 12 ≤ (((lns τ l) 19) 1)) (ct := (cod m3_add 21, [some (.inl 19), some (.inr v)], [], lns τ l)) (cf := (cod m3_add 9, [some (.inl 19), some (.inr v)], [], lns τ l)) rfl ⟨⟨by omega, by omega⟩, ⟨by decide, by decide⟩⟩ (fun h2 => ?_) (fun h2 => ?_)
        · first
          | (exfalso; omega)
          | (
              exact ex_r rfl rfl rfl (rV lns_add.symm))
        · first
          | (exfalso; omega)
          | (
              refine ex_k 6 (P := some ((0 ≤ (((lns τ l) 19) 1) ∧ (((lns τ l) 19) 1) < ((12 : Nat) : Int)) ∧ (1 = 1 → 0 ≤ v ∧ v < 65536))) (g := (cod m3_add 15, [some (.inl 19), some (.inr v)], [], (zr (lns τ l) 20 (zu ((lns τ l) 20) (((lns τ l) 19) 1).toNat v)))) rfl (by show (0 ≤ (((lns τ l) 19) 1) ∧ (((lns τ l) 19) 1) < ((12 : Nat) : Int)) ∧ (1 = 1 → 0 ≤ v ∧ v < 65536); omega) ?_
              refine ex_k 6 (P := none) (g := (cod m3_add 21, [some (.inl 19), some (.inr v)], [], (zr (zr (lns τ l) 20 (zu ((lns τ l) 20) (((lns τ l) 19) 1).toNat v)) 19 (zu ((lns τ l) 19) 1 ((((lns τ l) 19) 1) + 1))))) rfl trivial ?_
              exact ex_r rfl rfl rfl (rV lns_add.symm)))
def ltr (c : Nat → Int) (f : Int) : Int := if cel c (0 + f * 6 + 3) = 1 then 65 + f else 97 + f
theorem ltr_in {c : Nat → Int} {f : Int} (hf : 0 ≤ f ∧ f < 9) : 60 ≤ ltr c f ∧ ltr c f < 200 := by unfold ltr; split <;> omega
theorem s_letterOf {f : Int} {τ : SZ} (hf : 0 ≤ f ∧ f < 9) (hB : Bd (τ 4)) : RZ 2 m3_letterOf [.inl 1, .inr f] τ (.inl (some (.inr (ltr (τ 4) f)), τ)) := by
  have hb := cel_bd hB (0 + f * 6 + 3)
  refine Ex.call ?_ rfl rfl
  show Ex _ _ (cod m3_letterOf 0, [some (.inl 1), some (.inr f), none], [], τ) _ _
  refine ex_k 3 (P := none) (g := (cod m3_letterOf 3, [some (.inl 1), some (.inr f), none], [.inr 3, .inr f, .inl 1], τ)) rfl trivial ?_
  refine ex_c (s_number (τ := τ) (f := f) (w := 3) (Or.inl ⟨rfl, rfl⟩) (by omega) (by omega)) (is := cod m3_letterOf 4) (L := [some (.inl 1), some (.inr f), none]) (st := []) rfl rfl rfl ?_
  show Ex _ _ (cod m3_letterOf 4, [some (.inl 1), some (.inr f), none], [.inr (cel (τ 4) (0 + f * 6 + 3))], τ) _ _
  refine ex_k 1 (P := none) (g := (cod m3_letterOf 5, [some (.inl 1), some (.inr f), none], [.inr 1, .inr (cel (τ 4) (0 + f * 6 + 3))], τ)) rfl trivial ?_
  refine ex_b (P := ¬ (cel (τ 4) (0 + f * 6 + 3)) = 1) (ct := (cod m3_letterOf 8, [some (.inl 1), some (.inr f), none], [], τ)) (cf := (cod m3_letterOf 6, [some (.inl 1), some (.inr f), none], [], τ)) rfl ⟨⟨by omega, by omega⟩, ⟨by decide, by decide⟩⟩ (fun h1 => ?_) (fun h1 => ?_)
  · first
    | (exfalso; omega)
    | (
        refine ex_k 6 (P := some (0 ≤ (97 + f) ∧ (97 + f) < 65536)) (g := (cod m3_letterOf 14, [some (.inl 1), some (.inr f), some (.inr 97)], [.inr (97 + f)], τ)) rfl (by show 0 ≤ (97 + f) ∧ (97 + f) < 65536; omega) ?_
        exact ex_r rfl ⟨by omega, by omega⟩ rfl (rI (by unfold ltr; first | rw [if_pos (by omega)] | rw [if_neg (by omega)])))
  · first
    | (exfalso; omega)
    | (
        refine ex_k 7 (P := some (0 ≤ (65 + f) ∧ (65 + f) < 65536)) (g := (cod m3_letterOf 14, [some (.inl 1), some (.inr f), some (.inr 65)], [.inr (65 + f)], τ)) rfl (by show 0 ≤ (65 + f) ∧ (65 + f) < 65536; omega) ?_
        exact ex_r rfl ⟨by omega, by omega⟩ rfl (rI (by unfold ltr; first | rw [if_pos (by omega)] | rw [if_neg (by omega)])))
def chr (c : Nat → Int) (r p : Int) : Int := if whz c r p = 8 then 42 else if ¬ whz c r p = -1 then ltr c (whz c r p) else if 0 < usz c r p then 61 else 46
def rvl (c : Nat → Int) (r : Int) : Nat → List Int
  | 0 => []
  | k + 1 => rvl c r k ++ [chr c r (k : Int)]
theorem rvl_len {c : Nat → Int} {r : Int} : ∀ (k : Nat), (rvl c r k).length = k
  | 0 => rfl
  | k + 1 => by
    have h := rvl_len (c := c) (r := r) k
    show (rvl c r k ++ [_]).length = _
    simp [h]
theorem lp_writeRiver {r : Int} {τ : SZ} {B : Int} (hS : Sh B (τ 4)) (hr : 0 ≤ r ∧ r < 2) : ∀ (j k : Nat), k + j = 12 → ∀ (o4 : Option VZ), Ex 3 m3_writeRiver (cod m3_writeRiver 5, [some (.inl 19), some (.inl 1), some (.inr r), some (.inr (k : Int)), o4], [], lns τ (rvl (τ 4) r k)) 0 (.inl (some (.inr 12), lns τ (rvl (τ 4) r 12))) := by
  intro j
  induction j with
  | zero =>
    intro k hk o4
    have hw := hS.wh (p := (k : Int)) hr
    have hu := hS.us (p := (k : Int)) hr
    have hlen := rvl_len (c := τ 4) (r := r) k
    have hlt : 0 ≤ whz (τ 4) r (k : Int) → 60 ≤ ltr (τ 4) (whz (τ 4) r (k : Int)) ∧ ltr (τ 4) (whz (τ 4) r (k : Int)) < 200 := fun q => ltr_in (by omega)
    refine ex_k 2 (P := none) (g := (cod m3_writeRiver 7, [some (.inl 19), some (.inl 1), some (.inr r), some (.inr (k : Int)), o4], [.inr 12, .inr (k : Int)], lns τ (rvl (τ 4) r k))) rfl trivial ?_
    refine ex_b (P := 12 ≤ (k : Int)) (ct := (cod m3_writeRiver 41, [some (.inl 19), some (.inl 1), some (.inr r), some (.inr (k : Int)), o4], [], lns τ (rvl (τ 4) r k))) (cf := (cod m3_writeRiver 8, [some (.inl 19), some (.inl 1), some (.inr r), some (.inr (k : Int)), o4], [], lns τ (rvl (τ 4) r k))) rfl ⟨⟨by omega, by omega⟩, ⟨by decide, by decide⟩⟩ (fun _ => ?_) (fun hh => absurd (by omega) hh)
    refine ex_k 2 (P := none) (g := (cod m3_writeRiver 43, [some (.inl 19), some (.inl 1), some (.inr r), some (.inr (k : Int)), o4], [.inr (((lns τ (rvl (τ 4) r k)) 19) 1)], lns τ (rvl (τ 4) r k))) rfl trivial ?_
    exact ex_r rfl trivial rfl (rIV (by show _ = ((rvl (τ 4) r k).length : Int); rw [hlen]; omega) (by rw [show k = 12 from by omega]))
  | succ j ih =>
    intro k hk o4
    have hw := hS.wh (p := (k : Int)) hr
    have hu := hS.us (p := (k : Int)) hr
    have hlen := rvl_len (c := τ 4) (r := r) k
    have hlt : 0 ≤ whz (τ 4) r (k : Int) → 60 ≤ ltr (τ 4) (whz (τ 4) r (k : Int)) ∧ ltr (τ 4) (whz (τ 4) r (k : Int)) < 200 := fun q => ltr_in (by omega)
    refine ex_k 2 (P := none) (g := (cod m3_writeRiver 7, [some (.inl 19), some (.inl 1), some (.inr r), some (.inr (k : Int)), o4], [.inr 12, .inr (k : Int)], lns τ (rvl (τ 4) r k))) rfl trivial ?_
    refine ex_b (P := 12 ≤ (k : Int)) (ct := (cod m3_writeRiver 41, [some (.inl 19), some (.inl 1), some (.inr r), some (.inr (k : Int)), o4], [], lns τ (rvl (τ 4) r k))) (cf := (cod m3_writeRiver 8, [some (.inl 19), some (.inl 1), some (.inr r), some (.inr (k : Int)), o4], [], lns τ (rvl (τ 4) r k))) rfl ⟨⟨by omega, by omega⟩, ⟨by decide, by decide⟩⟩ (fun hh => absurd hh (by omega)) (fun _ => ?_)
    refine ex_k 3 (P := none) (g := (cod m3_writeRiver 11, [some (.inl 19), some (.inl 1), some (.inr r), some (.inr (k : Int)), o4], [.inr (k : Int), .inr r, .inl 1], lns τ (rvl (τ 4) r k))) rfl trivial ?_
    refine ex_c (s_whoIsAt (τ := lns τ (rvl (τ 4) r k)) (r := r) (p := (k : Int)) (Or.inl ⟨rfl, rfl⟩) (by omega) ⟨by omega, by omega⟩) (is := cod m3_writeRiver 12) (L := [some (.inl 19), some (.inl 1), some (.inr r), some (.inr (k : Int)), o4]) (st := []) rfl rfl rfl ?_
    show Ex _ _ (cod m3_writeRiver 12, [some (.inl 19), some (.inl 1), some (.inr r), some (.inr (k : Int)), o4], [.inr (whz (τ 4) r (k : Int))], lns τ (rvl (τ 4) r k)) _ _
    refine ex_k 3 (P := none) (g := (cod m3_writeRiver 15, [some (.inl 19), some (.inl 1), some (.inr r), some (.inr (k : Int)), some (.inr (whz (τ 4) r (k : Int)))], [.inr 8, .inr (whz (τ 4) r (k : Int))], lns τ (rvl (τ 4) r k))) rfl trivial ?_
    refine ex_b (P := ¬ (whz (τ 4) r (k : Int)) = 8) (ct := (cod m3_writeRiver 20, [some (.inl 19), some (.inl 1), some (.inr r), some (.inr (k : Int)), some (.inr (whz (τ 4) r (k : Int)))], [], lns τ (rvl (τ 4) r k))) (cf := (cod m3_writeRiver 16, [some (.inl 19), some (.inl 1), some (.inr r), some (.inr (k : Int)), some (.inr (whz (τ 4) r (k : Int)))], [], lns τ (rvl (τ 4) r k))) rfl ⟨⟨by omega, by omega⟩, ⟨by decide, by decide⟩⟩ (fun h2 => ?_) (fun h2 => ?_)
    · first
      | (exfalso; omega)
      | (
          refine ex_k 2 (P := none) (g := (cod m3_writeRiver 22, [some (.inl 19), some (.inl 1), some (.inr r), some (.inr (k : Int)), some (.inr (whz (τ 4) r (k : Int)))], [.inr (-1), .inr (whz (τ 4) r (k : Int))], lns τ (rvl (τ 4) r k))) rfl trivial ?_
          refine ex_b (P := (whz (τ 4) r (k : Int)) = (-1)) (ct := (cod m3_writeRiver 29, [some (.inl 19), some (.inl 1), some (.inr r), some (.inr (k : Int)), some (.inr (whz (τ 4) r (k : Int)))], [], lns τ (rvl (τ 4) r k))) (cf := (cod m3_writeRiver 23, [some (.inl 19), some (.inl 1), some (.inr r), some (.inr (k : Int)), some (.inr (whz (τ 4) r (k : Int)))], [], lns τ (rvl (τ 4) r k))) rfl ⟨⟨by omega, by omega⟩, ⟨by decide, by decide⟩⟩ (fun h3 => ?_) (fun h3 => ?_)
          · first
            | (exfalso; omega)
            | (
                refine ex_k 4 (P := none) (g := (cod m3_writeRiver 33, [some (.inl 19), some (.inl 1), some (.inr r), some (.inr (k : Int)), some (.inr (whz (τ 4) r (k : Int)))], [.inr (k : Int), .inr r, .inl 1, .inl 19], lns τ (rvl (τ 4) r k))) rfl trivial ?_
                refine ex_c (s_usesAt (τ := lns τ (rvl (τ 4) r k)) (r := r) (p := (k : Int)) (Or.inl ⟨rfl, rfl⟩) (by omega) ⟨by omega, by omega⟩) (is := cod m3_writeRiver 34) (L := [some (.inl 19), some (.inl 1), some (.inr r), some (.inr (k : Int)), some (.inr (whz (τ 4) r (k : Int)))]) (st := [.inl 19]) rfl rfl rfl ?_
                show Ex _ _ (cod m3_writeRiver 34, [some (.inl 19), some (.inl 1), some (.inr r), some (.inr (k : Int)), some (.inr (whz (τ 4) r (k : Int)))], [.inr (usz (τ 4) r (k : Int)), .inl 19], lns τ (rvl (τ 4) r k)) _ _
                refine ex_b (P := (usz (τ 4) r (k : Int)) ≤ 0) (ct := (cod m3_writeRiver 37, [some (.inl 19), some (.inl 1), some (.inr r), some (.inr (k : Int)), some (.inr (whz (τ 4) r (k : Int)))], [.inl 19], lns τ (rvl (τ 4) r k))) (cf := (cod m3_writeRiver 35, [some (.inl 19), some (.inl 1), some (.inr r), some (.inr (k : Int)), some (.inr (whz (τ 4) r (k : Int)))], [.inl 19], lns τ (rvl (τ 4) r k))) rfl ⟨by omega, by omega⟩ (fun h4 => ?_) (fun h4 => ?_)
                · first
                  | (exfalso; omega)
                  | (
                      refine ex_k 1 (P := none) (g := (cod m3_writeRiver 38, [some (.inl 19), some (.inl 1), some (.inr r), some (.inr (k : Int)), some (.inr (whz (τ 4) r (k : Int)))], [.inr 46, .inl 19], lns τ (rvl (τ 4) r k))) rfl trivial ?_
                      refine ex_c (s_lineAdd (l := (rvl (τ 4) r k)) (v := 46) (by first | omega | (simp only [List.length_append, List.length_cons, List.length_nil]; omega)) (by omega)) (is := cod m3_writeRiver 39) (L := [some (.inl 19), some (.inl 1), some (.inr r), some (.inr (k : Int)), some (.inr (whz (τ 4) r (k : Int)))]) (st := []) rfl rfl rfl ?_
                      show Ex _ _ (cod m3_writeRiver 39, [some (.inl 19), some (.inl 1), some (.inr r), some (.inr (k : Int)), some (.inr (whz (τ 4) r (k : Int)))], [], lns τ ((rvl (τ 4) r k) ++ [46])) _ _
                      refine ex_k 2 (P := none) (g := (cod m3_writeRiver 5, [some (.inl 19), some (.inl 1), some (.inr r), some (.inr ((k : Int) + 1)), some (.inr (whz (τ 4) r (k : Int)))], [], lns τ ((rvl (τ 4) r k) ++ [46]))) rfl trivial ?_
                      rw [show ((rvl (τ 4) r k) ++ [46]) = rvl (τ 4) r (k + 1) from by show _ = rvl (τ 4) r k ++ [chr (τ 4) r (k : Int)]; unfold chr; (repeat (first | rw [if_pos (by omega)] | rw [if_neg (by omega)]))]
                      exact ih (k + 1) (by omega) _)
                · first
                  | (exfalso; omega)
                  | (
                      refine ex_k 2 (P := none) (g := (cod m3_writeRiver 38, [some (.inl 19), some (.inl 1), some (.inr r), some (.inr (k : Int)), some (.inr (whz (τ 4) r (k : Int)))], [.inr 61, .inl 19], lns τ (rvl (τ 4) r k))) rfl trivial ?_
                      refine ex_c (s_lineAdd (l := (rvl (τ 4) r k)) (v := 61) (by first | omega | (simp only [List.length_append, List.length_cons, List.length_nil]; omega)) (by omega)) (is := cod m3_writeRiver 39) (L := [some (.inl 19), some (.inl 1), some (.inr r), some (.inr (k : Int)), some (.inr (whz (τ 4) r (k : Int)))]) (st := []) rfl rfl rfl ?_
                      show Ex _ _ (cod m3_writeRiver 39, [some (.inl 19), some (.inl 1), some (.inr r), some (.inr (k : Int)), some (.inr (whz (τ 4) r (k : Int)))], [], lns τ ((rvl (τ 4) r k) ++ [61])) _ _
                      refine ex_k 2 (P := none) (g := (cod m3_writeRiver 5, [some (.inl 19), some (.inl 1), some (.inr r), some (.inr ((k : Int) + 1)), some (.inr (whz (τ 4) r (k : Int)))], [], lns τ ((rvl (τ 4) r k) ++ [61]))) rfl trivial ?_
                      rw [show ((rvl (τ 4) r k) ++ [61]) = rvl (τ 4) r (k + 1) from by show _ = rvl (τ 4) r k ++ [chr (τ 4) r (k : Int)]; unfold chr; (repeat (first | rw [if_pos (by omega)] | rw [if_neg (by omega)]))]
                      exact ih (k + 1) (by omega) _))
          · first
            | (exfalso; omega)
            | (
                refine ex_k 3 (P := none) (g := (cod m3_writeRiver 26, [some (.inl 19), some (.inl 1), some (.inr r), some (.inr (k : Int)), some (.inr (whz (τ 4) r (k : Int)))], [.inr (whz (τ 4) r (k : Int)), .inl 1, .inl 19], lns τ (rvl (τ 4) r k))) rfl trivial ?_
                refine ex_c (s_letterOf (τ := lns τ (rvl (τ 4) r k)) (f := whz (τ 4) r (k : Int)) (by omega) hS.bd) (is := cod m3_writeRiver 27) (L := [some (.inl 19), some (.inl 1), some (.inr r), some (.inr (k : Int)), some (.inr (whz (τ 4) r (k : Int)))]) (st := [.inl 19]) rfl rfl rfl ?_
                show Ex _ _ (cod m3_writeRiver 27, [some (.inl 19), some (.inl 1), some (.inr r), some (.inr (k : Int)), some (.inr (whz (τ 4) r (k : Int)))], [.inr (ltr (τ 4) (whz (τ 4) r (k : Int))), .inl 19], lns τ (rvl (τ 4) r k)) _ _
                refine ex_c (s_lineAdd (l := (rvl (τ 4) r k)) (v := ltr (τ 4) (whz (τ 4) r (k : Int))) (by first | omega | (simp only [List.length_append, List.length_cons, List.length_nil]; omega)) (by omega)) (is := cod m3_writeRiver 28) (L := [some (.inl 19), some (.inl 1), some (.inr r), some (.inr (k : Int)), some (.inr (whz (τ 4) r (k : Int)))]) (st := []) rfl rfl rfl ?_
                show Ex _ _ (cod m3_writeRiver 28, [some (.inl 19), some (.inl 1), some (.inr r), some (.inr (k : Int)), some (.inr (whz (τ 4) r (k : Int)))], [], lns τ ((rvl (τ 4) r k) ++ [ltr (τ 4) (whz (τ 4) r (k : Int))])) _ _
                refine ex_k 3 (P := none) (g := (cod m3_writeRiver 5, [some (.inl 19), some (.inl 1), some (.inr r), some (.inr ((k : Int) + 1)), some (.inr (whz (τ 4) r (k : Int)))], [], lns τ ((rvl (τ 4) r k) ++ [ltr (τ 4) (whz (τ 4) r (k : Int))]))) rfl trivial ?_
                rw [show ((rvl (τ 4) r k) ++ [ltr (τ 4) (whz (τ 4) r (k : Int))]) = rvl (τ 4) r (k + 1) from by show _ = rvl (τ 4) r k ++ [chr (τ 4) r (k : Int)]; unfold chr; (repeat (first | rw [if_pos (by omega)] | rw [if_neg (by omega)]))]
                exact ih (k + 1) (by omega) _))
    · first
      | (exfalso; omega)
      | (
          refine ex_k 2 (P := none) (g := (cod m3_writeRiver 18, [some (.inl 19), some (.inl 1), some (.inr r), some (.inr (k : Int)), some (.inr (whz (τ 4) r (k : Int)))], [.inr 42, .inl 19], lns τ (rvl (τ 4) r k))) rfl trivial ?_
          refine ex_c (s_lineAdd (l := (rvl (τ 4) r k)) (v := 42) (by first | omega | (simp only [List.length_append, List.length_cons, List.length_nil]; omega)) (by omega)) (is := cod m3_writeRiver 19) (L := [some (.inl 19), some (.inl 1), some (.inr r), some (.inr (k : Int)), some (.inr (whz (τ 4) r (k : Int)))]) (st := []) rfl rfl rfl ?_
          show Ex _ _ (cod m3_writeRiver 19, [some (.inl 19), some (.inl 1), some (.inr r), some (.inr (k : Int)), some (.inr (whz (τ 4) r (k : Int)))], [], lns τ ((rvl (τ 4) r k) ++ [42])) _ _
          refine ex_k 3 (P := none) (g := (cod m3_writeRiver 5, [some (.inl 19), some (.inl 1), some (.inr r), some (.inr ((k : Int) + 1)), some (.inr (whz (τ 4) r (k : Int)))], [], lns τ ((rvl (τ 4) r k) ++ [42]))) rfl trivial ?_
          rw [show ((rvl (τ 4) r k) ++ [42]) = rvl (τ 4) r (k + 1) from by show _ = rvl (τ 4) r k ++ [chr (τ 4) r (k : Int)]; unfold chr; (repeat (first | rw [if_pos (by omega)] | rw [if_neg (by omega)]))]
          exact ih (k + 1) (by omega) _)
theorem s_writeRiver {r : Int} {τ : SZ} {B : Int} (hS : Sh B (τ 4)) (hr : 0 ≤ r ∧ r < 2) : RZ 4 m3_writeRiver [.inl 19, .inl 1, .inr r] τ (.inl (some (.inr 12), lns τ (rvl (τ 4) r 12))) := by
  refine Ex.call ?_ rfl rfl
  show Ex _ _ (cod m3_writeRiver 0, [some (.inl 19), some (.inl 1), some (.inr r), none, none], [], τ) _ _
  refine ex_k 3 (P := none) (g := (cod m3_writeRiver 3, [some (.inl 19), some (.inl 1), some (.inr r), none, none], [], (zr τ 19 (zu (τ 19) 1 0)))) rfl trivial ?_
  refine ex_k 2 (P := none) (g := (cod m3_writeRiver 5, [some (.inl 19), some (.inl 1), some (.inr r), some (.inr 0), none], [], (zr τ 19 (zu (τ 19) 1 0)))) rfl trivial ?_
  rw [lns_nil]
  exact lp_writeRiver hS hr 12 0 (by omega) none
theorem c_riverLine {r : Int} {τ : SZ} (hr : Rng r) {B : Int} (hS : Sh B (τ 4)) : RZ 6 m7_riverLine [.inl 0, .inr r] τ (if 0 ≤ r ∧ r < 2 then .inl (some (.inr 12), lns τ (rvl (τ 4) r 12)) else .inr ("java/lang/IndexOutOfBoundsException", τ)) := by
  obtain ⟨hr1, hr2⟩ := hr
  refine Ex.call ?_ rfl rfl
  show Ex _ _ (cod m7_riverLine 0, [some (.inl 0), some (.inr r)], [], τ) _ _
  refine ex_k 1 (P := none) (g := (cod m7_riverLine 1, [some (.inl 0), some (.inr r)], [.inr r], τ)) rfl trivial ?_
  refine ex_c (s_isRiver (τ := τ) (z := r) ⟨by omega, by omega⟩) (is := cod m7_riverLine 2) (L := [some (.inl 0), some (.inr r)]) (st := []) rfl rfl rfl ?_
  show Ex _ _ (cod m7_riverLine 2, [some (.inl 0), some (.inr r)], [.inr (b2 (0 ≤ r ∧ r < 2))], τ) _ _
  refine ex_b (P := ¬ (b2 (0 ≤ r ∧ r < 2)) = 0) (ct := (cod m7_riverLine 7, [some (.inl 0), some (.inr r)], [], τ)) (cf := (cod m7_riverLine 3, [some (.inl 0), some (.inr r)], [], τ)) rfl b2_rng (fun h1 => ?_) (fun h1 => ?_)
  · first
    | (exfalso; have h1 := b2_n0 h1; omega)
    | (
        have h1 := b2_n0 h1
        refine ex_k 5 (P := none) (g := (cod m7_riverLine 12, [some (.inl 0), some (.inr r)], [.inr r, .inl 1, .inl 19], τ)) rfl trivial ?_
        refine ex_c (s_writeRiver (τ := τ) (r := r) hS (by omega)) (is := cod m7_riverLine 13) (L := [some (.inl 0), some (.inr r)]) (st := []) rfl rfl rfl ?_
        show Ex _ _ (cod m7_riverLine 13, [some (.inl 0), some (.inr r)], [.inr 12], lns τ (rvl (τ 4) r 12)) _ _
        exact ex_r rfl trivial rfl ((by (repeat (first | rw [if_pos (by omega)] | rw [if_neg (by omega)])); first | done | rfl)))
  · first
    | (exfalso; have h1 := b2_nn0 h1; omega)
    | (
        have h1 := b2_nn0 h1
        exact ex_t rfl rfl ((by (repeat (first | rw [if_pos (by omega)] | rw [if_neg (by omega)])); first | done | rfl)))
def pll (p : Int) : List Int := if 10 ≤ p then [49, 48 + p % 10] else [48 + p % 10]
theorem pll_len (p : Int) : 1 ≤ (pll p).length ∧ (pll p).length ≤ 2 := by unfold pll; split <;> simp
def fll (c : Nat → Int) (f : Int) : List Int := [] ++ [ltr c f] ++ [48 + cel c (0 + f * 6 + 0)] ++ [64] ++ pll (cel c (0 + f * 6 + 1)) ++ [47] ++ pll (cel c (0 + f * 6 + 2))
theorem s_addPlace {τ : SZ} {l : List Int} {p : Int} (hl : l.length < 11) (hp : 0 ≤ p ∧ p < 100) : RZ 2 m3_addPlace [.inl 19, .inr p] (lns τ l) (.inl (none, lns τ (l ++ pll p))) := by
  refine Ex.call ?_ rfl rfl
  show Ex _ _ (cod m3_addPlace 0, [some (.inl 19), some (.inr p)], [], lns τ l) _ _
  refine ex_k 2 (P := none) (g := (cod m3_addPlace 2, [some (.inl 19), some (.inr p)], [.inr 10, .inr p], lns τ l)) rfl trivial ?_
  refine ex_b (P := p < 10) (ct := (cod m3_addPlace 6, [some (.inl 19), some (.inr p)], [], lns τ l)) (cf := (cod m3_addPlace 3, [some (.inl 19), some (.inr p)], [], lns τ l)) rfl ⟨⟨by omega, by omega⟩, ⟨by decide, by decide⟩⟩ (fun h1 => ?_) (fun h1 => ?_)
  · first
    | (exfalso; omega)
    | (
        refine ex_k 5 (P := some (0 ≤ p ∧ p < 2147483648 ∧ 0 < 10 ∧ 10 < 2147483648)) (g := (cod m3_addPlace 11, [some (.inl 19), some (.inr p)], [.inr (p % 10), .inr 48, .inl 19], lns τ l)) rfl (by show 0 ≤ p ∧ p < 2147483648 ∧ 0 < 10 ∧ 10 < 2147483648; omega) ?_
        refine ex_k 2 (P := some (0 ≤ (48 + (p % 10)) ∧ (48 + (p % 10)) < 65536)) (g := (cod m3_addPlace 13, [some (.inl 19), some (.inr p)], [.inr (48 + (p % 10)), .inl 19], lns τ l)) rfl (by show 0 ≤ (48 + (p % 10)) ∧ (48 + (p % 10)) < 65536; omega) ?_
        refine ex_c (s_lineAdd (l := l) (v := 48 + (p % 10)) (by first | omega | (simp only [List.length_append, List.length_cons, List.length_nil]; omega)) (by omega)) (is := cod m3_addPlace 14) (L := [some (.inl 19), some (.inr p)]) (st := []) rfl rfl rfl ?_
        show Ex _ _ (cod m3_addPlace 14, [some (.inl 19), some (.inr p)], [], lns τ (l ++ [48 + (p % 10)])) _ _
        exact ex_r rfl rfl rfl (rV (by unfold pll; first | (rw [if_pos (by omega)]; simp [List.append_assoc]; done) | (rw [if_neg (by omega)]))))
  · first
    | (exfalso; omega)
    | (
        refine ex_k 2 (P := none) (g := (cod m3_addPlace 5, [some (.inl 19), some (.inr p)], [.inr 49, .inl 19], lns τ l)) rfl trivial ?_
        refine ex_c (s_lineAdd (l := l) (v := 49) (by first | omega | (simp only [List.length_append, List.length_cons, List.length_nil]; omega)) (by omega)) (is := cod m3_addPlace 6) (L := [some (.inl 19), some (.inr p)]) (st := []) rfl rfl rfl ?_
        show Ex _ _ (cod m3_addPlace 6, [some (.inl 19), some (.inr p)], [], lns τ (l ++ [49])) _ _
        refine ex_k 5 (P := some (0 ≤ p ∧ p < 2147483648 ∧ 0 < 10 ∧ 10 < 2147483648)) (g := (cod m3_addPlace 11, [some (.inl 19), some (.inr p)], [.inr (p % 10), .inr 48, .inl 19], lns τ (l ++ [49]))) rfl (by show 0 ≤ p ∧ p < 2147483648 ∧ 0 < 10 ∧ 10 < 2147483648; omega) ?_
        refine ex_k 2 (P := some (0 ≤ (48 + (p % 10)) ∧ (48 + (p % 10)) < 65536)) (g := (cod m3_addPlace 13, [some (.inl 19), some (.inr p)], [.inr (48 + (p % 10)), .inl 19], lns τ (l ++ [49]))) rfl (by show 0 ≤ (48 + (p % 10)) ∧ (48 + (p % 10)) < 65536; omega) ?_
        refine ex_c (s_lineAdd (l := (l ++ [49])) (v := 48 + (p % 10)) (by first | omega | (simp only [List.length_append, List.length_cons, List.length_nil]; omega)) (by omega)) (is := cod m3_addPlace 14) (L := [some (.inl 19), some (.inr p)]) (st := []) rfl rfl rfl ?_
        show Ex _ _ (cod m3_addPlace 14, [some (.inl 19), some (.inr p)], [], lns τ ((l ++ [49]) ++ [48 + (p % 10)])) _ _
        exact ex_r rfl rfl rfl (rV (by unfold pll; first | (rw [if_pos (by omega)]; simp [List.append_assoc]; done) | (rw [if_neg (by omega)]))))
theorem s_writeFerry {f : Int} {τ : SZ} {B : Int} (hS : Sh B (τ 4)) (hf : 0 ≤ f ∧ f < 8) : RZ 4 m3_writeFerry [.inl 19, .inl 1, .inr f] τ (.inl (some (.inr ((fll (τ 4) f).length : Int)), lns τ (fll (τ 4) f))) := by
  have hsd := hS.sd hf
  have hp1 := hS.p1 hf
  have hp2 := hS.p2 hf
  have hl := ltr_in (c := τ 4) (f := f) (by omega)
  have hk1 := pll_len (cel (τ 4) (0 + f * 6 + 1))
  have hk2 := pll_len (cel (τ 4) (0 + f * 6 + 2))
  refine Ex.call ?_ rfl rfl
  show Ex _ _ (cod m3_writeFerry 0, [some (.inl 19), some (.inl 1), some (.inr f)], [], τ) _ _
  refine ex_k 3 (P := none) (g := (cod m3_writeFerry 3, [some (.inl 19), some (.inl 1), some (.inr f)], [], (zr τ 19 (zu (τ 19) 1 0)))) rfl trivial ?_
  rw [lns_nil]
  refine ex_k 3 (P := none) (g := (cod m3_writeFerry 6, [some (.inl 19), some (.inl 1), some (.inr f)], [.inr f, .inl 1, .inl 19], lns τ [])) rfl trivial ?_
  refine ex_c (s_letterOf (τ := lns τ []) (f := f) (by omega) hS.bd) (is := cod m3_writeFerry 7) (L := [some (.inl 19), some (.inl 1), some (.inr f)]) (st := [.inl 19]) rfl rfl rfl ?_
  show Ex _ _ (cod m3_writeFerry 7, [some (.inl 19), some (.inl 1), some (.inr f)], [.inr (ltr (τ 4) f), .inl 19], lns τ []) _ _
  refine ex_c (s_lineAdd (l := []) (v := ltr (τ 4) f) (by first | omega | (simp only [List.length_append, List.length_cons, List.length_nil]; omega)) (by omega)) (is := cod m3_writeFerry 8) (L := [some (.inl 19), some (.inl 1), some (.inr f)]) (st := []) rfl rfl rfl ?_
  show Ex _ _ (cod m3_writeFerry 8, [some (.inl 19), some (.inl 1), some (.inr f)], [], lns τ ([] ++ [ltr (τ 4) f])) _ _
  refine ex_k 5 (P := none) (g := (cod m3_writeFerry 13, [some (.inl 19), some (.inl 1), some (.inr f)], [.inr 0, .inr f, .inl 1, .inr 48, .inl 19], lns τ ([] ++ [ltr (τ 4) f]))) rfl trivial ?_
  refine ex_c (s_number (τ := lns τ ([] ++ [ltr (τ 4) f])) (f := f) (w := 0) (Or.inl ⟨rfl, rfl⟩) (by omega) (by omega)) (is := cod m3_writeFerry 14) (L := [some (.inl 19), some (.inl 1), some (.inr f)]) (st := [.inr 48, .inl 19]) rfl rfl rfl ?_
  show Ex _ _ (cod m3_writeFerry 14, [some (.inl 19), some (.inl 1), some (.inr f)], [.inr (cel (τ 4) (0 + f * 6 + 0)), .inr 48, .inl 19], lns τ ([] ++ [ltr (τ 4) f])) _ _
  refine ex_k 2 (P := some (0 ≤ (48 + (cel (τ 4) (0 + f * 6 + 0))) ∧ (48 + (cel (τ 4) (0 + f * 6 + 0))) < 65536)) (g := (cod m3_writeFerry 16, [some (.inl 19), some (.inl 1), some (.inr f)], [.inr (48 + (cel (τ 4) (0 + f * 6 + 0))), .inl 19], lns τ ([] ++ [ltr (τ 4) f]))) rfl (by show 0 ≤ (48 + (cel (τ 4) (0 + f * 6 + 0))) ∧ (48 + (cel (τ 4) (0 + f * 6 + 0))) < 65536; omega) ?_
  refine ex_c (s_lineAdd (l := ([] ++ [ltr (τ 4) f])) (v := 48 + (cel (τ 4) (0 + f * 6 + 0))) (by first | omega | (simp only [List.length_append, List.length_cons, List.length_nil]; omega)) (by omega)) (is := cod m3_writeFerry 17) (L := [some (.inl 19), some (.inl 1), some (.inr f)]) (st := []) rfl rfl rfl ?_
  show Ex _ _ (cod m3_writeFerry 17, [some (.inl 19), some (.inl 1), some (.inr f)], [], lns τ (([] ++ [ltr (τ 4) f]) ++ [48 + (cel (τ 4) (0 + f * 6 + 0))])) _ _
  refine ex_k 2 (P := none) (g := (cod m3_writeFerry 19, [some (.inl 19), some (.inl 1), some (.inr f)], [.inr 64, .inl 19], lns τ (([] ++ [ltr (τ 4) f]) ++ [48 + (cel (τ 4) (0 + f * 6 + 0))]))) rfl trivial ?_
  refine ex_c (s_lineAdd (l := (([] ++ [ltr (τ 4) f]) ++ [48 + (cel (τ 4) (0 + f * 6 + 0))])) (v := 64) (by first | omega | (simp only [List.length_append, List.length_cons, List.length_nil]; omega)) (by omega)) (is := cod m3_writeFerry 20) (L := [some (.inl 19), some (.inl 1), some (.inr f)]) (st := []) rfl rfl rfl ?_
  show Ex _ _ (cod m3_writeFerry 20, [some (.inl 19), some (.inl 1), some (.inr f)], [], lns τ ((([] ++ [ltr (τ 4) f]) ++ [48 + (cel (τ 4) (0 + f * 6 + 0))]) ++ [64])) _ _
  refine ex_k 4 (P := none) (g := (cod m3_writeFerry 24, [some (.inl 19), some (.inl 1), some (.inr f)], [.inr 1, .inr f, .inl 1, .inl 19], lns τ ((([] ++ [ltr (τ 4) f]) ++ [48 + (cel (τ 4) (0 + f * 6 + 0))]) ++ [64]))) rfl trivial ?_
  refine ex_c (s_number (τ := lns τ ((([] ++ [ltr (τ 4) f]) ++ [48 + (cel (τ 4) (0 + f * 6 + 0))]) ++ [64])) (f := f) (w := 1) (Or.inl ⟨rfl, rfl⟩) (by omega) (by omega)) (is := cod m3_writeFerry 25) (L := [some (.inl 19), some (.inl 1), some (.inr f)]) (st := [.inl 19]) rfl rfl rfl ?_
  show Ex _ _ (cod m3_writeFerry 25, [some (.inl 19), some (.inl 1), some (.inr f)], [.inr (cel (τ 4) (0 + f * 6 + 1)), .inl 19], lns τ ((([] ++ [ltr (τ 4) f]) ++ [48 + (cel (τ 4) (0 + f * 6 + 0))]) ++ [64])) _ _
  refine ex_c (s_addPlace (l := ((([] ++ [ltr (τ 4) f]) ++ [48 + (cel (τ 4) (0 + f * 6 + 0))]) ++ [64])) (p := cel (τ 4) (0 + f * 6 + 1)) (by first | omega | (simp only [List.length_append, List.length_cons, List.length_nil]; omega)) (by omega)) (is := cod m3_writeFerry 26) (L := [some (.inl 19), some (.inl 1), some (.inr f)]) (st := []) rfl rfl rfl ?_
  show Ex _ _ (cod m3_writeFerry 26, [some (.inl 19), some (.inl 1), some (.inr f)], [], lns τ (((([] ++ [ltr (τ 4) f]) ++ [48 + (cel (τ 4) (0 + f * 6 + 0))]) ++ [64]) ++ pll (cel (τ 4) (0 + f * 6 + 1)))) _ _
  refine ex_k 2 (P := none) (g := (cod m3_writeFerry 28, [some (.inl 19), some (.inl 1), some (.inr f)], [.inr 47, .inl 19], lns τ (((([] ++ [ltr (τ 4) f]) ++ [48 + (cel (τ 4) (0 + f * 6 + 0))]) ++ [64]) ++ pll (cel (τ 4) (0 + f * 6 + 1))))) rfl trivial ?_
  refine ex_c (s_lineAdd (l := (((([] ++ [ltr (τ 4) f]) ++ [48 + (cel (τ 4) (0 + f * 6 + 0))]) ++ [64]) ++ pll (cel (τ 4) (0 + f * 6 + 1)))) (v := 47) (by first | omega | (simp only [List.length_append, List.length_cons, List.length_nil]; omega)) (by omega)) (is := cod m3_writeFerry 29) (L := [some (.inl 19), some (.inl 1), some (.inr f)]) (st := []) rfl rfl rfl ?_
  show Ex _ _ (cod m3_writeFerry 29, [some (.inl 19), some (.inl 1), some (.inr f)], [], lns τ ((((([] ++ [ltr (τ 4) f]) ++ [48 + (cel (τ 4) (0 + f * 6 + 0))]) ++ [64]) ++ pll (cel (τ 4) (0 + f * 6 + 1))) ++ [47])) _ _
  refine ex_k 4 (P := none) (g := (cod m3_writeFerry 33, [some (.inl 19), some (.inl 1), some (.inr f)], [.inr 2, .inr f, .inl 1, .inl 19], lns τ ((((([] ++ [ltr (τ 4) f]) ++ [48 + (cel (τ 4) (0 + f * 6 + 0))]) ++ [64]) ++ pll (cel (τ 4) (0 + f * 6 + 1))) ++ [47]))) rfl trivial ?_
  refine ex_c (s_number (τ := lns τ ((((([] ++ [ltr (τ 4) f]) ++ [48 + (cel (τ 4) (0 + f * 6 + 0))]) ++ [64]) ++ pll (cel (τ 4) (0 + f * 6 + 1))) ++ [47])) (f := f) (w := 2) (Or.inl ⟨rfl, rfl⟩) (by omega) (by omega)) (is := cod m3_writeFerry 34) (L := [some (.inl 19), some (.inl 1), some (.inr f)]) (st := [.inl 19]) rfl rfl rfl ?_
  show Ex _ _ (cod m3_writeFerry 34, [some (.inl 19), some (.inl 1), some (.inr f)], [.inr (cel (τ 4) (0 + f * 6 + 2)), .inl 19], lns τ ((((([] ++ [ltr (τ 4) f]) ++ [48 + (cel (τ 4) (0 + f * 6 + 0))]) ++ [64]) ++ pll (cel (τ 4) (0 + f * 6 + 1))) ++ [47])) _ _
  refine ex_c (s_addPlace (l := ((((([] ++ [ltr (τ 4) f]) ++ [48 + (cel (τ 4) (0 + f * 6 + 0))]) ++ [64]) ++ pll (cel (τ 4) (0 + f * 6 + 1))) ++ [47])) (p := cel (τ 4) (0 + f * 6 + 2)) (by first | omega | (simp only [List.length_append, List.length_cons, List.length_nil]; omega)) (by omega)) (is := cod m3_writeFerry 35) (L := [some (.inl 19), some (.inl 1), some (.inr f)]) (st := []) rfl rfl rfl ?_
  show Ex _ _ (cod m3_writeFerry 35, [some (.inl 19), some (.inl 1), some (.inr f)], [], lns τ (((((([] ++ [ltr (τ 4) f]) ++ [48 + (cel (τ 4) (0 + f * 6 + 0))]) ++ [64]) ++ pll (cel (τ 4) (0 + f * 6 + 1))) ++ [47]) ++ pll (cel (τ 4) (0 + f * 6 + 2)))) _ _
  refine ex_k 2 (P := none) (g := (cod m3_writeFerry 37, [some (.inl 19), some (.inl 1), some (.inr f)], [.inr (((lns τ (((((([] ++ [ltr (τ 4) f]) ++ [48 + (cel (τ 4) (0 + f * 6 + 0))]) ++ [64]) ++ pll (cel (τ 4) (0 + f * 6 + 1))) ++ [47]) ++ pll (cel (τ 4) (0 + f * 6 + 2)))) 19) 1)], lns τ (((((([] ++ [ltr (τ 4) f]) ++ [48 + (cel (τ 4) (0 + f * 6 + 0))]) ++ [64]) ++ pll (cel (τ 4) (0 + f * 6 + 1))) ++ [47]) ++ pll (cel (τ 4) (0 + f * 6 + 2))))) rfl trivial ?_
  exact ex_r rfl trivial rfl (rfl)
theorem c_ferryLine {f : Int} {τ : SZ} (hf : Rng f) {B : Int} (hS : Sh B (τ 4)) : RZ 6 m7_ferryLine [.inl 0, .inr f] τ (if 0 ≤ f ∧ f < cel (τ 4) 107 then .inl (some (.inr ((fll (τ 4) f).length : Int)), lns τ (fll (τ 4) f)) else .inr ("java/lang/IndexOutOfBoundsException", τ)) := by
  have hN := hS.n
  obtain ⟨hf1, hf2⟩ := hf
  refine Ex.call ?_ rfl rfl
  show Ex _ _ (cod m7_ferryLine 0, [some (.inl 0), some (.inr f)], [], τ) _ _
  refine ex_k 2 (P := none) (g := (cod m7_ferryLine 2, [some (.inl 0), some (.inr f)], [.inr f, .inl 0], τ)) rfl trivial ?_
  by_cases hc1 : 0 ≤ f ∧ f < cel (τ 4) 107
  ·
    refine ex_c (s_needFerry_ok (τ := τ) (f := f) hS ⟨by omega, by omega⟩ hc1) (is := cod m7_ferryLine 3) (L := [some (.inl 0), some (.inr f)]) (st := []) rfl rfl rfl ?_
    show Ex _ _ (cod m7_ferryLine 3, [some (.inl 0), some (.inr f)], [], τ) _ _
    refine ex_k 5 (P := none) (g := (cod m7_ferryLine 8, [some (.inl 0), some (.inr f)], [.inr f, .inl 1, .inl 19], τ)) rfl trivial ?_
    refine ex_c (s_writeFerry (τ := τ) (f := f) hS (by omega)) (is := cod m7_ferryLine 9) (L := [some (.inl 0), some (.inr f)]) (st := []) rfl rfl rfl ?_
    show Ex _ _ (cod m7_ferryLine 9, [some (.inl 0), some (.inr f)], [.inr ((fll (τ 4) f).length : Int)], lns τ (fll (τ 4) f)) _ _
    exact ex_r rfl trivial rfl ((by (repeat (first | rw [if_pos (by omega)] | rw [if_neg (by omega)])); first | done | rfl))
  ·
    exact ex_x (s_needFerry_x (τ := τ) (f := f) hS ⟨by omega, by omega⟩ hc1) rfl rfl rfl ((by (repeat (first | rw [if_pos (by omega)] | rw [if_neg (by omega)])); first | done | rfl))
theorem s_hasL {z : Int} {τ : SZ} (hz : Rng z) (h1 : 0 ≤ τ 19 1 ∧ τ 19 1 ≤ 12) : RZ 1 m3_has [.inl 19, .inr z] τ (.inl (some (.inr (b2 (0 ≤ z ∧ z < τ 19 1))), τ)) := by
  obtain ⟨hz1, hz2⟩ := hz
  refine Ex.call ?_ rfl rfl
  show Ex _ _ (cod m3_has 0, [some (.inl 19), some (.inr z)], [], τ) _ _
  refine ex_k 1 (P := none) (g := (cod m3_has 1, [some (.inl 19), some (.inr z)], [.inr z], τ)) rfl trivial ?_
  refine ex_b (P := z < 0) (ct := (cod m3_has 8, [some (.inl 19), some (.inr z)], [], τ)) (cf := (cod m3_has 2, [some (.inl 19), some (.inr z)], [], τ)) rfl ⟨by omega, by omega⟩ (fun h1 => ?_) (fun h1 => ?_)
  · first
    | (exfalso; omega)
    | (
        refine ex_k 1 (P := none) (g := (cod m3_has 9, [some (.inl 19), some (.inr z)], [.inr 0], τ)) rfl trivial ?_
        exact ex_r rfl (by first | exact Or.inl rfl | exact Or.inr rfl | omega) rfl (rI (by first | rw [b2_t (by omega)] | rw [b2_f (by omega)])))
  · first
    | (exfalso; omega)
    | (
        refine ex_k 3 (P := none) (g := (cod m3_has 5, [some (.inl 19), some (.inr z)], [.inr ((τ 19) 1), .inr z], τ)) rfl trivial ?_
        refine ex_b (P := ((τ 19) 1) ≤ z) (ct := (cod m3_has 8, [some (.inl 19), some (.inr z)], [], τ)) (cf := (cod m3_has 6, [some (.inl 19), some (.inr z)], [], τ)) rfl ⟨⟨by omega, by omega⟩, ⟨by omega, by omega⟩⟩ (fun h2 => ?_) (fun h2 => ?_)
        · first
          | (exfalso; omega)
          | (
              refine ex_k 1 (P := none) (g := (cod m3_has 9, [some (.inl 19), some (.inr z)], [.inr 0], τ)) rfl trivial ?_
              exact ex_r rfl (by first | exact Or.inl rfl | exact Or.inr rfl | omega) rfl (rI (by first | rw [b2_t (by omega)] | rw [b2_f (by omega)])))
        · first
          | (exfalso; omega)
          | (
              refine ex_k 2 (P := none) (g := (cod m3_has 9, [some (.inl 19), some (.inr z)], [.inr 1], τ)) rfl trivial ?_
              exact ex_r rfl (by first | exact Or.inl rfl | exact Or.inr rfl | omega) rfl (rI (by first | rw [b2_t (by omega)] | rw [b2_f (by omega)]))))
theorem s_signAtL {z : Int} {τ : SZ} (hz : 0 ≤ z ∧ z < 12) (hch : ∀ i, 0 ≤ τ 20 i ∧ τ 20 i < 65536) : RZ 1 m3_signAt [.inl 19, .inr z] τ (.inl (some (.inr (τ 20 z.toNat)), τ)) := by
  have hc := hch z.toNat
  refine Ex.call ?_ rfl rfl
  show Ex _ _ (cod m3_signAt 0, [some (.inl 19), some (.inr z)], [], τ) _ _
  refine ex_k 1 (P := none) (g := (cod m3_signAt 1, [some (.inl 19), some (.inr z)], [.inr z], τ)) rfl trivial ?_
  refine ex_b (P := z < 0) (ct := (cod m3_signAt 12, [some (.inl 19), some (.inr z)], [], τ)) (cf := (cod m3_signAt 2, [some (.inl 19), some (.inr z)], [], τ)) rfl ⟨by omega, by omega⟩ (fun h1 => ?_) (fun h1 => ?_)
  · first
    | (exfalso; omega)
    | (
        refine ex_k 1 (P := none) (g := (cod m3_signAt 13, [some (.inl 19), some (.inr z)], [.inr 32], τ)) rfl trivial ?_
        exact ex_r rfl ⟨by omega, by omega⟩ rfl (rfl))
  · first
    | (exfalso; omega)
    | (
        refine ex_k 4 (P := none) (g := (cod m3_signAt 6, [some (.inl 19), some (.inr z)], [.inr 12, .inr z], τ)) rfl trivial ?_
        refine ex_b (P := 12 ≤ z) (ct := (cod m3_signAt 12, [some (.inl 19), some (.inr z)], [], τ)) (cf := (cod m3_signAt 7, [some (.inl 19), some (.inr z)], [], τ)) rfl ⟨⟨by omega, by omega⟩, ⟨by decide, by decide⟩⟩ (fun h2 => ?_) (fun h2 => ?_)
        · first
          | (exfalso; omega)
          | (
              refine ex_k 1 (P := none) (g := (cod m3_signAt 13, [some (.inl 19), some (.inr z)], [.inr 32], τ)) rfl trivial ?_
              exact ex_r rfl ⟨by omega, by omega⟩ rfl (rfl))
        · first
          | (exfalso; omega)
          | (
              refine ex_k 4 (P := some (0 ≤ z ∧ z < ((12 : Nat) : Int))) (g := (cod m3_signAt 11, [some (.inl 19), some (.inr z)], [.inr ((τ 20) z.toNat)], τ)) rfl (by show 0 ≤ z ∧ z < ((12 : Nat) : Int); omega) ?_
              refine ex_k 1 (P := none) (g := (cod m3_signAt 13, [some (.inl 19), some (.inr z)], [.inr ((τ 20) z.toNat)], τ)) rfl trivial ?_
              exact ex_r rfl ⟨by omega, by omega⟩ rfl (rfl)))
theorem c_character {z : Int} {τ : SZ} (hz : Rng z) (h1 : 0 ≤ τ 19 1 ∧ τ 19 1 ≤ 12) (hch : ∀ i, 0 ≤ τ 20 i ∧ τ 20 i < 65536) : RZ 4 m7_character [.inl 0, .inr z] τ (if 0 ≤ z ∧ z < τ 19 1 then .inl (some (.inr (τ 20 z.toNat)), τ) else .inr ("java/lang/IndexOutOfBoundsException", τ)) := by
  obtain ⟨hz1, hz2⟩ := hz
  have hc := hch z.toNat
  refine Ex.call ?_ rfl rfl
  show Ex _ _ (cod m7_character 0, [some (.inl 0), some (.inr z)], [], τ) _ _
  refine ex_k 3 (P := none) (g := (cod m7_character 3, [some (.inl 0), some (.inr z)], [.inr z, .inl 19], τ)) rfl trivial ?_
  refine ex_c (s_hasL (τ := τ) (z := z) ⟨by omega, by omega⟩ h1) (is := cod m7_character 4) (L := [some (.inl 0), some (.inr z)]) (st := []) rfl rfl rfl ?_
  show Ex _ _ (cod m7_character 4, [some (.inl 0), some (.inr z)], [.inr (b2 (0 ≤ z ∧ z < (τ 19) 1))], τ) _ _
  refine ex_b (P := ¬ (b2 (0 ≤ z ∧ z < (τ 19) 1)) = 0) (ct := (cod m7_character 9, [some (.inl 0), some (.inr z)], [], τ)) (cf := (cod m7_character 5, [some (.inl 0), some (.inr z)], [], τ)) rfl b2_rng (fun h1 => ?_) (fun h1 => ?_)
  · first
    | (exfalso; have h1 := b2_n0 h1; omega)
    | (
        have h1 := b2_n0 h1
        refine ex_k 3 (P := none) (g := (cod m7_character 12, [some (.inl 0), some (.inr z)], [.inr z, .inl 19], τ)) rfl trivial ?_
        refine ex_c (s_signAtL (τ := τ) (z := z) (by omega) hch) (is := cod m7_character 13) (L := [some (.inl 0), some (.inr z)]) (st := []) rfl rfl rfl ?_
        show Ex _ _ (cod m7_character 13, [some (.inl 0), some (.inr z)], [.inr ((τ 20) z.toNat)], τ) _ _
        exact ex_r rfl ⟨by omega, by omega⟩ rfl ((by (repeat (first | rw [if_pos (by omega)] | rw [if_neg (by omega)])); first | done | rfl)))
  · first
    | (exfalso; have h1 := b2_nn0 h1; omega)
    | (
        have h1 := b2_nn0 h1
        exact ex_t rfl rfl ((by (repeat (first | rw [if_pos (by omega)] | rw [if_neg (by omega)])); first | done | rfl)))
end LIN
