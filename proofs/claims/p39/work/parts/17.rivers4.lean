/-! a ferry is taken; the shape of a row of numbers: runs printed by wip/whole/db5.py -/
section RIV4
def mvn (c : Nat → Int) (l w : Int) : Nat → Int := sce c (0 + (l - 1) * 6 + w) (cel c (0 + l * 6 + w))
def st0 (c : Nat → Int) (l v : Int) : Nat → Int := swh c 0 (cel c (0 + l * 6 + 1)) v
def st1 (c : Nat → Int) (l v : Int) : Nat → Int := swh c 1 (cel c (0 + l * 6 + 2)) v
def mv6 (c : Nat → Int) (l : Int) : Nat → Int := mvn (mvn (mvn (mvn (mvn (mvn c l 0) l 1) l 2) l 3) l 4) l 5
def rst (c : Nat → Int) (l : Int) : Nat → Int := st1 (st0 (mv6 c l) l (l - 1)) l (l - 1)
def rif : Nat → (Nat → Int) → Int → (Nat → Int)
  | 0, d, _ => d
  | j + 1, d, z => rif j (rst d z) (z + 1)
def dec (c : Nat → Int) : Nat → Int := sce c 107 (cel c 107 + -1)
def rmv (c : Nat → Int) (g : Int) : Nat → Int := dec (rif (cel c 107 - 1 - g).toNat (st1 (st0 c g (-1)) g (-1)) (g + 1))
theorem mvn_bd {c : Nat → Int} (h : Bd c) (l w : Int) : Bd (mvn c l w) := sce_bd h (cel_bd h _)
theorem mv6_bd {c : Nat → Int} (h : Bd c) (l : Int) : Bd (mv6 c l) := mvn_bd (mvn_bd (mvn_bd (mvn_bd (mvn_bd (mvn_bd h l 0) l 1) l 2) l 3) l 4) l 5
theorem st0_bd {c : Nat → Int} (h : Bd c) {l v : Int} (hv : -1000000000 ≤ v ∧ v ≤ 1000000000) : Bd (st0 c l v) := swh_bd h hv
theorem st1_bd {c : Nat → Int} (h : Bd c) {l v : Int} (hv : -1000000000 ≤ v ∧ v ≤ 1000000000) : Bd (st1 c l v) := swh_bd h hv
theorem rst_bd {c : Nat → Int} (h : Bd c) {l : Int} (hl : 0 ≤ l ∧ l ≤ 100) : Bd (rst c l) := st1_bd (st0_bd (mv6_bd h l) (by omega)) (by omega)
theorem mv6_107 {c : Nat → Int} {l : Int} (hl : 0 ≤ l ∧ l < 9) : cel (mv6 c l) 107 = cel c 107 := by
  unfold mv6 mvn
  repeat rw [cel_ne (by omega)]
theorem swh_107 {c : Nat → Int} {r p v : Int} (hr : 0 ≤ r ∧ r < 2) : cel (swh c r p v) 107 = cel c 107 := cel_swh (Or.inr (by omega)) hr
theorem rst_107 {c : Nat → Int} {l : Int} (hl : 0 ≤ l ∧ l < 9) : cel (rst c l) 107 = cel c 107 := by
  unfold rst st1 st0
  rw [swh_107 (by omega), swh_107 (by omega), mv6_107 hl]
theorem lp_remove_4 {g : Int} {τ : SZ} : ∀ (j : Nat) (d : Nat → Int) (z : Int) (o : Option VZ), 0 ≤ z → z ≤ 8 → z + (j : Int) = cel d 107 → cel d 107 ≤ 8 → Bd d → Ex 3 m5_removeFerry (cod m5_removeFerry 20, [some (.inl 1), some (.inr g), some (.inr z), o], [], (zr τ 4 d)) 0 (.inl (none, zr τ 4 (dec (rif j d z)))) := by
  intro j
  induction j with
  | zero =>
    intro d z o hz0 hz8 hzj hN hB
    refine ex_k 3 (P := none) (g := (cod m5_removeFerry 23, [some (.inl 1), some (.inr g), some (.inr z), o], [.inr 7, .inl 1, .inr z], (zr τ 4 d))) rfl trivial ?_
    refine ex_c (s_total (τ := (zr τ 4 d)) (w := 7) (Or.inl ⟨rfl, rfl⟩) (by omega)) (is := cod m5_removeFerry 24) (L := [some (.inl 1), some (.inr g), some (.inr z), o]) (st := [.inr z]) rfl rfl rfl ?_
    show Ex _ _ (cod m5_removeFerry 24, [some (.inl 1), some (.inr g), some (.inr z), o], [.inr (cel d 107), .inr z], (zr τ 4 d)) _ _
    refine ex_b (P := (cel d 107) ≤ z) (ct := (cod m5_removeFerry 64, [some (.inl 1), some (.inr g), some (.inr z), o], [], (zr τ 4 d))) (cf := (cod m5_removeFerry 25, [some (.inl 1), some (.inr g), some (.inr z), o], [], (zr τ 4 d))) rfl ⟨⟨by omega, by omega⟩, ⟨by omega, by omega⟩⟩ (fun _ => ?_) (fun hh => absurd (by omega) hh)
    refine ex_k 3 (P := none) (g := (cod m5_removeFerry 67, [some (.inl 1), some (.inr g), some (.inr z), o], [.inr (-1), .inr 7, .inl 1], (zr τ 4 d))) rfl trivial ?_
    refine ex_c (s_addToTotal (τ := (zr τ 4 d)) (w := 7) (m := (-1)) (Or.inl ⟨rfl, rfl⟩) (by omega)) (is := cod m5_removeFerry 68) (L := [some (.inl 1), some (.inr g), some (.inr z), o]) (st := []) rfl rfl rfl ?_
    show Ex _ _ (cod m5_removeFerry 68, [some (.inl 1), some (.inr g), some (.inr z), o], [], (zr (zr τ 4 d) 4 (sce d 107 (cel d 107 + (-1))))) _ _
    rw [zr_zr]
    exact ex_r rfl rfl rfl (rfl)
  | succ j ih =>
    intro d z o hz0 hz8 hzj hN hB
    have hbA := cel_bd (mv6_bd hB z) (0 + z * 6 + 1)
    have hbB := cel_bd (st0_bd (l := z) (v := z - 1) (mv6_bd hB z) (by omega)) (0 + z * 6 + 2)
    refine ex_k 3 (P := none) (g := (cod m5_removeFerry 23, [some (.inl 1), some (.inr g), some (.inr z), o], [.inr 7, .inl 1, .inr z], (zr τ 4 d))) rfl trivial ?_
    refine ex_c (s_total (τ := (zr τ 4 d)) (w := 7) (Or.inl ⟨rfl, rfl⟩) (by omega)) (is := cod m5_removeFerry 24) (L := [some (.inl 1), some (.inr g), some (.inr z), o]) (st := [.inr z]) rfl rfl rfl ?_
    show Ex _ _ (cod m5_removeFerry 24, [some (.inl 1), some (.inr g), some (.inr z), o], [.inr (cel d 107), .inr z], (zr τ 4 d)) _ _
    refine ex_b (P := (cel d 107) ≤ z) (ct := (cod m5_removeFerry 64, [some (.inl 1), some (.inr g), some (.inr z), o], [], (zr τ 4 d))) (cf := (cod m5_removeFerry 25, [some (.inl 1), some (.inr g), some (.inr z), o], [], (zr τ 4 d))) rfl ⟨⟨by omega, by omega⟩, ⟨by omega, by omega⟩⟩ (fun hh => absurd hh (by omega)) (fun _ => ?_)
    refine ex_k 4 (P := none) (g := (cod m5_removeFerry 29, [some (.inl 1), some (.inr g), some (.inr z), some (.inr 0)], [.inr 6, .inr 0], (zr τ 4 d))) rfl trivial ?_
    refine ex_b (P := 6 ≤ 0) (ct := (cod m5_removeFerry 42, [some (.inl 1), some (.inr g), some (.inr z), some (.inr 0)], [], (zr τ 4 d))) (cf := (cod m5_removeFerry 30, [some (.inl 1), some (.inr g), some (.inr z), some (.inr 0)], [], (zr τ 4 d))) rfl ⟨⟨by decide, by decide⟩, ⟨by decide, by decide⟩⟩ (fun hh => absurd hh (by decide)) (fun _ => ?_)
    refine ex_k 8 (P := none) (g := (cod m5_removeFerry 38, [some (.inl 1), some (.inr g), some (.inr z), some (.inr 0)], [.inr 0, .inr z, .inl 1, .inr 0, .inr (z - 1), .inl 1], (zr τ 4 d))) rfl trivial ?_
    refine ex_c (s_number (τ := (zr τ 4 d)) (f := z) (w := 0) (Or.inl ⟨rfl, rfl⟩) (by omega) (by omega)) (is := cod m5_removeFerry 39) (L := [some (.inl 1), some (.inr g), some (.inr z), some (.inr 0)]) (st := [.inr 0, .inr (z - 1), .inl 1]) rfl rfl rfl ?_
    show Ex _ _ (cod m5_removeFerry 39, [some (.inl 1), some (.inr g), some (.inr z), some (.inr 0)], [.inr (cel d (0 + z * 6 + 0)), .inr 0, .inr (z - 1), .inl 1], (zr τ 4 d)) _ _
    refine ex_c (s_setNumber (τ := (zr τ 4 d)) (f := z - 1) (w := 0) (v := cel d (0 + z * 6 + 0)) (Or.inl ⟨rfl, rfl⟩) (by omega) (by omega)) (is := cod m5_removeFerry 40) (L := [some (.inl 1), some (.inr g), some (.inr z), some (.inr 0)]) (st := []) rfl rfl rfl ?_
    show Ex _ _ (cod m5_removeFerry 40, [some (.inl 1), some (.inr g), some (.inr z), some (.inr 0)], [], (zr (zr τ 4 d) 4 (mvn d z 0))) _ _
    rw [zr_zr]
    refine ex_k 4 (P := none) (g := (cod m5_removeFerry 29, [some (.inl 1), some (.inr g), some (.inr z), some (.inr 1)], [.inr 6, .inr 1], (zr τ 4 (mvn d z 0)))) rfl trivial ?_
    refine ex_b (P := 6 ≤ 1) (ct := (cod m5_removeFerry 42, [some (.inl 1), some (.inr g), some (.inr z), some (.inr 1)], [], (zr τ 4 (mvn d z 0)))) (cf := (cod m5_removeFerry 30, [some (.inl 1), some (.inr g), some (.inr z), some (.inr 1)], [], (zr τ 4 (mvn d z 0)))) rfl ⟨⟨by decide, by decide⟩, ⟨by decide, by decide⟩⟩ (fun hh => absurd hh (by decide)) (fun _ => ?_)
    refine ex_k 8 (P := none) (g := (cod m5_removeFerry 38, [some (.inl 1), some (.inr g), some (.inr z), some (.inr 1)], [.inr 1, .inr z, .inl 1, .inr 1, .inr (z - 1), .inl 1], (zr τ 4 (mvn d z 0)))) rfl trivial ?_
    refine ex_c (s_number (τ := (zr τ 4 (mvn d z 0))) (f := z) (w := 1) (Or.inl ⟨rfl, rfl⟩) (by omega) (by omega)) (is := cod m5_removeFerry 39) (L := [some (.inl 1), some (.inr g), some (.inr z), some (.inr 1)]) (st := [.inr 1, .inr (z - 1), .inl 1]) rfl rfl rfl ?_
    show Ex _ _ (cod m5_removeFerry 39, [some (.inl 1), some (.inr g), some (.inr z), some (.inr 1)], [.inr (cel (mvn d z 0) (0 + z * 6 + 1)), .inr 1, .inr (z - 1), .inl 1], (zr τ 4 (mvn d z 0))) _ _
    refine ex_c (s_setNumber (τ := (zr τ 4 (mvn d z 0))) (f := z - 1) (w := 1) (v := cel (mvn d z 0) (0 + z * 6 + 1)) (Or.inl ⟨rfl, rfl⟩) (by omega) (by omega)) (is := cod m5_removeFerry 40) (L := [some (.inl 1), some (.inr g), some (.inr z), some (.inr 1)]) (st := []) rfl rfl rfl ?_
    show Ex _ _ (cod m5_removeFerry 40, [some (.inl 1), some (.inr g), some (.inr z), some (.inr 1)], [], (zr (zr τ 4 (mvn d z 0)) 4 (mvn (mvn d z 0) z 1))) _ _
    rw [zr_zr]
    refine ex_k 4 (P := none) (g := (cod m5_removeFerry 29, [some (.inl 1), some (.inr g), some (.inr z), some (.inr 2)], [.inr 6, .inr 2], (zr τ 4 (mvn (mvn d z 0) z 1)))) rfl trivial ?_
    refine ex_b (P := 6 ≤ 2) (ct := (cod m5_removeFerry 42, [some (.inl 1), some (.inr g), some (.inr z), some (.inr 2)], [], (zr τ 4 (mvn (mvn d z 0) z 1)))) (cf := (cod m5_removeFerry 30, [some (.inl 1), some (.inr g), some (.inr z), some (.inr 2)], [], (zr τ 4 (mvn (mvn d z 0) z 1)))) rfl ⟨⟨by decide, by decide⟩, ⟨by decide, by decide⟩⟩ (fun hh => absurd hh (by decide)) (fun _ => ?_)
    refine ex_k 8 (P := none) (g := (cod m5_removeFerry 38, [some (.inl 1), some (.inr g), some (.inr z), some (.inr 2)], [.inr 2, .inr z, .inl 1, .inr 2, .inr (z - 1), .inl 1], (zr τ 4 (mvn (mvn d z 0) z 1)))) rfl trivial ?_
    refine ex_c (s_number (τ := (zr τ 4 (mvn (mvn d z 0) z 1))) (f := z) (w := 2) (Or.inl ⟨rfl, rfl⟩) (by omega) (by omega)) (is := cod m5_removeFerry 39) (L := [some (.inl 1), some (.inr g), some (.inr z), some (.inr 2)]) (st := [.inr 2, .inr (z - 1), .inl 1]) rfl rfl rfl ?_
    show Ex _ _ (cod m5_removeFerry 39, [some (.inl 1), some (.inr g), some (.inr z), some (.inr 2)], [.inr (cel (mvn (mvn d z 0) z 1) (0 + z * 6 + 2)), .inr 2, .inr (z - 1), .inl 1], (zr τ 4 (mvn (mvn d z 0) z 1))) _ _
    refine ex_c (s_setNumber (τ := (zr τ 4 (mvn (mvn d z 0) z 1))) (f := z - 1) (w := 2) (v := cel (mvn (mvn d z 0) z 1) (0 + z * 6 + 2)) (Or.inl ⟨rfl, rfl⟩) (by omega) (by omega)) (is := cod m5_removeFerry 40) (L := [some (.inl 1), some (.inr g), some (.inr z), some (.inr 2)]) (st := []) rfl rfl rfl ?_
    show Ex _ _ (cod m5_removeFerry 40, [some (.inl 1), some (.inr g), some (.inr z), some (.inr 2)], [], (zr (zr τ 4 (mvn (mvn d z 0) z 1)) 4 (mvn (mvn (mvn d z 0) z 1) z 2))) _ _
    rw [zr_zr]
    refine ex_k 4 (P := none) (g := (cod m5_removeFerry 29, [some (.inl 1), some (.inr g), some (.inr z), some (.inr 3)], [.inr 6, .inr 3], (zr τ 4 (mvn (mvn (mvn d z 0) z 1) z 2)))) rfl trivial ?_
    refine ex_b (P := 6 ≤ 3) (ct := (cod m5_removeFerry 42, [some (.inl 1), some (.inr g), some (.inr z), some (.inr 3)], [], (zr τ 4 (mvn (mvn (mvn d z 0) z 1) z 2)))) (cf := (cod m5_removeFerry 30, [some (.inl 1), some (.inr g), some (.inr z), some (.inr 3)], [], (zr τ 4 (mvn (mvn (mvn d z 0) z 1) z 2)))) rfl ⟨⟨by decide, by decide⟩, ⟨by decide, by decide⟩⟩ (fun hh => absurd hh (by decide)) (fun _ => ?_)
    refine ex_k 8 (P := none) (g := (cod m5_removeFerry 38, [some (.inl 1), some (.inr g), some (.inr z), some (.inr 3)], [.inr 3, .inr z, .inl 1, .inr 3, .inr (z - 1), .inl 1], (zr τ 4 (mvn (mvn (mvn d z 0) z 1) z 2)))) rfl trivial ?_
    refine ex_c (s_number (τ := (zr τ 4 (mvn (mvn (mvn d z 0) z 1) z 2))) (f := z) (w := 3) (Or.inl ⟨rfl, rfl⟩) (by omega) (by omega)) (is := cod m5_removeFerry 39) (L := [some (.inl 1), some (.inr g), some (.inr z), some (.inr 3)]) (st := [.inr 3, .inr (z - 1), .inl 1]) rfl rfl rfl ?_
    show Ex _ _ (cod m5_removeFerry 39, [some (.inl 1), some (.inr g), some (.inr z), some (.inr 3)], [.inr (cel (mvn (mvn (mvn d z 0) z 1) z 2) (0 + z * 6 + 3)), .inr 3, .inr (z - 1), .inl 1], (zr τ 4 (mvn (mvn (mvn d z 0) z 1) z 2))) _ _
    refine ex_c (s_setNumber (τ := (zr τ 4 (mvn (mvn (mvn d z 0) z 1) z 2))) (f := z - 1) (w := 3) (v := cel (mvn (mvn (mvn d z 0) z 1) z 2) (0 + z * 6 + 3)) (Or.inl ⟨rfl, rfl⟩) (by omega) (by omega)) (is := cod m5_removeFerry 40) (L := [some (.inl 1), some (.inr g), some (.inr z), some (.inr 3)]) (st := []) rfl rfl rfl ?_
    show Ex _ _ (cod m5_removeFerry 40, [some (.inl 1), some (.inr g), some (.inr z), some (.inr 3)], [], (zr (zr τ 4 (mvn (mvn (mvn d z 0) z 1) z 2)) 4 (mvn (mvn (mvn (mvn d z 0) z 1) z 2) z 3))) _ _
    rw [zr_zr]
    refine ex_k 4 (P := none) (g := (cod m5_removeFerry 29, [some (.inl 1), some (.inr g), some (.inr z), some (.inr 4)], [.inr 6, .inr 4], (zr τ 4 (mvn (mvn (mvn (mvn d z 0) z 1) z 2) z 3)))) rfl trivial ?_
    refine ex_b (P := 6 ≤ 4) (ct := (cod m5_removeFerry 42, [some (.inl 1), some (.inr g), some (.inr z), some (.inr 4)], [], (zr τ 4 (mvn (mvn (mvn (mvn d z 0) z 1) z 2) z 3)))) (cf := (cod m5_removeFerry 30, [some (.inl 1), some (.inr g), some (.inr z), some (.inr 4)], [], (zr τ 4 (mvn (mvn (mvn (mvn d z 0) z 1) z 2) z 3)))) rfl ⟨⟨by decide, by decide⟩, ⟨by decide, by decide⟩⟩ (fun hh => absurd hh (by decide)) (fun _ => ?_)
    refine ex_k 8 (P := none) (g := (cod m5_removeFerry 38, [some (.inl 1), some (.inr g), some (.inr z), some (.inr 4)], [.inr 4, .inr z, .inl 1, .inr 4, .inr (z - 1), .inl 1], (zr τ 4 (mvn (mvn (mvn (mvn d z 0) z 1) z 2) z 3)))) rfl trivial ?_
    refine ex_c (s_number (τ := (zr τ 4 (mvn (mvn (mvn (mvn d z 0) z 1) z 2) z 3))) (f := z) (w := 4) (Or.inl ⟨rfl, rfl⟩) (by omega) (by omega)) (is := cod m5_removeFerry 39) (L := [some (.inl 1), some (.inr g), some (.inr z), some (.inr 4)]) (st := [.inr 4, .inr (z - 1), .inl 1]) rfl rfl rfl ?_
    show Ex _ _ (cod m5_removeFerry 39, [some (.inl 1), some (.inr g), some (.inr z), some (.inr 4)], [.inr (cel (mvn (mvn (mvn (mvn d z 0) z 1) z 2) z 3) (0 + z * 6 + 4)), .inr 4, .inr (z - 1), .inl 1], (zr τ 4 (mvn (mvn (mvn (mvn d z 0) z 1) z 2) z 3))) _ _
    refine ex_c (s_setNumber (τ := (zr τ 4 (mvn (mvn (mvn (mvn d z 0) z 1) z 2) z 3))) (f := z - 1) (w := 4) (v := cel (mvn (mvn (mvn (mvn d z 0) z 1) z 2) z 3) (0 + z * 6 + 4)) (Or.inl ⟨rfl, rfl⟩) (by omega) (by omega)) (is := cod m5_removeFerry 40) (L := [some (.inl 1), some (.inr g), some (.inr z), some (.inr 4)]) (st := []) rfl rfl rfl ?_
    show Ex _ _ (cod m5_removeFerry 40, [some (.inl 1), some (.inr g), some (.inr z), some (.inr 4)], [], (zr (zr τ 4 (mvn (mvn (mvn (mvn d z 0) z 1) z 2) z 3)) 4 (mvn (mvn (mvn (mvn (mvn d z 0) z 1) z 2) z 3) z 4))) _ _
    rw [zr_zr]
    refine ex_k 4 (P := none) (g := (cod m5_removeFerry 29, [some (.inl 1), some (.inr g), some (.inr z), some (.inr 5)], [.inr 6, .inr 5], (zr τ 4 (mvn (mvn (mvn (mvn (mvn d z 0) z 1) z 2) z 3) z 4)))) rfl trivial ?_
    refine ex_b (P := 6 ≤ 5) (ct := (cod m5_removeFerry 42, [some (.inl 1), some (.inr g), some (.inr z), some (.inr 5)], [], (zr τ 4 (mvn (mvn (mvn (mvn (mvn d z 0) z 1) z 2) z 3) z 4)))) (cf := (cod m5_removeFerry 30, [some (.inl 1), some (.inr g), some (.inr z), some (.inr 5)], [], (zr τ 4 (mvn (mvn (mvn (mvn (mvn d z 0) z 1) z 2) z 3) z 4)))) rfl ⟨⟨by decide, by decide⟩, ⟨by decide, by decide⟩⟩ (fun hh => absurd hh (by decide)) (fun _ => ?_)
    refine ex_k 8 (P := none) (g := (cod m5_removeFerry 38, [some (.inl 1), some (.inr g), some (.inr z), some (.inr 5)], [.inr 5, .inr z, .inl 1, .inr 5, .inr (z - 1), .inl 1], (zr τ 4 (mvn (mvn (mvn (mvn (mvn d z 0) z 1) z 2) z 3) z 4)))) rfl trivial ?_
    refine ex_c (s_number (τ := (zr τ 4 (mvn (mvn (mvn (mvn (mvn d z 0) z 1) z 2) z 3) z 4))) (f := z) (w := 5) (Or.inl ⟨rfl, rfl⟩) (by omega) (by omega)) (is := cod m5_removeFerry 39) (L := [some (.inl 1), some (.inr g), some (.inr z), some (.inr 5)]) (st := [.inr 5, .inr (z - 1), .inl 1]) rfl rfl rfl ?_
    show Ex _ _ (cod m5_removeFerry 39, [some (.inl 1), some (.inr g), some (.inr z), some (.inr 5)], [.inr (cel (mvn (mvn (mvn (mvn (mvn d z 0) z 1) z 2) z 3) z 4) (0 + z * 6 + 5)), .inr 5, .inr (z - 1), .inl 1], (zr τ 4 (mvn (mvn (mvn (mvn (mvn d z 0) z 1) z 2) z 3) z 4))) _ _
    refine ex_c (s_setNumber (τ := (zr τ 4 (mvn (mvn (mvn (mvn (mvn d z 0) z 1) z 2) z 3) z 4))) (f := z - 1) (w := 5) (v := cel (mvn (mvn (mvn (mvn (mvn d z 0) z 1) z 2) z 3) z 4) (0 + z * 6 + 5)) (Or.inl ⟨rfl, rfl⟩) (by omega) (by omega)) (is := cod m5_removeFerry 40) (L := [some (.inl 1), some (.inr g), some (.inr z), some (.inr 5)]) (st := []) rfl rfl rfl ?_
    show Ex _ _ (cod m5_removeFerry 40, [some (.inl 1), some (.inr g), some (.inr z), some (.inr 5)], [], (zr (zr τ 4 (mvn (mvn (mvn (mvn (mvn d z 0) z 1) z 2) z 3) z 4)) 4 (mv6 d z))) _ _
    rw [zr_zr]
    refine ex_k 4 (P := none) (g := (cod m5_removeFerry 29, [some (.inl 1), some (.inr g), some (.inr z), some (.inr 6)], [.inr 6, .inr 6], (zr τ 4 (mv6 d z)))) rfl trivial ?_
    refine ex_b (P := 6 ≤ 6) (ct := (cod m5_removeFerry 42, [some (.inl 1), some (.inr g), some (.inr z), some (.inr 6)], [], (zr τ 4 (mv6 d z)))) (cf := (cod m5_removeFerry 30, [some (.inl 1), some (.inr g), some (.inr z), some (.inr 6)], [], (zr τ 4 (mv6 d z)))) rfl ⟨⟨by decide, by decide⟩, ⟨by decide, by decide⟩⟩ (fun _ => ?_) (fun hh => absurd (by decide) hh)
    refine ex_k 5 (P := none) (g := (cod m5_removeFerry 47, [some (.inl 1), some (.inr g), some (.inr z), some (.inr 6)], [.inr 1, .inr z, .inl 1, .inr 0, .inl 1], (zr τ 4 (mv6 d z)))) rfl trivial ?_
    refine ex_c (s_number (τ := (zr τ 4 (mv6 d z))) (f := z) (w := 1) (Or.inl ⟨rfl, rfl⟩) (by omega) (by omega)) (is := cod m5_removeFerry 48) (L := [some (.inl 1), some (.inr g), some (.inr z), some (.inr 6)]) (st := [.inr 0, .inl 1]) rfl rfl rfl ?_
    show Ex _ _ (cod m5_removeFerry 48, [some (.inl 1), some (.inr g), some (.inr z), some (.inr 6)], [.inr (cel (mv6 d z) (0 + z * 6 + 1)), .inr 0, .inl 1], (zr τ 4 (mv6 d z))) _ _
    refine ex_k 3 (P := none) (g := (cod m5_removeFerry 51, [some (.inl 1), some (.inr g), some (.inr z), some (.inr 6)], [.inr (z - 1), .inr (cel (mv6 d z) (0 + z * 6 + 1)), .inr 0, .inl 1], (zr τ 4 (mv6 d z)))) rfl trivial ?_
    refine ex_c (s_setWho (τ := (zr τ 4 (mv6 d z))) (r := 0) (p := cel (mv6 d z) (0 + z * 6 + 1)) (v := z - 1) (Or.inl ⟨rfl, rfl⟩) (by omega) ⟨by omega, by omega⟩) (is := cod m5_removeFerry 52) (L := [some (.inl 1), some (.inr g), some (.inr z), some (.inr 6)]) (st := []) rfl rfl rfl ?_
    show Ex _ _ (cod m5_removeFerry 52, [some (.inl 1), some (.inr g), some (.inr z), some (.inr 6)], [], (zr (zr τ 4 (mv6 d z)) 4 (st0 (mv6 d z) z (z - 1)))) _ _
    rw [zr_zr]
    refine ex_k 5 (P := none) (g := (cod m5_removeFerry 57, [some (.inl 1), some (.inr g), some (.inr z), some (.inr 6)], [.inr 2, .inr z, .inl 1, .inr 1, .inl 1], (zr τ 4 (st0 (mv6 d z) z (z - 1))))) rfl trivial ?_
    refine ex_c (s_number (τ := (zr τ 4 (st0 (mv6 d z) z (z - 1)))) (f := z) (w := 2) (Or.inl ⟨rfl, rfl⟩) (by omega) (by omega)) (is := cod m5_removeFerry 58) (L := [some (.inl 1), some (.inr g), some (.inr z), some (.inr 6)]) (st := [.inr 1, .inl 1]) rfl rfl rfl ?_
    show Ex _ _ (cod m5_removeFerry 58, [some (.inl 1), some (.inr g), some (.inr z), some (.inr 6)], [.inr (cel (st0 (mv6 d z) z (z - 1)) (0 + z * 6 + 2)), .inr 1, .inl 1], (zr τ 4 (st0 (mv6 d z) z (z - 1)))) _ _
    refine ex_k 3 (P := none) (g := (cod m5_removeFerry 61, [some (.inl 1), some (.inr g), some (.inr z), some (.inr 6)], [.inr (z - 1), .inr (cel (st0 (mv6 d z) z (z - 1)) (0 + z * 6 + 2)), .inr 1, .inl 1], (zr τ 4 (st0 (mv6 d z) z (z - 1))))) rfl trivial ?_
    refine ex_c (s_setWho (τ := (zr τ 4 (st0 (mv6 d z) z (z - 1)))) (r := 1) (p := cel (st0 (mv6 d z) z (z - 1)) (0 + z * 6 + 2)) (v := z - 1) (Or.inl ⟨rfl, rfl⟩) (by omega) ⟨by omega, by omega⟩) (is := cod m5_removeFerry 62) (L := [some (.inl 1), some (.inr g), some (.inr z), some (.inr 6)]) (st := []) rfl rfl rfl ?_
    show Ex _ _ (cod m5_removeFerry 62, [some (.inl 1), some (.inr g), some (.inr z), some (.inr 6)], [], (zr (zr τ 4 (st0 (mv6 d z) z (z - 1))) 4 (st1 (st0 (mv6 d z) z (z - 1)) z (z - 1)))) _ _
    rw [zr_zr]
    refine ex_k 2 (P := none) (g := (cod m5_removeFerry 20, [some (.inl 1), some (.inr g), some (.inr (z + 1)), some (.inr 6)], [], (zr τ 4 (st1 (st0 (mv6 d z) z (z - 1)) z (z - 1))))) rfl trivial ?_
    exact ih (rst d z) (z + 1) (some (.inr 6)) (by omega) (by omega) (by rw [rst_107 (by omega)]; omega) (by rw [rst_107 (by omega)]; omega) (rst_bd hB (by omega))
theorem lp_remove_5 {g : Int} {τ : SZ} : ∀ (j : Nat) (d : Nat → Int) (z : Int) (o : Option VZ), 0 ≤ z → z ≤ 8 → z + (j : Int) = cel d 107 → cel d 107 ≤ 8 → Bd d → Ex 3 m5_removeFerry (cod m5_removeFerry 20, [some (.inl 2), some (.inr g), some (.inr z), o], [], (zr τ 5 d)) 0 (.inl (none, zr τ 5 (dec (rif j d z)))) := by
  intro j
  induction j with
  | zero =>
    intro d z o hz0 hz8 hzj hN hB
    refine ex_k 3 (P := none) (g := (cod m5_removeFerry 23, [some (.inl 2), some (.inr g), some (.inr z), o], [.inr 7, .inl 2, .inr z], (zr τ 5 d))) rfl trivial ?_
    refine ex_c (s_total (τ := (zr τ 5 d)) (w := 7) (Or.inr (Or.inl ⟨rfl, rfl⟩)) (by omega)) (is := cod m5_removeFerry 24) (L := [some (.inl 2), some (.inr g), some (.inr z), o]) (st := [.inr z]) rfl rfl rfl ?_
    show Ex _ _ (cod m5_removeFerry 24, [some (.inl 2), some (.inr g), some (.inr z), o], [.inr (cel d 107), .inr z], (zr τ 5 d)) _ _
    refine ex_b (P := (cel d 107) ≤ z) (ct := (cod m5_removeFerry 64, [some (.inl 2), some (.inr g), some (.inr z), o], [], (zr τ 5 d))) (cf := (cod m5_removeFerry 25, [some (.inl 2), some (.inr g), some (.inr z), o], [], (zr τ 5 d))) rfl ⟨⟨by omega, by omega⟩, ⟨by omega, by omega⟩⟩ (fun _ => ?_) (fun hh => absurd (by omega) hh)
    refine ex_k 3 (P := none) (g := (cod m5_removeFerry 67, [some (.inl 2), some (.inr g), some (.inr z), o], [.inr (-1), .inr 7, .inl 2], (zr τ 5 d))) rfl trivial ?_
    refine ex_c (s_addToTotal (τ := (zr τ 5 d)) (w := 7) (m := (-1)) (Or.inr (Or.inl ⟨rfl, rfl⟩)) (by omega)) (is := cod m5_removeFerry 68) (L := [some (.inl 2), some (.inr g), some (.inr z), o]) (st := []) rfl rfl rfl ?_
    show Ex _ _ (cod m5_removeFerry 68, [some (.inl 2), some (.inr g), some (.inr z), o], [], (zr (zr τ 5 d) 5 (sce d 107 (cel d 107 + (-1))))) _ _
    rw [zr_zr]
    exact ex_r rfl rfl rfl (rfl)
  | succ j ih =>
    intro d z o hz0 hz8 hzj hN hB
    have hbA := cel_bd (mv6_bd hB z) (0 + z * 6 + 1)
    have hbB := cel_bd (st0_bd (l := z) (v := z - 1) (mv6_bd hB z) (by omega)) (0 + z * 6 + 2)
    refine ex_k 3 (P := none) (g := (cod m5_removeFerry 23, [some (.inl 2), some (.inr g), some (.inr z), o], [.inr 7, .inl 2, .inr z], (zr τ 5 d))) rfl trivial ?_
    refine ex_c (s_total (τ := (zr τ 5 d)) (w := 7) (Or.inr (Or.inl ⟨rfl, rfl⟩)) (by omega)) (is := cod m5_removeFerry 24) (L := [some (.inl 2), some (.inr g), some (.inr z), o]) (st := [.inr z]) rfl rfl rfl ?_
    show Ex _ _ (cod m5_removeFerry 24, [some (.inl 2), some (.inr g), some (.inr z), o], [.inr (cel d 107), .inr z], (zr τ 5 d)) _ _
    refine ex_b (P := (cel d 107) ≤ z) (ct := (cod m5_removeFerry 64, [some (.inl 2), some (.inr g), some (.inr z), o], [], (zr τ 5 d))) (cf := (cod m5_removeFerry 25, [some (.inl 2), some (.inr g), some (.inr z), o], [], (zr τ 5 d))) rfl ⟨⟨by omega, by omega⟩, ⟨by omega, by omega⟩⟩ (fun hh => absurd hh (by omega)) (fun _ => ?_)
    refine ex_k 4 (P := none) (g := (cod m5_removeFerry 29, [some (.inl 2), some (.inr g), some (.inr z), some (.inr 0)], [.inr 6, .inr 0], (zr τ 5 d))) rfl trivial ?_
    refine ex_b (P := 6 ≤ 0) (ct := (cod m5_removeFerry 42, [some (.inl 2), some (.inr g), some (.inr z), some (.inr 0)], [], (zr τ 5 d))) (cf := (cod m5_removeFerry 30, [some (.inl 2), some (.inr g), some (.inr z), some (.inr 0)], [], (zr τ 5 d))) rfl ⟨⟨by decide, by decide⟩, ⟨by decide, by decide⟩⟩ (fun hh => absurd hh (by decide)) (fun _ => ?_)
    refine ex_k 8 (P := none) (g := (cod m5_removeFerry 38, [some (.inl 2), some (.inr g), some (.inr z), some (.inr 0)], [.inr 0, .inr z, .inl 2, .inr 0, .inr (z - 1), .inl 2], (zr τ 5 d))) rfl trivial ?_
    refine ex_c (s_number (τ := (zr τ 5 d)) (f := z) (w := 0) (Or.inr (Or.inl ⟨rfl, rfl⟩)) (by omega) (by omega)) (is := cod m5_removeFerry 39) (L := [some (.inl 2), some (.inr g), some (.inr z), some (.inr 0)]) (st := [.inr 0, .inr (z - 1), .inl 2]) rfl rfl rfl ?_
    show Ex _ _ (cod m5_removeFerry 39, [some (.inl 2), some (.inr g), some (.inr z), some (.inr 0)], [.inr (cel d (0 + z * 6 + 0)), .inr 0, .inr (z - 1), .inl 2], (zr τ 5 d)) _ _
    refine ex_c (s_setNumber (τ := (zr τ 5 d)) (f := z - 1) (w := 0) (v := cel d (0 + z * 6 + 0)) (Or.inr (Or.inl ⟨rfl, rfl⟩)) (by omega) (by omega)) (is := cod m5_removeFerry 40) (L := [some (.inl 2), some (.inr g), some (.inr z), some (.inr 0)]) (st := []) rfl rfl rfl ?_
    show Ex _ _ (cod m5_removeFerry 40, [some (.inl 2), some (.inr g), some (.inr z), some (.inr 0)], [], (zr (zr τ 5 d) 5 (mvn d z 0))) _ _
    rw [zr_zr]
    refine ex_k 4 (P := none) (g := (cod m5_removeFerry 29, [some (.inl 2), some (.inr g), some (.inr z), some (.inr 1)], [.inr 6, .inr 1], (zr τ 5 (mvn d z 0)))) rfl trivial ?_
    refine ex_b (P := 6 ≤ 1) (ct := (cod m5_removeFerry 42, [some (.inl 2), some (.inr g), some (.inr z), some (.inr 1)], [], (zr τ 5 (mvn d z 0)))) (cf := (cod m5_removeFerry 30, [some (.inl 2), some (.inr g), some (.inr z), some (.inr 1)], [], (zr τ 5 (mvn d z 0)))) rfl ⟨⟨by decide, by decide⟩, ⟨by decide, by decide⟩⟩ (fun hh => absurd hh (by decide)) (fun _ => ?_)
    refine ex_k 8 (P := none) (g := (cod m5_removeFerry 38, [some (.inl 2), some (.inr g), some (.inr z), some (.inr 1)], [.inr 1, .inr z, .inl 2, .inr 1, .inr (z - 1), .inl 2], (zr τ 5 (mvn d z 0)))) rfl trivial ?_
    refine ex_c (s_number (τ := (zr τ 5 (mvn d z 0))) (f := z) (w := 1) (Or.inr (Or.inl ⟨rfl, rfl⟩)) (by omega) (by omega)) (is := cod m5_removeFerry 39) (L := [some (.inl 2), some (.inr g), some (.inr z), some (.inr 1)]) (st := [.inr 1, .inr (z - 1), .inl 2]) rfl rfl rfl ?_
    show Ex _ _ (cod m5_removeFerry 39, [some (.inl 2), some (.inr g), some (.inr z), some (.inr 1)], [.inr (cel (mvn d z 0) (0 + z * 6 + 1)), .inr 1, .inr (z - 1), .inl 2], (zr τ 5 (mvn d z 0))) _ _
    refine ex_c (s_setNumber (τ := (zr τ 5 (mvn d z 0))) (f := z - 1) (w := 1) (v := cel (mvn d z 0) (0 + z * 6 + 1)) (Or.inr (Or.inl ⟨rfl, rfl⟩)) (by omega) (by omega)) (is := cod m5_removeFerry 40) (L := [some (.inl 2), some (.inr g), some (.inr z), some (.inr 1)]) (st := []) rfl rfl rfl ?_
    show Ex _ _ (cod m5_removeFerry 40, [some (.inl 2), some (.inr g), some (.inr z), some (.inr 1)], [], (zr (zr τ 5 (mvn d z 0)) 5 (mvn (mvn d z 0) z 1))) _ _
    rw [zr_zr]
    refine ex_k 4 (P := none) (g := (cod m5_removeFerry 29, [some (.inl 2), some (.inr g), some (.inr z), some (.inr 2)], [.inr 6, .inr 2], (zr τ 5 (mvn (mvn d z 0) z 1)))) rfl trivial ?_
    refine ex_b (P := 6 ≤ 2) (ct := (cod m5_removeFerry 42, [some (.inl 2), some (.inr g), some (.inr z), some (.inr 2)], [], (zr τ 5 (mvn (mvn d z 0) z 1)))) (cf := (cod m5_removeFerry 30, [some (.inl 2), some (.inr g), some (.inr z), some (.inr 2)], [], (zr τ 5 (mvn (mvn d z 0) z 1)))) rfl ⟨⟨by decide, by decide⟩, ⟨by decide, by decide⟩⟩ (fun hh => absurd hh (by decide)) (fun _ => ?_)
    refine ex_k 8 (P := none) (g := (cod m5_removeFerry 38, [some (.inl 2), some (.inr g), some (.inr z), some (.inr 2)], [.inr 2, .inr z, .inl 2, .inr 2, .inr (z - 1), .inl 2], (zr τ 5 (mvn (mvn d z 0) z 1)))) rfl trivial ?_
    refine ex_c (s_number (τ := (zr τ 5 (mvn (mvn d z 0) z 1))) (f := z) (w := 2) (Or.inr (Or.inl ⟨rfl, rfl⟩)) (by omega) (by omega)) (is := cod m5_removeFerry 39) (L := [some (.inl 2), some (.inr g), some (.inr z), some (.inr 2)]) (st := [.inr 2, .inr (z - 1), .inl 2]) rfl rfl rfl ?_
    show Ex _ _ (cod m5_removeFerry 39, [some (.inl 2), some (.inr g), some (.inr z), some (.inr 2)], [.inr (cel (mvn (mvn d z 0) z 1) (0 + z * 6 + 2)), .inr 2, .inr (z - 1), .inl 2], (zr τ 5 (mvn (mvn d z 0) z 1))) _ _
    refine ex_c (s_setNumber (τ := (zr τ 5 (mvn (mvn d z 0) z 1))) (f := z - 1) (w := 2) (v := cel (mvn (mvn d z 0) z 1) (0 + z * 6 + 2)) (Or.inr (Or.inl ⟨rfl, rfl⟩)) (by omega) (by omega)) (is := cod m5_removeFerry 40) (L := [some (.inl 2), some (.inr g), some (.inr z), some (.inr 2)]) (st := []) rfl rfl rfl ?_
    show Ex _ _ (cod m5_removeFerry 40, [some (.inl 2), some (.inr g), some (.inr z), some (.inr 2)], [], (zr (zr τ 5 (mvn (mvn d z 0) z 1)) 5 (mvn (mvn (mvn d z 0) z 1) z 2))) _ _
    rw [zr_zr]
    refine ex_k 4 (P := none) (g := (cod m5_removeFerry 29, [some (.inl 2), some (.inr g), some (.inr z), some (.inr 3)], [.inr 6, .inr 3], (zr τ 5 (mvn (mvn (mvn d z 0) z 1) z 2)))) rfl trivial ?_
    refine ex_b (P := 6 ≤ 3) (ct := (cod m5_removeFerry 42, [some (.inl 2), some (.inr g), some (.inr z), some (.inr 3)], [], (zr τ 5 (mvn (mvn (mvn d z 0) z 1) z 2)))) (cf := (cod m5_removeFerry 30, [some (.inl 2), some (.inr g), some (.inr z), some (.inr 3)], [], (zr τ 5 (mvn (mvn (mvn d z 0) z 1) z 2)))) rfl ⟨⟨by decide, by decide⟩, ⟨by decide, by decide⟩⟩ (fun hh => absurd hh (by decide)) (fun _ => ?_)
    refine ex_k 8 (P := none) (g := (cod m5_removeFerry 38, [some (.inl 2), some (.inr g), some (.inr z), some (.inr 3)], [.inr 3, .inr z, .inl 2, .inr 3, .inr (z - 1), .inl 2], (zr τ 5 (mvn (mvn (mvn d z 0) z 1) z 2)))) rfl trivial ?_
    refine ex_c (s_number (τ := (zr τ 5 (mvn (mvn (mvn d z 0) z 1) z 2))) (f := z) (w := 3) (Or.inr (Or.inl ⟨rfl, rfl⟩)) (by omega) (by omega)) (is := cod m5_removeFerry 39) (L := [some (.inl 2), some (.inr g), some (.inr z), some (.inr 3)]) (st := [.inr 3, .inr (z - 1), .inl 2]) rfl rfl rfl ?_
    show Ex _ _ (cod m5_removeFerry 39, [some (.inl 2), some (.inr g), some (.inr z), some (.inr 3)], [.inr (cel (mvn (mvn (mvn d z 0) z 1) z 2) (0 + z * 6 + 3)), .inr 3, .inr (z - 1), .inl 2], (zr τ 5 (mvn (mvn (mvn d z 0) z 1) z 2))) _ _
    refine ex_c (s_setNumber (τ := (zr τ 5 (mvn (mvn (mvn d z 0) z 1) z 2))) (f := z - 1) (w := 3) (v := cel (mvn (mvn (mvn d z 0) z 1) z 2) (0 + z * 6 + 3)) (Or.inr (Or.inl ⟨rfl, rfl⟩)) (by omega) (by omega)) (is := cod m5_removeFerry 40) (L := [some (.inl 2), some (.inr g), some (.inr z), some (.inr 3)]) (st := []) rfl rfl rfl ?_
    show Ex _ _ (cod m5_removeFerry 40, [some (.inl 2), some (.inr g), some (.inr z), some (.inr 3)], [], (zr (zr τ 5 (mvn (mvn (mvn d z 0) z 1) z 2)) 5 (mvn (mvn (mvn (mvn d z 0) z 1) z 2) z 3))) _ _
    rw [zr_zr]
    refine ex_k 4 (P := none) (g := (cod m5_removeFerry 29, [some (.inl 2), some (.inr g), some (.inr z), some (.inr 4)], [.inr 6, .inr 4], (zr τ 5 (mvn (mvn (mvn (mvn d z 0) z 1) z 2) z 3)))) rfl trivial ?_
    refine ex_b (P := 6 ≤ 4) (ct := (cod m5_removeFerry 42, [some (.inl 2), some (.inr g), some (.inr z), some (.inr 4)], [], (zr τ 5 (mvn (mvn (mvn (mvn d z 0) z 1) z 2) z 3)))) (cf := (cod m5_removeFerry 30, [some (.inl 2), some (.inr g), some (.inr z), some (.inr 4)], [], (zr τ 5 (mvn (mvn (mvn (mvn d z 0) z 1) z 2) z 3)))) rfl ⟨⟨by decide, by decide⟩, ⟨by decide, by decide⟩⟩ (fun hh => absurd hh (by decide)) (fun _ => ?_)
    refine ex_k 8 (P := none) (g := (cod m5_removeFerry 38, [some (.inl 2), some (.inr g), some (.inr z), some (.inr 4)], [.inr 4, .inr z, .inl 2, .inr 4, .inr (z - 1), .inl 2], (zr τ 5 (mvn (mvn (mvn (mvn d z 0) z 1) z 2) z 3)))) rfl trivial ?_
    refine ex_c (s_number (τ := (zr τ 5 (mvn (mvn (mvn (mvn d z 0) z 1) z 2) z 3))) (f := z) (w := 4) (Or.inr (Or.inl ⟨rfl, rfl⟩)) (by omega) (by omega)) (is := cod m5_removeFerry 39) (L := [some (.inl 2), some (.inr g), some (.inr z), some (.inr 4)]) (st := [.inr 4, .inr (z - 1), .inl 2]) rfl rfl rfl ?_
    show Ex _ _ (cod m5_removeFerry 39, [some (.inl 2), some (.inr g), some (.inr z), some (.inr 4)], [.inr (cel (mvn (mvn (mvn (mvn d z 0) z 1) z 2) z 3) (0 + z * 6 + 4)), .inr 4, .inr (z - 1), .inl 2], (zr τ 5 (mvn (mvn (mvn (mvn d z 0) z 1) z 2) z 3))) _ _
    refine ex_c (s_setNumber (τ := (zr τ 5 (mvn (mvn (mvn (mvn d z 0) z 1) z 2) z 3))) (f := z - 1) (w := 4) (v := cel (mvn (mvn (mvn (mvn d z 0) z 1) z 2) z 3) (0 + z * 6 + 4)) (Or.inr (Or.inl ⟨rfl, rfl⟩)) (by omega) (by omega)) (is := cod m5_removeFerry 40) (L := [some (.inl 2), some (.inr g), some (.inr z), some (.inr 4)]) (st := []) rfl rfl rfl ?_
    show Ex _ _ (cod m5_removeFerry 40, [some (.inl 2), some (.inr g), some (.inr z), some (.inr 4)], [], (zr (zr τ 5 (mvn (mvn (mvn (mvn d z 0) z 1) z 2) z 3)) 5 (mvn (mvn (mvn (mvn (mvn d z 0) z 1) z 2) z 3) z 4))) _ _
    rw [zr_zr]
    refine ex_k 4 (P := none) (g := (cod m5_removeFerry 29, [some (.inl 2), some (.inr g), some (.inr z), some (.inr 5)], [.inr 6, .inr 5], (zr τ 5 (mvn (mvn (mvn (mvn (mvn d z 0) z 1) z 2) z 3) z 4)))) rfl trivial ?_
    refine ex_b (P := 6 ≤ 5) (ct := (cod m5_removeFerry 42, [some (.inl 2), some (.inr g), some (.inr z), some (.inr 5)], [], (zr τ 5 (mvn (mvn (mvn (mvn (mvn d z 0) z 1) z 2) z 3) z 4)))) (cf := (cod m5_removeFerry 30, [some (.inl 2), some (.inr g), some (.inr z), some (.inr 5)], [], (zr τ 5 (mvn (mvn (mvn (mvn (mvn d z 0) z 1) z 2) z 3) z 4)))) rfl ⟨⟨by decide, by decide⟩, ⟨by decide, by decide⟩⟩ (fun hh => absurd hh (by decide)) (fun _ => ?_)
    refine ex_k 8 (P := none) (g := (cod m5_removeFerry 38, [some (.inl 2), some (.inr g), some (.inr z), some (.inr 5)], [.inr 5, .inr z, .inl 2, .inr 5, .inr (z - 1), .inl 2], (zr τ 5 (mvn (mvn (mvn (mvn (mvn d z 0) z 1) z 2) z 3) z 4)))) rfl trivial ?_
    refine ex_c (s_number (τ := (zr τ 5 (mvn (mvn (mvn (mvn (mvn d z 0) z 1) z 2) z 3) z 4))) (f := z) (w := 5) (Or.inr (Or.inl ⟨rfl, rfl⟩)) (by omega) (by omega)) (is := cod m5_removeFerry 39) (L := [some (.inl 2), some (.inr g), some (.inr z), some (.inr 5)]) (st := [.inr 5, .inr (z - 1), .inl 2]) rfl rfl rfl ?_
    show Ex _ _ (cod m5_removeFerry 39, [some (.inl 2), some (.inr g), some (.inr z), some (.inr 5)], [.inr (cel (mvn (mvn (mvn (mvn (mvn d z 0) z 1) z 2) z 3) z 4) (0 + z * 6 + 5)), .inr 5, .inr (z - 1), .inl 2], (zr τ 5 (mvn (mvn (mvn (mvn (mvn d z 0) z 1) z 2) z 3) z 4))) _ _
    refine ex_c (s_setNumber (τ := (zr τ 5 (mvn (mvn (mvn (mvn (mvn d z 0) z 1) z 2) z 3) z 4))) (f := z - 1) (w := 5) (v := cel (mvn (mvn (mvn (mvn (mvn d z 0) z 1) z 2) z 3) z 4) (0 + z * 6 + 5)) (Or.inr (Or.inl ⟨rfl, rfl⟩)) (by omega) (by omega)) (is := cod m5_removeFerry 40) (L := [some (.inl 2), some (.inr g), some (.inr z), some (.inr 5)]) (st := []) rfl rfl rfl ?_
    show Ex _ _ (cod m5_removeFerry 40, [some (.inl 2), some (.inr g), some (.inr z), some (.inr 5)], [], (zr (zr τ 5 (mvn (mvn (mvn (mvn (mvn d z 0) z 1) z 2) z 3) z 4)) 5 (mv6 d z))) _ _
    rw [zr_zr]
    refine ex_k 4 (P := none) (g := (cod m5_removeFerry 29, [some (.inl 2), some (.inr g), some (.inr z), some (.inr 6)], [.inr 6, .inr 6], (zr τ 5 (mv6 d z)))) rfl trivial ?_
    refine ex_b (P := 6 ≤ 6) (ct := (cod m5_removeFerry 42, [some (.inl 2), some (.inr g), some (.inr z), some (.inr 6)], [], (zr τ 5 (mv6 d z)))) (cf := (cod m5_removeFerry 30, [some (.inl 2), some (.inr g), some (.inr z), some (.inr 6)], [], (zr τ 5 (mv6 d z)))) rfl ⟨⟨by decide, by decide⟩, ⟨by decide, by decide⟩⟩ (fun _ => ?_) (fun hh => absurd (by decide) hh)
    refine ex_k 5 (P := none) (g := (cod m5_removeFerry 47, [some (.inl 2), some (.inr g), some (.inr z), some (.inr 6)], [.inr 1, .inr z, .inl 2, .inr 0, .inl 2], (zr τ 5 (mv6 d z)))) rfl trivial ?_
    refine ex_c (s_number (τ := (zr τ 5 (mv6 d z))) (f := z) (w := 1) (Or.inr (Or.inl ⟨rfl, rfl⟩)) (by omega) (by omega)) (is := cod m5_removeFerry 48) (L := [some (.inl 2), some (.inr g), some (.inr z), some (.inr 6)]) (st := [.inr 0, .inl 2]) rfl rfl rfl ?_
    show Ex _ _ (cod m5_removeFerry 48, [some (.inl 2), some (.inr g), some (.inr z), some (.inr 6)], [.inr (cel (mv6 d z) (0 + z * 6 + 1)), .inr 0, .inl 2], (zr τ 5 (mv6 d z))) _ _
    refine ex_k 3 (P := none) (g := (cod m5_removeFerry 51, [some (.inl 2), some (.inr g), some (.inr z), some (.inr 6)], [.inr (z - 1), .inr (cel (mv6 d z) (0 + z * 6 + 1)), .inr 0, .inl 2], (zr τ 5 (mv6 d z)))) rfl trivial ?_
    refine ex_c (s_setWho (τ := (zr τ 5 (mv6 d z))) (r := 0) (p := cel (mv6 d z) (0 + z * 6 + 1)) (v := z - 1) (Or.inr (Or.inl ⟨rfl, rfl⟩)) (by omega) ⟨by omega, by omega⟩) (is := cod m5_removeFerry 52) (L := [some (.inl 2), some (.inr g), some (.inr z), some (.inr 6)]) (st := []) rfl rfl rfl ?_
    show Ex _ _ (cod m5_removeFerry 52, [some (.inl 2), some (.inr g), some (.inr z), some (.inr 6)], [], (zr (zr τ 5 (mv6 d z)) 5 (st0 (mv6 d z) z (z - 1)))) _ _
    rw [zr_zr]
    refine ex_k 5 (P := none) (g := (cod m5_removeFerry 57, [some (.inl 2), some (.inr g), some (.inr z), some (.inr 6)], [.inr 2, .inr z, .inl 2, .inr 1, .inl 2], (zr τ 5 (st0 (mv6 d z) z (z - 1))))) rfl trivial ?_
    refine ex_c (s_number (τ := (zr τ 5 (st0 (mv6 d z) z (z - 1)))) (f := z) (w := 2) (Or.inr (Or.inl ⟨rfl, rfl⟩)) (by omega) (by omega)) (is := cod m5_removeFerry 58) (L := [some (.inl 2), some (.inr g), some (.inr z), some (.inr 6)]) (st := [.inr 1, .inl 2]) rfl rfl rfl ?_
    show Ex _ _ (cod m5_removeFerry 58, [some (.inl 2), some (.inr g), some (.inr z), some (.inr 6)], [.inr (cel (st0 (mv6 d z) z (z - 1)) (0 + z * 6 + 2)), .inr 1, .inl 2], (zr τ 5 (st0 (mv6 d z) z (z - 1)))) _ _
    refine ex_k 3 (P := none) (g := (cod m5_removeFerry 61, [some (.inl 2), some (.inr g), some (.inr z), some (.inr 6)], [.inr (z - 1), .inr (cel (st0 (mv6 d z) z (z - 1)) (0 + z * 6 + 2)), .inr 1, .inl 2], (zr τ 5 (st0 (mv6 d z) z (z - 1))))) rfl trivial ?_
    refine ex_c (s_setWho (τ := (zr τ 5 (st0 (mv6 d z) z (z - 1)))) (r := 1) (p := cel (st0 (mv6 d z) z (z - 1)) (0 + z * 6 + 2)) (v := z - 1) (Or.inr (Or.inl ⟨rfl, rfl⟩)) (by omega) ⟨by omega, by omega⟩) (is := cod m5_removeFerry 62) (L := [some (.inl 2), some (.inr g), some (.inr z), some (.inr 6)]) (st := []) rfl rfl rfl ?_
    show Ex _ _ (cod m5_removeFerry 62, [some (.inl 2), some (.inr g), some (.inr z), some (.inr 6)], [], (zr (zr τ 5 (st0 (mv6 d z) z (z - 1))) 5 (st1 (st0 (mv6 d z) z (z - 1)) z (z - 1)))) _ _
    rw [zr_zr]
    refine ex_k 2 (P := none) (g := (cod m5_removeFerry 20, [some (.inl 2), some (.inr g), some (.inr (z + 1)), some (.inr 6)], [], (zr τ 5 (st1 (st0 (mv6 d z) z (z - 1)) z (z - 1))))) rfl trivial ?_
    exact ih (rst d z) (z + 1) (some (.inr 6)) (by omega) (by omega) (by rw [rst_107 (by omega)]; omega) (by rw [rst_107 (by omega)]; omega) (rst_bd hB (by omega))
theorem lp_remove_6 {g : Int} {τ : SZ} : ∀ (j : Nat) (d : Nat → Int) (z : Int) (o : Option VZ), 0 ≤ z → z ≤ 8 → z + (j : Int) = cel d 107 → cel d 107 ≤ 8 → Bd d → Ex 3 m5_removeFerry (cod m5_removeFerry 20, [some (.inl 3), some (.inr g), some (.inr z), o], [], (zr τ 6 d)) 0 (.inl (none, zr τ 6 (dec (rif j d z)))) := by
  intro j
  induction j with
  | zero =>
    intro d z o hz0 hz8 hzj hN hB
    refine ex_k 3 (P := none) (g := (cod m5_removeFerry 23, [some (.inl 3), some (.inr g), some (.inr z), o], [.inr 7, .inl 3, .inr z], (zr τ 6 d))) rfl trivial ?_
    refine ex_c (s_total (τ := (zr τ 6 d)) (w := 7) (Or.inr (Or.inr ⟨rfl, rfl⟩)) (by omega)) (is := cod m5_removeFerry 24) (L := [some (.inl 3), some (.inr g), some (.inr z), o]) (st := [.inr z]) rfl rfl rfl ?_
    show Ex _ _ (cod m5_removeFerry 24, [some (.inl 3), some (.inr g), some (.inr z), o], [.inr (cel d 107), .inr z], (zr τ 6 d)) _ _
    refine ex_b (P := (cel d 107) ≤ z) (ct := (cod m5_removeFerry 64, [some (.inl 3), some (.inr g), some (.inr z), o], [], (zr τ 6 d))) (cf := (cod m5_removeFerry 25, [some (.inl 3), some (.inr g), some (.inr z), o], [], (zr τ 6 d))) rfl ⟨⟨by omega, by omega⟩, ⟨by omega, by omega⟩⟩ (fun _ => ?_) (fun hh => absurd (by omega) hh)
    refine ex_k 3 (P := none) (g := (cod m5_removeFerry 67, [some (.inl 3), some (.inr g), some (.inr z), o], [.inr (-1), .inr 7, .inl 3], (zr τ 6 d))) rfl trivial ?_
    refine ex_c (s_addToTotal (τ := (zr τ 6 d)) (w := 7) (m := (-1)) (Or.inr (Or.inr ⟨rfl, rfl⟩)) (by omega)) (is := cod m5_removeFerry 68) (L := [some (.inl 3), some (.inr g), some (.inr z), o]) (st := []) rfl rfl rfl ?_
    show Ex _ _ (cod m5_removeFerry 68, [some (.inl 3), some (.inr g), some (.inr z), o], [], (zr (zr τ 6 d) 6 (sce d 107 (cel d 107 + (-1))))) _ _
    rw [zr_zr]
    exact ex_r rfl rfl rfl (rfl)
  | succ j ih =>
    intro d z o hz0 hz8 hzj hN hB
    have hbA := cel_bd (mv6_bd hB z) (0 + z * 6 + 1)
    have hbB := cel_bd (st0_bd (l := z) (v := z - 1) (mv6_bd hB z) (by omega)) (0 + z * 6 + 2)
    refine ex_k 3 (P := none) (g := (cod m5_removeFerry 23, [some (.inl 3), some (.inr g), some (.inr z), o], [.inr 7, .inl 3, .inr z], (zr τ 6 d))) rfl trivial ?_
    refine ex_c (s_total (τ := (zr τ 6 d)) (w := 7) (Or.inr (Or.inr ⟨rfl, rfl⟩)) (by omega)) (is := cod m5_removeFerry 24) (L := [some (.inl 3), some (.inr g), some (.inr z), o]) (st := [.inr z]) rfl rfl rfl ?_
    show Ex _ _ (cod m5_removeFerry 24, [some (.inl 3), some (.inr g), some (.inr z), o], [.inr (cel d 107), .inr z], (zr τ 6 d)) _ _
    refine ex_b (P := (cel d 107) ≤ z) (ct := (cod m5_removeFerry 64, [some (.inl 3), some (.inr g), some (.inr z), o], [], (zr τ 6 d))) (cf := (cod m5_removeFerry 25, [some (.inl 3), some (.inr g), some (.inr z), o], [], (zr τ 6 d))) rfl ⟨⟨by omega, by omega⟩, ⟨by omega, by omega⟩⟩ (fun hh => absurd hh (by omega)) (fun _ => ?_)
    refine ex_k 4 (P := none) (g := (cod m5_removeFerry 29, [some (.inl 3), some (.inr g), some (.inr z), some (.inr 0)], [.inr 6, .inr 0], (zr τ 6 d))) rfl trivial ?_
    refine ex_b (P := 6 ≤ 0) (ct := (cod m5_removeFerry 42, [some (.inl 3), some (.inr g), some (.inr z), some (.inr 0)], [], (zr τ 6 d))) (cf := (cod m5_removeFerry 30, [some (.inl 3), some (.inr g), some (.inr z), some (.inr 0)], [], (zr τ 6 d))) rfl ⟨⟨by decide, by decide⟩, ⟨by decide, by decide⟩⟩ (fun hh => absurd hh (by decide)) (fun _ => ?_)
    refine ex_k 8 (P := none) (g := (cod m5_removeFerry 38, [some (.inl 3), some (.inr g), some (.inr z), some (.inr 0)], [.inr 0, .inr z, .inl 3, .inr 0, .inr (z - 1), .inl 3], (zr τ 6 d))) rfl trivial ?_
    refine ex_c (s_number (τ := (zr τ 6 d)) (f := z) (w := 0) (Or.inr (Or.inr ⟨rfl, rfl⟩)) (by omega) (by omega)) (is := cod m5_removeFerry 39) (L := [some (.inl 3), some (.inr g), some (.inr z), some (.inr 0)]) (st := [.inr 0, .inr (z - 1), .inl 3]) rfl rfl rfl ?_
    show Ex _ _ (cod m5_removeFerry 39, [some (.inl 3), some (.inr g), some (.inr z), some (.inr 0)], [.inr (cel d (0 + z * 6 + 0)), .inr 0, .inr (z - 1), .inl 3], (zr τ 6 d)) _ _
    refine ex_c (s_setNumber (τ := (zr τ 6 d)) (f := z - 1) (w := 0) (v := cel d (0 + z * 6 + 0)) (Or.inr (Or.inr ⟨rfl, rfl⟩)) (by omega) (by omega)) (is := cod m5_removeFerry 40) (L := [some (.inl 3), some (.inr g), some (.inr z), some (.inr 0)]) (st := []) rfl rfl rfl ?_
    show Ex _ _ (cod m5_removeFerry 40, [some (.inl 3), some (.inr g), some (.inr z), some (.inr 0)], [], (zr (zr τ 6 d) 6 (mvn d z 0))) _ _
    rw [zr_zr]
    refine ex_k 4 (P := none) (g := (cod m5_removeFerry 29, [some (.inl 3), some (.inr g), some (.inr z), some (.inr 1)], [.inr 6, .inr 1], (zr τ 6 (mvn d z 0)))) rfl trivial ?_
    refine ex_b (P := 6 ≤ 1) (ct := (cod m5_removeFerry 42, [some (.inl 3), some (.inr g), some (.inr z), some (.inr 1)], [], (zr τ 6 (mvn d z 0)))) (cf := (cod m5_removeFerry 30, [some (.inl 3), some (.inr g), some (.inr z), some (.inr 1)], [], (zr τ 6 (mvn d z 0)))) rfl ⟨⟨by decide, by decide⟩, ⟨by decide, by decide⟩⟩ (fun hh => absurd hh (by decide)) (fun _ => ?_)
    refine ex_k 8 (P := none) (g := (cod m5_removeFerry 38, [some (.inl 3), some (.inr g), some (.inr z), some (.inr 1)], [.inr 1, .inr z, .inl 3, .inr 1, .inr (z - 1), .inl 3], (zr τ 6 (mvn d z 0)))) rfl trivial ?_
    refine ex_c (s_number (τ := (zr τ 6 (mvn d z 0))) (f := z) (w := 1) (Or.inr (Or.inr ⟨rfl, rfl⟩)) (by omega) (by omega)) (is := cod m5_removeFerry 39) (L := [some (.inl 3), some (.inr g), some (.inr z), some (.inr 1)]) (st := [.inr 1, .inr (z - 1), .inl 3]) rfl rfl rfl ?_
    show Ex _ _ (cod m5_removeFerry 39, [some (.inl 3), some (.inr g), some (.inr z), some (.inr 1)], [.inr (cel (mvn d z 0) (0 + z * 6 + 1)), .inr 1, .inr (z - 1), .inl 3], (zr τ 6 (mvn d z 0))) _ _
    refine ex_c (s_setNumber (τ := (zr τ 6 (mvn d z 0))) (f := z - 1) (w := 1) (v := cel (mvn d z 0) (0 + z * 6 + 1)) (Or.inr (Or.inr ⟨rfl, rfl⟩)) (by omega) (by omega)) (is := cod m5_removeFerry 40) (L := [some (.inl 3), some (.inr g), some (.inr z), some (.inr 1)]) (st := []) rfl rfl rfl ?_
    show Ex _ _ (cod m5_removeFerry 40, [some (.inl 3), some (.inr g), some (.inr z), some (.inr 1)], [], (zr (zr τ 6 (mvn d z 0)) 6 (mvn (mvn d z 0) z 1))) _ _
    rw [zr_zr]
    refine ex_k 4 (P := none) (g := (cod m5_removeFerry 29, [some (.inl 3), some (.inr g), some (.inr z), some (.inr 2)], [.inr 6, .inr 2], (zr τ 6 (mvn (mvn d z 0) z 1)))) rfl trivial ?_
    refine ex_b (P := 6 ≤ 2) (ct := (cod m5_removeFerry 42, [some (.inl 3), some (.inr g), some (.inr z), some (.inr 2)], [], (zr τ 6 (mvn (mvn d z 0) z 1)))) (cf := (cod m5_removeFerry 30, [some (.inl 3), some (.inr g), some (.inr z), some (.inr 2)], [], (zr τ 6 (mvn (mvn d z 0) z 1)))) rfl ⟨⟨by decide, by decide⟩, ⟨by decide, by decide⟩⟩ (fun hh => absurd hh (by decide)) (fun _ => ?_)
    refine ex_k 8 (P := none) (g := (cod m5_removeFerry 38, [some (.inl 3), some (.inr g), some (.inr z), some (.inr 2)], [.inr 2, .inr z, .inl 3, .inr 2, .inr (z - 1), .inl 3], (zr τ 6 (mvn (mvn d z 0) z 1)))) rfl trivial ?_
    refine ex_c (s_number (τ := (zr τ 6 (mvn (mvn d z 0) z 1))) (f := z) (w := 2) (Or.inr (Or.inr ⟨rfl, rfl⟩)) (by omega) (by omega)) (is := cod m5_removeFerry 39) (L := [some (.inl 3), some (.inr g), some (.inr z), some (.inr 2)]) (st := [.inr 2, .inr (z - 1), .inl 3]) rfl rfl rfl ?_
    show Ex _ _ (cod m5_removeFerry 39, [some (.inl 3), some (.inr g), some (.inr z), some (.inr 2)], [.inr (cel (mvn (mvn d z 0) z 1) (0 + z * 6 + 2)), .inr 2, .inr (z - 1), .inl 3], (zr τ 6 (mvn (mvn d z 0) z 1))) _ _
    refine ex_c (s_setNumber (τ := (zr τ 6 (mvn (mvn d z 0) z 1))) (f := z - 1) (w := 2) (v := cel (mvn (mvn d z 0) z 1) (0 + z * 6 + 2)) (Or.inr (Or.inr ⟨rfl, rfl⟩)) (by omega) (by omega)) (is := cod m5_removeFerry 40) (L := [some (.inl 3), some (.inr g), some (.inr z), some (.inr 2)]) (st := []) rfl rfl rfl ?_
    show Ex _ _ (cod m5_removeFerry 40, [some (.inl 3), some (.inr g), some (.inr z), some (.inr 2)], [], (zr (zr τ 6 (mvn (mvn d z 0) z 1)) 6 (mvn (mvn (mvn d z 0) z 1) z 2))) _ _
    rw [zr_zr]
    refine ex_k 4 (P := none) (g := (cod m5_removeFerry 29, [some (.inl 3), some (.inr g), some (.inr z), some (.inr 3)], [.inr 6, .inr 3], (zr τ 6 (mvn (mvn (mvn d z 0) z 1) z 2)))) rfl trivial ?_
    refine ex_b (P := 6 ≤ 3) (ct := (cod m5_removeFerry 42, [some (.inl 3), some (.inr g), some (.inr z), some (.inr 3)], [], (zr τ 6 (mvn (mvn (mvn d z 0) z 1) z 2)))) (cf := (cod m5_removeFerry 30, [some (.inl 3), some (.inr g), some (.inr z), some (.inr 3)], [], (zr τ 6 (mvn (mvn (mvn d z 0) z 1) z 2)))) rfl ⟨⟨by decide, by decide⟩, ⟨by decide, by decide⟩⟩ (fun hh => absurd hh (by decide)) (fun _ => ?_)
    refine ex_k 8 (P := none) (g := (cod m5_removeFerry 38, [some (.inl 3), some (.inr g), some (.inr z), some (.inr 3)], [.inr 3, .inr z, .inl 3, .inr 3, .inr (z - 1), .inl 3], (zr τ 6 (mvn (mvn (mvn d z 0) z 1) z 2)))) rfl trivial ?_
    refine ex_c (s_number (τ := (zr τ 6 (mvn (mvn (mvn d z 0) z 1) z 2))) (f := z) (w := 3) (Or.inr (Or.inr ⟨rfl, rfl⟩)) (by omega) (by omega)) (is := cod m5_removeFerry 39) (L := [some (.inl 3), some (.inr g), some (.inr z), some (.inr 3)]) (st := [.inr 3, .inr (z - 1), .inl 3]) rfl rfl rfl ?_
    show Ex _ _ (cod m5_removeFerry 39, [some (.inl 3), some (.inr g), some (.inr z), some (.inr 3)], [.inr (cel (mvn (mvn (mvn d z 0) z 1) z 2) (0 + z * 6 + 3)), .inr 3, .inr (z - 1), .inl 3], (zr τ 6 (mvn (mvn (mvn d z 0) z 1) z 2))) _ _
    refine ex_c (s_setNumber (τ := (zr τ 6 (mvn (mvn (mvn d z 0) z 1) z 2))) (f := z - 1) (w := 3) (v := cel (mvn (mvn (mvn d z 0) z 1) z 2) (0 + z * 6 + 3)) (Or.inr (Or.inr ⟨rfl, rfl⟩)) (by omega) (by omega)) (is := cod m5_removeFerry 40) (L := [some (.inl 3), some (.inr g), some (.inr z), some (.inr 3)]) (st := []) rfl rfl rfl ?_
    show Ex _ _ (cod m5_removeFerry 40, [some (.inl 3), some (.inr g), some (.inr z), some (.inr 3)], [], (zr (zr τ 6 (mvn (mvn (mvn d z 0) z 1) z 2)) 6 (mvn (mvn (mvn (mvn d z 0) z 1) z 2) z 3))) _ _
    rw [zr_zr]
    refine ex_k 4 (P := none) (g := (cod m5_removeFerry 29, [some (.inl 3), some (.inr g), some (.inr z), some (.inr 4)], [.inr 6, .inr 4], (zr τ 6 (mvn (mvn (mvn (mvn d z 0) z 1) z 2) z 3)))) rfl trivial ?_
    refine ex_b (P := 6 ≤ 4) (ct := (cod m5_removeFerry 42, [some (.inl 3), some (.inr g), some (.inr z), some (.inr 4)], [], (zr τ 6 (mvn (mvn (mvn (mvn d z 0) z 1) z 2) z 3)))) (cf := (cod m5_removeFerry 30, [some (.inl 3), some (.inr g), some (.inr z), some (.inr 4)], [], (zr τ 6 (mvn (mvn (mvn (mvn d z 0) z 1) z 2) z 3)))) rfl ⟨⟨by decide, by decide⟩, ⟨by decide, by decide⟩⟩ (fun hh => absurd hh (by decide)) (fun _ => ?_)
    refine ex_k 8 (P := none) (g := (cod m5_removeFerry 38, [some (.inl 3), some (.inr g), some (.inr z), some (.inr 4)], [.inr 4, .inr z, .inl 3, .inr 4, .inr (z - 1), .inl 3], (zr τ 6 (mvn (mvn (mvn (mvn d z 0) z 1) z 2) z 3)))) rfl trivial ?_
    refine ex_c (s_number (τ := (zr τ 6 (mvn (mvn (mvn (mvn d z 0) z 1) z 2) z 3))) (f := z) (w := 4) (Or.inr (Or.inr ⟨rfl, rfl⟩)) (by omega) (by omega)) (is := cod m5_removeFerry 39) (L := [some (.inl 3), some (.inr g), some (.inr z), some (.inr 4)]) (st := [.inr 4, .inr (z - 1), .inl 3]) rfl rfl rfl ?_
    show Ex _ _ (cod m5_removeFerry 39, [some (.inl 3), some (.inr g), some (.inr z), some (.inr 4)], [.inr (cel (mvn (mvn (mvn (mvn d z 0) z 1) z 2) z 3) (0 + z * 6 + 4)), .inr 4, .inr (z - 1), .inl 3], (zr τ 6 (mvn (mvn (mvn (mvn d z 0) z 1) z 2) z 3))) _ _
    refine ex_c (s_setNumber (τ := (zr τ 6 (mvn (mvn (mvn (mvn d z 0) z 1) z 2) z 3))) (f := z - 1) (w := 4) (v := cel (mvn (mvn (mvn (mvn d z 0) z 1) z 2) z 3) (0 + z * 6 + 4)) (Or.inr (Or.inr ⟨rfl, rfl⟩)) (by omega) (by omega)) (is := cod m5_removeFerry 40) (L := [some (.inl 3), some (.inr g), some (.inr z), some (.inr 4)]) (st := []) rfl rfl rfl ?_
    show Ex _ _ (cod m5_removeFerry 40, [some (.inl 3), some (.inr g), some (.inr z), some (.inr 4)], [], (zr (zr τ 6 (mvn (mvn (mvn (mvn d z 0) z 1) z 2) z 3)) 6 (mvn (mvn (mvn (mvn (mvn d z 0) z 1) z 2) z 3) z 4))) _ _
    rw [zr_zr]
    refine ex_k 4 (P := none) (g := (cod m5_removeFerry 29, [some (.inl 3), some (.inr g), some (.inr z), some (.inr 5)], [.inr 6, .inr 5], (zr τ 6 (mvn (mvn (mvn (mvn (mvn d z 0) z 1) z 2) z 3) z 4)))) rfl trivial ?_
    refine ex_b (P := 6 ≤ 5) (ct := (cod m5_removeFerry 42, [some (.inl 3), some (.inr g), some (.inr z), some (.inr 5)], [], (zr τ 6 (mvn (mvn (mvn (mvn (mvn d z 0) z 1) z 2) z 3) z 4)))) (cf := (cod m5_removeFerry 30, [some (.inl 3), some (.inr g), some (.inr z), some (.inr 5)], [], (zr τ 6 (mvn (mvn (mvn (mvn (mvn d z 0) z 1) z 2) z 3) z 4)))) rfl ⟨⟨by decide, by decide⟩, ⟨by decide, by decide⟩⟩ (fun hh => absurd hh (by decide)) (fun _ => ?_)
    refine ex_k 8 (P := none) (g := (cod m5_removeFerry 38, [some (.inl 3), some (.inr g), some (.inr z), some (.inr 5)], [.inr 5, .inr z, .inl 3, .inr 5, .inr (z - 1), .inl 3], (zr τ 6 (mvn (mvn (mvn (mvn (mvn d z 0) z 1) z 2) z 3) z 4)))) rfl trivial ?_
    refine ex_c (s_number (τ := (zr τ 6 (mvn (mvn (mvn (mvn (mvn d z 0) z 1) z 2) z 3) z 4))) (f := z) (w := 5) (Or.inr (Or.inr ⟨rfl, rfl⟩)) (by omega) (by omega)) (is := cod m5_removeFerry 39) (L := [some (.inl 3), some (.inr g), some (.inr z), some (.inr 5)]) (st := [.inr 5, .inr (z - 1), .inl 3]) rfl rfl rfl ?_
    show Ex _ _ (cod m5_removeFerry 39, [some (.inl 3), some (.inr g), some (.inr z), some (.inr 5)], [.inr (cel (mvn (mvn (mvn (mvn (mvn d z 0) z 1) z 2) z 3) z 4) (0 + z * 6 + 5)), .inr 5, .inr (z - 1), .inl 3], (zr τ 6 (mvn (mvn (mvn (mvn (mvn d z 0) z 1) z 2) z 3) z 4))) _ _
    refine ex_c (s_setNumber (τ := (zr τ 6 (mvn (mvn (mvn (mvn (mvn d z 0) z 1) z 2) z 3) z 4))) (f := z - 1) (w := 5) (v := cel (mvn (mvn (mvn (mvn (mvn d z 0) z 1) z 2) z 3) z 4) (0 + z * 6 + 5)) (Or.inr (Or.inr ⟨rfl, rfl⟩)) (by omega) (by omega)) (is := cod m5_removeFerry 40) (L := [some (.inl 3), some (.inr g), some (.inr z), some (.inr 5)]) (st := []) rfl rfl rfl ?_
    show Ex _ _ (cod m5_removeFerry 40, [some (.inl 3), some (.inr g), some (.inr z), some (.inr 5)], [], (zr (zr τ 6 (mvn (mvn (mvn (mvn (mvn d z 0) z 1) z 2) z 3) z 4)) 6 (mv6 d z))) _ _
    rw [zr_zr]
    refine ex_k 4 (P := none) (g := (cod m5_removeFerry 29, [some (.inl 3), some (.inr g), some (.inr z), some (.inr 6)], [.inr 6, .inr 6], (zr τ 6 (mv6 d z)))) rfl trivial ?_
    refine ex_b (P := 6 ≤ 6) (ct := (cod m5_removeFerry 42, [some (.inl 3), some (.inr g), some (.inr z), some (.inr 6)], [], (zr τ 6 (mv6 d z)))) (cf := (cod m5_removeFerry 30, [some (.inl 3), some (.inr g), some (.inr z), some (.inr 6)], [], (zr τ 6 (mv6 d z)))) rfl ⟨⟨by decide, by decide⟩, ⟨by decide, by decide⟩⟩ (fun _ => ?_) (fun hh => absurd (by decide) hh)
    refine ex_k 5 (P := none) (g := (cod m5_removeFerry 47, [some (.inl 3), some (.inr g), some (.inr z), some (.inr 6)], [.inr 1, .inr z, .inl 3, .inr 0, .inl 3], (zr τ 6 (mv6 d z)))) rfl trivial ?_
    refine ex_c (s_number (τ := (zr τ 6 (mv6 d z))) (f := z) (w := 1) (Or.inr (Or.inr ⟨rfl, rfl⟩)) (by omega) (by omega)) (is := cod m5_removeFerry 48) (L := [some (.inl 3), some (.inr g), some (.inr z), some (.inr 6)]) (st := [.inr 0, .inl 3]) rfl rfl rfl ?_
    show Ex _ _ (cod m5_removeFerry 48, [some (.inl 3), some (.inr g), some (.inr z), some (.inr 6)], [.inr (cel (mv6 d z) (0 + z * 6 + 1)), .inr 0, .inl 3], (zr τ 6 (mv6 d z))) _ _
    refine ex_k 3 (P := none) (g := (cod m5_removeFerry 51, [some (.inl 3), some (.inr g), some (.inr z), some (.inr 6)], [.inr (z - 1), .inr (cel (mv6 d z) (0 + z * 6 + 1)), .inr 0, .inl 3], (zr τ 6 (mv6 d z)))) rfl trivial ?_
    refine ex_c (s_setWho (τ := (zr τ 6 (mv6 d z))) (r := 0) (p := cel (mv6 d z) (0 + z * 6 + 1)) (v := z - 1) (Or.inr (Or.inr ⟨rfl, rfl⟩)) (by omega) ⟨by omega, by omega⟩) (is := cod m5_removeFerry 52) (L := [some (.inl 3), some (.inr g), some (.inr z), some (.inr 6)]) (st := []) rfl rfl rfl ?_
    show Ex _ _ (cod m5_removeFerry 52, [some (.inl 3), some (.inr g), some (.inr z), some (.inr 6)], [], (zr (zr τ 6 (mv6 d z)) 6 (st0 (mv6 d z) z (z - 1)))) _ _
    rw [zr_zr]
    refine ex_k 5 (P := none) (g := (cod m5_removeFerry 57, [some (.inl 3), some (.inr g), some (.inr z), some (.inr 6)], [.inr 2, .inr z, .inl 3, .inr 1, .inl 3], (zr τ 6 (st0 (mv6 d z) z (z - 1))))) rfl trivial ?_
    refine ex_c (s_number (τ := (zr τ 6 (st0 (mv6 d z) z (z - 1)))) (f := z) (w := 2) (Or.inr (Or.inr ⟨rfl, rfl⟩)) (by omega) (by omega)) (is := cod m5_removeFerry 58) (L := [some (.inl 3), some (.inr g), some (.inr z), some (.inr 6)]) (st := [.inr 1, .inl 3]) rfl rfl rfl ?_
    show Ex _ _ (cod m5_removeFerry 58, [some (.inl 3), some (.inr g), some (.inr z), some (.inr 6)], [.inr (cel (st0 (mv6 d z) z (z - 1)) (0 + z * 6 + 2)), .inr 1, .inl 3], (zr τ 6 (st0 (mv6 d z) z (z - 1)))) _ _
    refine ex_k 3 (P := none) (g := (cod m5_removeFerry 61, [some (.inl 3), some (.inr g), some (.inr z), some (.inr 6)], [.inr (z - 1), .inr (cel (st0 (mv6 d z) z (z - 1)) (0 + z * 6 + 2)), .inr 1, .inl 3], (zr τ 6 (st0 (mv6 d z) z (z - 1))))) rfl trivial ?_
    refine ex_c (s_setWho (τ := (zr τ 6 (st0 (mv6 d z) z (z - 1)))) (r := 1) (p := cel (st0 (mv6 d z) z (z - 1)) (0 + z * 6 + 2)) (v := z - 1) (Or.inr (Or.inr ⟨rfl, rfl⟩)) (by omega) ⟨by omega, by omega⟩) (is := cod m5_removeFerry 62) (L := [some (.inl 3), some (.inr g), some (.inr z), some (.inr 6)]) (st := []) rfl rfl rfl ?_
    show Ex _ _ (cod m5_removeFerry 62, [some (.inl 3), some (.inr g), some (.inr z), some (.inr 6)], [], (zr (zr τ 6 (st0 (mv6 d z) z (z - 1))) 6 (st1 (st0 (mv6 d z) z (z - 1)) z (z - 1)))) _ _
    rw [zr_zr]
    refine ex_k 2 (P := none) (g := (cod m5_removeFerry 20, [some (.inl 3), some (.inr g), some (.inr (z + 1)), some (.inr 6)], [], (zr τ 6 (st1 (st0 (mv6 d z) z (z - 1)) z (z - 1))))) rfl trivial ?_
    exact ih (rst d z) (z + 1) (some (.inr 6)) (by omega) (by omega) (by rw [rst_107 (by omega)]; omega) (by rw [rst_107 (by omega)]; omega) (rst_bd hB (by omega))
theorem s_removeFerry {ρ a : Nat} {g : Int} {τ : SZ} (hρ : RA ρ a) (hg : 0 ≤ g ∧ g < cel (τ a) 107) (hN : cel (τ a) 107 ≤ 8) (hB : Bd (τ a)) : RZ 4 m5_removeFerry [.inl ρ, .inr g] τ (.inl (none, zr τ a (rmv (τ a) g))) := by
  have hb1 := cel_bd hB (0 + g * 6 + 1)
  have hB1 := st0_bd (l := g) (v := -1) hB (by omega)
  have hb2 := cel_bd hB1 (0 + g * 6 + 2)
  have hB2 := st1_bd (l := g) (v := -1) hB1 (by omega)
  have e : cel (st1 (st0 (τ a) g (-1)) g (-1)) 107 = cel (τ a) 107 := by unfold st1 st0; rw [swh_107 (by omega), swh_107 (by omega)]
  rcases hρ with ⟨rfl, rfl⟩ | ⟨rfl, rfl⟩ | ⟨rfl, rfl⟩
  · refine Ex.call ?_ rfl rfl
    show Ex _ _ (cod m5_removeFerry 0, [some (.inl 1), some (.inr g), none, none], [], τ) _ _
    refine ex_k 5 (P := none) (g := (cod m5_removeFerry 5, [some (.inl 1), some (.inr g), none, none], [.inr 1, .inr g, .inl 1, .inr 0, .inl 1], τ)) rfl trivial ?_
    refine ex_c (s_number (τ := τ) (f := g) (w := 1) (Or.inl ⟨rfl, rfl⟩) (by omega) (by omega)) (is := cod m5_removeFerry 6) (L := [some (.inl 1), some (.inr g), none, none]) (st := [.inr 0, .inl 1]) rfl rfl rfl ?_
    show Ex _ _ (cod m5_removeFerry 6, [some (.inl 1), some (.inr g), none, none], [.inr (cel (τ 4) (0 + g * 6 + 1)), .inr 0, .inl 1], τ) _ _
    refine ex_k 1 (P := none) (g := (cod m5_removeFerry 7, [some (.inl 1), some (.inr g), none, none], [.inr (-1), .inr (cel (τ 4) (0 + g * 6 + 1)), .inr 0, .inl 1], τ)) rfl trivial ?_
    refine ex_c (s_setWho (τ := τ) (r := 0) (p := cel (τ 4) (0 + g * 6 + 1)) (v := (-1)) (Or.inl ⟨rfl, rfl⟩) (by omega) ⟨by omega, by omega⟩) (is := cod m5_removeFerry 8) (L := [some (.inl 1), some (.inr g), none, none]) (st := []) rfl rfl rfl ?_
    show Ex _ _ (cod m5_removeFerry 8, [some (.inl 1), some (.inr g), none, none], [], (zr τ 4 (st0 (τ 4) g (-1)))) _ _
    refine ex_k 5 (P := none) (g := (cod m5_removeFerry 13, [some (.inl 1), some (.inr g), none, none], [.inr 2, .inr g, .inl 1, .inr 1, .inl 1], (zr τ 4 (st0 (τ 4) g (-1))))) rfl trivial ?_
    refine ex_c (s_number (τ := (zr τ 4 (st0 (τ 4) g (-1)))) (f := g) (w := 2) (Or.inl ⟨rfl, rfl⟩) (by omega) (by omega)) (is := cod m5_removeFerry 14) (L := [some (.inl 1), some (.inr g), none, none]) (st := [.inr 1, .inl 1]) rfl rfl rfl ?_
    show Ex _ _ (cod m5_removeFerry 14, [some (.inl 1), some (.inr g), none, none], [.inr (cel (st0 (τ 4) g (-1)) (0 + g * 6 + 2)), .inr 1, .inl 1], (zr τ 4 (st0 (τ 4) g (-1)))) _ _
    refine ex_k 1 (P := none) (g := (cod m5_removeFerry 15, [some (.inl 1), some (.inr g), none, none], [.inr (-1), .inr (cel (st0 (τ 4) g (-1)) (0 + g * 6 + 2)), .inr 1, .inl 1], (zr τ 4 (st0 (τ 4) g (-1))))) rfl trivial ?_
    refine ex_c (s_setWho (τ := (zr τ 4 (st0 (τ 4) g (-1)))) (r := 1) (p := cel (st0 (τ 4) g (-1)) (0 + g * 6 + 2)) (v := (-1)) (Or.inl ⟨rfl, rfl⟩) (by omega) ⟨by omega, by omega⟩) (is := cod m5_removeFerry 16) (L := [some (.inl 1), some (.inr g), none, none]) (st := []) rfl rfl rfl ?_
    show Ex _ _ (cod m5_removeFerry 16, [some (.inl 1), some (.inr g), none, none], [], (zr (zr τ 4 (st0 (τ 4) g (-1))) 4 (st1 (st0 (τ 4) g (-1)) g (-1)))) _ _
    rw [zr_zr]
    refine ex_k 4 (P := none) (g := (cod m5_removeFerry 20, [some (.inl 1), some (.inr g), some (.inr (g + 1)), none], [], (zr τ 4 (st1 (st0 (τ 4) g (-1)) g (-1))))) rfl trivial ?_
    exact lp_remove_4 _ _ (g + 1) none (by omega) (by omega) (by rw [e]; omega) (by rw [e]; omega) hB2
  · refine Ex.call ?_ rfl rfl
    show Ex _ _ (cod m5_removeFerry 0, [some (.inl 2), some (.inr g), none, none], [], τ) _ _
    refine ex_k 5 (P := none) (g := (cod m5_removeFerry 5, [some (.inl 2), some (.inr g), none, none], [.inr 1, .inr g, .inl 2, .inr 0, .inl 2], τ)) rfl trivial ?_
    refine ex_c (s_number (τ := τ) (f := g) (w := 1) (Or.inr (Or.inl ⟨rfl, rfl⟩)) (by omega) (by omega)) (is := cod m5_removeFerry 6) (L := [some (.inl 2), some (.inr g), none, none]) (st := [.inr 0, .inl 2]) rfl rfl rfl ?_
    show Ex _ _ (cod m5_removeFerry 6, [some (.inl 2), some (.inr g), none, none], [.inr (cel (τ 5) (0 + g * 6 + 1)), .inr 0, .inl 2], τ) _ _
    refine ex_k 1 (P := none) (g := (cod m5_removeFerry 7, [some (.inl 2), some (.inr g), none, none], [.inr (-1), .inr (cel (τ 5) (0 + g * 6 + 1)), .inr 0, .inl 2], τ)) rfl trivial ?_
    refine ex_c (s_setWho (τ := τ) (r := 0) (p := cel (τ 5) (0 + g * 6 + 1)) (v := (-1)) (Or.inr (Or.inl ⟨rfl, rfl⟩)) (by omega) ⟨by omega, by omega⟩) (is := cod m5_removeFerry 8) (L := [some (.inl 2), some (.inr g), none, none]) (st := []) rfl rfl rfl ?_
    show Ex _ _ (cod m5_removeFerry 8, [some (.inl 2), some (.inr g), none, none], [], (zr τ 5 (st0 (τ 5) g (-1)))) _ _
    refine ex_k 5 (P := none) (g := (cod m5_removeFerry 13, [some (.inl 2), some (.inr g), none, none], [.inr 2, .inr g, .inl 2, .inr 1, .inl 2], (zr τ 5 (st0 (τ 5) g (-1))))) rfl trivial ?_
    refine ex_c (s_number (τ := (zr τ 5 (st0 (τ 5) g (-1)))) (f := g) (w := 2) (Or.inr (Or.inl ⟨rfl, rfl⟩)) (by omega) (by omega)) (is := cod m5_removeFerry 14) (L := [some (.inl 2), some (.inr g), none, none]) (st := [.inr 1, .inl 2]) rfl rfl rfl ?_
    show Ex _ _ (cod m5_removeFerry 14, [some (.inl 2), some (.inr g), none, none], [.inr (cel (st0 (τ 5) g (-1)) (0 + g * 6 + 2)), .inr 1, .inl 2], (zr τ 5 (st0 (τ 5) g (-1)))) _ _
    refine ex_k 1 (P := none) (g := (cod m5_removeFerry 15, [some (.inl 2), some (.inr g), none, none], [.inr (-1), .inr (cel (st0 (τ 5) g (-1)) (0 + g * 6 + 2)), .inr 1, .inl 2], (zr τ 5 (st0 (τ 5) g (-1))))) rfl trivial ?_
    refine ex_c (s_setWho (τ := (zr τ 5 (st0 (τ 5) g (-1)))) (r := 1) (p := cel (st0 (τ 5) g (-1)) (0 + g * 6 + 2)) (v := (-1)) (Or.inr (Or.inl ⟨rfl, rfl⟩)) (by omega) ⟨by omega, by omega⟩) (is := cod m5_removeFerry 16) (L := [some (.inl 2), some (.inr g), none, none]) (st := []) rfl rfl rfl ?_
    show Ex _ _ (cod m5_removeFerry 16, [some (.inl 2), some (.inr g), none, none], [], (zr (zr τ 5 (st0 (τ 5) g (-1))) 5 (st1 (st0 (τ 5) g (-1)) g (-1)))) _ _
    rw [zr_zr]
    refine ex_k 4 (P := none) (g := (cod m5_removeFerry 20, [some (.inl 2), some (.inr g), some (.inr (g + 1)), none], [], (zr τ 5 (st1 (st0 (τ 5) g (-1)) g (-1))))) rfl trivial ?_
    exact lp_remove_5 _ _ (g + 1) none (by omega) (by omega) (by rw [e]; omega) (by rw [e]; omega) hB2
  · refine Ex.call ?_ rfl rfl
    show Ex _ _ (cod m5_removeFerry 0, [some (.inl 3), some (.inr g), none, none], [], τ) _ _
    refine ex_k 5 (P := none) (g := (cod m5_removeFerry 5, [some (.inl 3), some (.inr g), none, none], [.inr 1, .inr g, .inl 3, .inr 0, .inl 3], τ)) rfl trivial ?_
    refine ex_c (s_number (τ := τ) (f := g) (w := 1) (Or.inr (Or.inr ⟨rfl, rfl⟩)) (by omega) (by omega)) (is := cod m5_removeFerry 6) (L := [some (.inl 3), some (.inr g), none, none]) (st := [.inr 0, .inl 3]) rfl rfl rfl ?_
    show Ex _ _ (cod m5_removeFerry 6, [some (.inl 3), some (.inr g), none, none], [.inr (cel (τ 6) (0 + g * 6 + 1)), .inr 0, .inl 3], τ) _ _
    refine ex_k 1 (P := none) (g := (cod m5_removeFerry 7, [some (.inl 3), some (.inr g), none, none], [.inr (-1), .inr (cel (τ 6) (0 + g * 6 + 1)), .inr 0, .inl 3], τ)) rfl trivial ?_
    refine ex_c (s_setWho (τ := τ) (r := 0) (p := cel (τ 6) (0 + g * 6 + 1)) (v := (-1)) (Or.inr (Or.inr ⟨rfl, rfl⟩)) (by omega) ⟨by omega, by omega⟩) (is := cod m5_removeFerry 8) (L := [some (.inl 3), some (.inr g), none, none]) (st := []) rfl rfl rfl ?_
    show Ex _ _ (cod m5_removeFerry 8, [some (.inl 3), some (.inr g), none, none], [], (zr τ 6 (st0 (τ 6) g (-1)))) _ _
    refine ex_k 5 (P := none) (g := (cod m5_removeFerry 13, [some (.inl 3), some (.inr g), none, none], [.inr 2, .inr g, .inl 3, .inr 1, .inl 3], (zr τ 6 (st0 (τ 6) g (-1))))) rfl trivial ?_
    refine ex_c (s_number (τ := (zr τ 6 (st0 (τ 6) g (-1)))) (f := g) (w := 2) (Or.inr (Or.inr ⟨rfl, rfl⟩)) (by omega) (by omega)) (is := cod m5_removeFerry 14) (L := [some (.inl 3), some (.inr g), none, none]) (st := [.inr 1, .inl 3]) rfl rfl rfl ?_
    show Ex _ _ (cod m5_removeFerry 14, [some (.inl 3), some (.inr g), none, none], [.inr (cel (st0 (τ 6) g (-1)) (0 + g * 6 + 2)), .inr 1, .inl 3], (zr τ 6 (st0 (τ 6) g (-1)))) _ _
    refine ex_k 1 (P := none) (g := (cod m5_removeFerry 15, [some (.inl 3), some (.inr g), none, none], [.inr (-1), .inr (cel (st0 (τ 6) g (-1)) (0 + g * 6 + 2)), .inr 1, .inl 3], (zr τ 6 (st0 (τ 6) g (-1))))) rfl trivial ?_
    refine ex_c (s_setWho (τ := (zr τ 6 (st0 (τ 6) g (-1)))) (r := 1) (p := cel (st0 (τ 6) g (-1)) (0 + g * 6 + 2)) (v := (-1)) (Or.inr (Or.inr ⟨rfl, rfl⟩)) (by omega) ⟨by omega, by omega⟩) (is := cod m5_removeFerry 16) (L := [some (.inl 3), some (.inr g), none, none]) (st := []) rfl rfl rfl ?_
    show Ex _ _ (cod m5_removeFerry 16, [some (.inl 3), some (.inr g), none, none], [], (zr (zr τ 6 (st0 (τ 6) g (-1))) 6 (st1 (st0 (τ 6) g (-1)) g (-1)))) _ _
    rw [zr_zr]
    refine ex_k 4 (P := none) (g := (cod m5_removeFerry 20, [some (.inl 3), some (.inr g), some (.inr (g + 1)), none], [], (zr τ 6 (st1 (st0 (τ 6) g (-1)) g (-1))))) rfl trivial ?_
    exact lp_remove_6 _ _ (g + 1) none (by omega) (by omega) (by rw [e]; omega) (by rw [e]; omega) hB2
end RIV4
