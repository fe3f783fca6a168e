/-! append and run: printed by wip/whole/db16.py -/
section RUN
theorem zu_self {f : Nat → Int} {i : Nat} : zu f i (f i) = f := by
  funext k
  unfold zu
  by_cases h : k = i <;> simp [h]
/-- the text behind an append -/
def tad (τ : SZ) (c : Int) : SZ := zr (zr τ 17 (zu (τ 17) (τ 16 1).toNat c)) 16 (zu (τ 16) 1 (τ 16 1 + 1))
theorem t_add {c : Int} {τ : SZ} (hc : 0 ≤ c ∧ c < 65536) (hT : Tx τ) (hl : τ 16 1 < 60) : RZ 1 m6_add [.inl 16, .inr c] τ (.inl (some (.inr (τ 16 1 + 1)), tad τ c)) := by
  have hT1 := hT.1
  refine Ex.call ?_ rfl rfl
  show Ex _ _ (cod m6_add 0, [some (.inl 16), some (.inr c)], [], τ) _ _
  refine ex_k 2 (P := none) (g := (cod m6_add 2, [some (.inl 16), some (.inr c)], [.inr ((τ 16) 1)], τ)) rfl trivial ?_
  refine ex_b (P := ((τ 16) 1) < 0) (ct := (cod m6_add 21, [some (.inl 16), some (.inr c)], [], τ)) (cf := (cod m6_add 3, [some (.inl 16), some (.inr c)], [], τ)) rfl ⟨by omega, by omega⟩ (fun h1 => ?_) (fun h1 => ?_)
  · first
    | (exfalso; omega)
    | (
        refine ex_k 2 (P := none) (g := (cod m6_add 23, [some (.inl 16), some (.inr c)], [.inr ((τ 16) 1)], τ)) rfl trivial ?_
        exact ex_r rfl trivial rfl (rfl))
  · first
    | (exfalso; omega)
    | (
        refine ex_k 5 (P := none) (g := (cod m6_add 8, [some (.inl 16), some (.inr c)], [.inr 60, .inr ((τ 16) 1)], τ)) rfl trivial ?_
        refine ex_b (P := 60 ≤ ((τ 16) 1)) (ct := (cod m6_add 21, [some (.inl 16), some (.inr c)], [], τ)) (cf := (cod m6_add 9, [some (.inl 16), some (.inr c)], [], τ)) rfl ⟨⟨by omega, by omega⟩, ⟨by decide, by decide⟩⟩ (fun h2 => ?_) (fun h2 => ?_)
        · first
          | (exfalso; omega)
          | (
              refine ex_k 2 (P := none) (g := (cod m6_add 23, [some (.inl 16), some (.inr c)], [.inr ((τ 16) 1)], τ)) rfl trivial ?_
              exact ex_r rfl trivial rfl (rfl))
        · first
          | (exfalso; omega)
          | (
              refine ex_k 6 (P := some ((0 ≤ ((τ 16) 1) ∧ ((τ 16) 1) < ((60 : Nat) : Int)) ∧ (1 = 1 → 0 ≤ c ∧ c < 65536))) (g := (cod m6_add 15, [some (.inl 16), some (.inr c)], [], (zr τ 17 (zu (τ 17) ((τ 16) 1).toNat c)))) rfl (by show (0 ≤ ((τ 16) 1) ∧ ((τ 16) 1) < ((60 : Nat) : Int)) ∧ (1 = 1 → 0 ≤ c ∧ c < 65536); omega) ?_
              refine ex_k 6 (P := none) (g := (cod m6_add 21, [some (.inl 16), some (.inr c)], [], (zr (zr τ 17 (zu (τ 17) ((τ 16) 1).toNat c)) 16 (zu (τ 16) 1 (((τ 16) 1) + 1))))) rfl trivial ?_
              refine ex_k 2 (P := none) (g := (cod m6_add 23, [some (.inl 16), some (.inr c)], [.inr (((τ 16) 1) + 1)], (zr (zr τ 17 (zu (τ 17) ((τ 16) 1).toNat c)) 16 (zu (τ 16) 1 (((τ 16) 1) + 1))))) rfl trivial ?_
              exact ex_r rfl trivial rfl (rfl)))
theorem c_append {c : Int} {τ : SZ} (hc : 0 ≤ c ∧ c < 65536) (hT : Tx τ) : RZ 4 m7_append [.inl 0, .inr c] τ (if τ 16 1 = 60 then .inr ("java/lang/IllegalStateException", τ) else .inl (some (.inr (τ 16 1 + 1)), tad τ c)) := by
  have hT1 := hT.1
  refine Ex.call ?_ rfl rfl
  show Ex _ _ (cod m7_append 0, [some (.inl 0), some (.inr c)], [], τ) _ _
  refine ex_k 4 (P := none) (g := (cod m7_append 4, [some (.inl 0), some (.inr c)], [.inr 60, .inr ((τ 16) 1)], τ)) rfl trivial ?_
  refine ex_b (P := ¬ ((τ 16) 1) = 60) (ct := (cod m7_append 9, [some (.inl 0), some (.inr c)], [], τ)) (cf := (cod m7_append 5, [some (.inl 0), some (.inr c)], [], τ)) rfl ⟨⟨by omega, by omega⟩, ⟨by decide, by decide⟩⟩ (fun h1 => ?_) (fun h1 => ?_)
  · first
    | (exfalso; omega)
    | (
        refine ex_k 3 (P := none) (g := (cod m7_append 12, [some (.inl 0), some (.inr c)], [.inr c, .inl 16], τ)) rfl trivial ?_
        refine ex_c (t_add (τ := τ) (c := c) hc hT (by omega)) (is := cod m7_append 13) (L := [some (.inl 0), some (.inr c)]) (st := []) rfl rfl rfl ?_
        show Ex _ _ (cod m7_append 13, [some (.inl 0), some (.inr c)], [.inr ((τ 16) 1 + 1)], tad τ c) _ _
        exact ex_r rfl trivial rfl ((by (repeat (first | rw [if_pos (by omega)] | rw [if_neg (by omega)])); first | done | rfl)))
  · first
    | (exfalso; omega)
    | (
        exact ex_t rfl rfl ((by (repeat (first | rw [if_pos (by omega)] | rw [if_neg (by omega)])); first | done | rfl)))
theorem t_readOrders {τ : SZ} (hT : Tx τ) : RZ 6 m6_readOrders [.inl 16] τ (.inl (some (.inr (rdo (τ 16 1) (τ 17) (τ 18)).1), rdt τ (rdo (τ 16 1) (τ 17) (τ 18)))) := by
  have hT1 := hT.1
  refine Ex.call ?_ rfl rfl
  show Ex _ _ (cod m6_readOrders 0, [some (.inl 16), none, none, none], [], τ) _ _
  refine ex_k 5 (P := none) (g := (cod m6_readOrders 5, [some (.inl 16), some (.inr 0), none, none], [], (zr τ 16 (zu (τ 16) 3 0)))) rfl trivial ?_
  refine ex_k 2 (P := none) (g := (cod m6_readOrders 7, [some (.inl 16), some (.inr 0), some (.inr 0), none], [], (zr τ 16 (zu (τ 16) 3 0)))) rfl trivial ?_
  have q := lp_orders (τ := τ) hT 13 0 0 (τ 16 4) (τ 18) none (by decide) (by decide) (by decide) hT1.1
  rw [zr_self, show zu (zu (τ 16) 3 0) 4 (τ 16 4) = zu (τ 16) 3 0 from zu_self (f := zu (τ 16) 3 0) (i := 4)] at q
  exact q
/-- the text is read and is empty then -/
def rns (τ : SZ) : SZ := zr (rdt τ (rdo (τ 16 1) (τ 17) (τ 18))) 16 (zu (rdt τ (rdo (τ 16 1) (τ 17) (τ 18)) 16) 1 0)
abbrev odw (od : Nat → Int) (i : Nat) (c : Int) : Int := od ((i : Int) * 4 + c).toNat
def rnl (od : Nat → Int) : Nat → Nat → (Nat → Int) → Int × Nat × (Nat → Int)
  | 0, i, d => (0, i, d)
  | j + 1, i, d => if obW d (odw od i 0) (odw od i 1) (odw od i 2) (odw od i 3) = 3 then (3, i, d) else
    if ¬ obW d (odw od i 0) (odw od i 1) (odw od i 2) (odw od i 3) = 0 then (1, i, d) else rnl od j (i + 1) (cao d (odw od i 0) (odw od i 1) (odw od i 2) (odw od i 3))
def rnr (σ : SZ) (od : Nat → Int) (x : Int × Nat × (Nat → Int)) (M : Int) : RSZ :=
  if x.1 = 3 then .inr ("java/lang/UnsupportedOperationException", rpa (rsW (zr σ 5 x.2.2) x.2.2 (odw od x.2.1 0) (odw od x.2.1 1) (odw od x.2.1 2) (odw od x.2.1 3)) 6 (x.2.1 : Int)) else
  if x.1 = 1 then .inr ("java/lang/IllegalArgumentException", zr σ 5 x.2.2) else .inl (some (.inr M), zr (hkp (zr σ 5 x.2.2)) 4 x.2.2)
theorem obW_in {c : Nat → Int} {w x y z : Int} : obW c w x y z = 0 ∨ obW c w x y z = 1 ∨ obW c w x y z = 2 ∨ obW c w x y z = 3 := by
  have h1 := @obF_in c x y z
  have h2 := @obT_in c x y
  have h3 := @obL_in c x y z
  have h4 := @obG_in c x y z
  have h5 := @obM_in c x y (if z = 1 then 1 else -1)
  have h6 := @obP_in c
  unfold obW
  repeat (first | omega | split)
theorem rsW_cnt {τ : SZ} {c : Nat → Int} {w x y z : Int} : 0 ≤ rsW τ c w x y z 9 2 ∧ rsW τ c w x y z 9 2 ≤ 3 := by
  unfold rsW
  split
  · exact ⟨show (0 : Int) ≤ 1 by decide, show (1 : Int) ≤ 3 by decide⟩
  · split
    · exact ⟨show (0 : Int) ≤ 1 by decide, show (1 : Int) ≤ 3 by decide⟩
    · split
      · exact ⟨show (0 : Int) ≤ 1 by decide, show (1 : Int) ≤ 3 by decide⟩
      · split
        · exact ⟨show (0 : Int) ≤ 1 by decide, show (1 : Int) ≤ 3 by decide⟩
        · split
          · exact ⟨show (0 : Int) ≤ 2 by decide, show (2 : Int) ≤ 3 by decide⟩
          · exact ⟨show (0 : Int) ≤ 1 by decide, show (1 : Int) ≤ 3 by decide⟩
theorem lp_run {q1 : Int} {τ : SZ} {od : Nat → Int} {M : Nat} {B : Int} (hB : B + 7 * (M : Int) + 7 ≤ 100000000) (hM : rns τ 16 3 = (M : Int)) (hM13 : M ≤ 13) (hod : rns τ 18 = od) (hog : Og od) (hol : ∀ i : Nat, i < M → 0 ≤ odw od i 0 ∧ odw od i 0 ≤ 5) (hT4 : Tz (τ 4)) (hx : 0 ≤ τ 14 1 ∧ τ 14 1 < 8) (hc : 0 ≤ τ 14 2 ∧ τ 14 2 ≤ 8) : ∀ (j k : Nat), k + j = M → ∀ (d : Nat → Int) (o3 o4 o5 o6 o7 : Option VZ), Iv (B + 7 * (k : Int)) d → Ex 8 m7_run (cod m7_run 21, [some (.inl 0), some (.inr q1), some (.inr (k : Int)), o3, o4, o5, o6, o7], [], (zr (rns τ) 5 d)) 0 (rnr (rns τ) od (rnl od j k d) (M : Int)) := by
  subst hod
  intro j
  induction j with
  | zero =>
    intro k hk d o3 o4 o5 o6 o7 hI
    have hT5 := hI.1.tz
    have hM0 : rns τ 16 3 = (M : Int) := hM
    refine ex_k 4 (P := none) (g := (cod m7_run 25, [some (.inl 0), some (.inr q1), some (.inr (k : Int)), o3, o4, o5, o6, o7], [.inr (((rns τ) 16) 3), .inr (k : Int)], (zr (rns τ) 5 d))) rfl trivial ?_
    refine ex_b (P := (((rns τ) 16) 3) ≤ (k : Int)) (ct := (cod m7_run 85, [some (.inl 0), some (.inr q1), some (.inr (k : Int)), o3, o4, o5, o6, o7], [], (zr (rns τ) 5 d))) (cf := (cod m7_run 26, [some (.inl 0), some (.inr q1), some (.inr (k : Int)), o3, o4, o5, o6, o7], [], (zr (rns τ) 5 d))) rfl ⟨⟨by omega, by omega⟩, ⟨by omega, by omega⟩⟩ (fun _ => ?_) (fun hh => absurd (by omega) hh)
    refine ex_k 4 (P := none) (g := (cod m7_run 89, [some (.inl 0), some (.inr q1), some (.inr (k : Int)), o3, o4, o5, o6, o7], [.inl 1, .inl 14], (zr (rns τ) 5 d))) rfl trivial ?_
    refine ex_c (s_keepH (τ := (zr (rns τ) 5 d)) hx hc) (is := cod m7_run 90) (L := [some (.inl 0), some (.inr q1), some (.inr (k : Int)), o3, o4, o5, o6, o7]) (st := []) rfl rfl rfl ?_
    show Ex _ _ (cod m7_run 90, [some (.inl 0), some (.inr q1), some (.inr (k : Int)), o3, o4, o5, o6, o7], [], hkp (zr (rns τ) 5 d)) _ _
    refine ex_k 4 (P := none) (g := (cod m7_run 94, [some (.inl 0), some (.inr q1), some (.inr (k : Int)), o3, o4, o5, o6, o7], [.inl 2, .inl 1], hkp (zr (rns τ) 5 d))) rfl trivial ?_
    refine ex_c (s_take12 (τ := hkp (zr (rns τ) 5 d)) hT4 hT5) (is := cod m7_run 95) (L := [some (.inl 0), some (.inr q1), some (.inr (k : Int)), o3, o4, o5, o6, o7]) (st := []) rfl rfl rfl ?_
    show Ex _ _ (cod m7_run 95, [some (.inl 0), some (.inr q1), some (.inr (k : Int)), o3, o4, o5, o6, o7], [], (zr (hkp (zr (rns τ) 5 d)) 4 d)) _ _
    refine ex_k 3 (P := none) (g := (cod m7_run 98, [some (.inl 0), some (.inr q1), some (.inr (k : Int)), o3, o4, o5, o6, o7], [.inr (((rns τ) 16) 3)], (zr (hkp (zr (rns τ) 5 d)) 4 d))) rfl trivial ?_
    exact ex_r rfl trivial rfl ((show rnr (rns τ) (rns τ 18) (0, k, d) (M : Int) = _ from by rw [← hM]; rfl))
  | succ j ih =>
    intro k hk d o3 o4 o5 o6 o7 hI
    have hT5 := hI.1.tz
    have hM0 : rns τ 16 3 = (M : Int) := hM
    have hw : 0 ≤ ((rns τ 18) ((k : Int) * 4 + 0).toNat) ∧ ((rns τ 18) ((k : Int) * 4 + 0).toNat) ≤ 5 := hol k (by omega)
    have hwd : ((rns τ 18) ((k : Int) * 4 + 0).toNat) = 0 ∨ ((rns τ 18) ((k : Int) * 4 + 0).toNat) = 1 ∨ ((rns τ 18) ((k : Int) * 4 + 0).toNat) = 2 ∨ ((rns τ 18) ((k : Int) * 4 + 0).toNat) = 3 ∨ ((rns τ 18) ((k : Int) * 4 + 0).toNat) = 4 ∨ ((rns τ 18) ((k : Int) * 4 + 0).toNat) = 5 := by omega
    have hg1 := hog ((k : Int) * 4 + 1).toNat
    have hr1 : Rng ((rns τ 18) ((k : Int) * 4 + 1).toNat) := ⟨by omega, by omega⟩
    have hg2 := hog ((k : Int) * 4 + 2).toNat
    have hr2 : Rng ((rns τ 18) ((k : Int) * 4 + 2).toNat) := ⟨by omega, by omega⟩
    have hg3 := hog ((k : Int) * 4 + 3).toNat
    have hr3 : Rng ((rns τ 18) ((k : Int) * 4 + 3).toNat) := ⟨by omega, by omega⟩
    refine ex_k 4 (P := none) (g := (cod m7_run 25, [some (.inl 0), some (.inr q1), some (.inr (k : Int)), o3, o4, o5, o6, o7], [.inr (((rns τ) 16) 3), .inr (k : Int)], (zr (rns τ) 5 d))) rfl trivial ?_
    refine ex_b (P := (((rns τ) 16) 3) ≤ (k : Int)) (ct := (cod m7_run 85, [some (.inl 0), some (.inr q1), some (.inr (k : Int)), o3, o4, o5, o6, o7], [], (zr (rns τ) 5 d))) (cf := (cod m7_run 26, [some (.inl 0), some (.inr q1), some (.inr (k : Int)), o3, o4, o5, o6, o7], [], (zr (rns τ) 5 d))) rfl ⟨⟨by omega, by omega⟩, ⟨by omega, by omega⟩⟩ (fun hh => absurd hh (by omega)) (fun _ => ?_)
    refine ex_k 4 (P := none) (g := (cod m7_run 30, [some (.inl 0), some (.inr q1), some (.inr (k : Int)), o3, o4, o5, o6, o7], [.inr 0, .inr (k : Int), .inl 16], (zr (rns τ) 5 d))) rfl trivial ?_
    refine ex_c (t_orderAt (τ := (zr (rns τ) 5 d)) (i := (k : Int)) (c := 0) (by omega) (by omega)) (is := cod m7_run 31) (L := [some (.inl 0), some (.inr q1), some (.inr (k : Int)), o3, o4, o5, o6, o7]) (st := []) rfl rfl rfl ?_
    show Ex _ _ (cod m7_run 31, [some (.inl 0), some (.inr q1), some (.inr (k : Int)), o3, o4, o5, o6, o7], [.inr ((rns τ 18) ((k : Int) * 4 + 0).toNat)], (zr (rns τ) 5 d)) _ _
    refine ex_k 5 (P := none) (g := (cod m7_run 36, [some (.inl 0), some (.inr q1), some (.inr (k : Int)), some (.inr ((rns τ 18) ((k : Int) * 4 + 0).toNat)), o4, o5, o6, o7], [.inr 1, .inr (k : Int), .inl 16], (zr (rns τ) 5 d))) rfl trivial ?_
    refine ex_c (t_orderAt (τ := (zr (rns τ) 5 d)) (i := (k : Int)) (c := 1) (by omega) (by omega)) (is := cod m7_run 37) (L := [some (.inl 0), some (.inr q1), some (.inr (k : Int)), some (.inr ((rns τ 18) ((k : Int) * 4 + 0).toNat)), o4, o5, o6, o7]) (st := []) rfl rfl rfl ?_
    show Ex _ _ (cod m7_run 37, [some (.inl 0), some (.inr q1), some (.inr (k : Int)), some (.inr ((rns τ 18) ((k : Int) * 4 + 0).toNat)), o4, o5, o6, o7], [.inr ((rns τ 18) ((k : Int) * 4 + 1).toNat)], (zr (rns τ) 5 d)) _ _
    refine ex_k 5 (P := none) (g := (cod m7_run 42, [some (.inl 0), some (.inr q1), some (.inr (k : Int)), some (.inr ((rns τ 18) ((k : Int) * 4 + 0).toNat)), some (.inr ((rns τ 18) ((k : Int) * 4 + 1).toNat)), o5, o6, o7], [.inr 2, .inr (k : Int), .inl 16], (zr (rns τ) 5 d))) rfl trivial ?_
    refine ex_c (t_orderAt (τ := (zr (rns τ) 5 d)) (i := (k : Int)) (c := 2) (by omega) (by omega)) (is := cod m7_run 43) (L := [some (.inl 0), some (.inr q1), some (.inr (k : Int)), some (.inr ((rns τ 18) ((k : Int) * 4 + 0).toNat)), some (.inr ((rns τ 18) ((k : Int) * 4 + 1).toNat)), o5, o6, o7]) (st := []) rfl rfl rfl ?_
    show Ex _ _ (cod m7_run 43, [some (.inl 0), some (.inr q1), some (.inr (k : Int)), some (.inr ((rns τ 18) ((k : Int) * 4 + 0).toNat)), some (.inr ((rns τ 18) ((k : Int) * 4 + 1).toNat)), o5, o6, o7], [.inr ((rns τ 18) ((k : Int) * 4 + 2).toNat)], (zr (rns τ) 5 d)) _ _
    refine ex_k 5 (P := none) (g := (cod m7_run 48, [some (.inl 0), some (.inr q1), some (.inr (k : Int)), some (.inr ((rns τ 18) ((k : Int) * 4 + 0).toNat)), some (.inr ((rns τ 18) ((k : Int) * 4 + 1).toNat)), some (.inr ((rns τ 18) ((k : Int) * 4 + 2).toNat)), o6, o7], [.inr 3, .inr (k : Int), .inl 16], (zr (rns τ) 5 d))) rfl trivial ?_
    refine ex_c (t_orderAt (τ := (zr (rns τ) 5 d)) (i := (k : Int)) (c := 3) (by omega) (by omega)) (is := cod m7_run 49) (L := [some (.inl 0), some (.inr q1), some (.inr (k : Int)), some (.inr ((rns τ 18) ((k : Int) * 4 + 0).toNat)), some (.inr ((rns τ 18) ((k : Int) * 4 + 1).toNat)), some (.inr ((rns τ 18) ((k : Int) * 4 + 2).toNat)), o6, o7]) (st := []) rfl rfl rfl ?_
    show Ex _ _ (cod m7_run 49, [some (.inl 0), some (.inr q1), some (.inr (k : Int)), some (.inr ((rns τ 18) ((k : Int) * 4 + 0).toNat)), some (.inr ((rns τ 18) ((k : Int) * 4 + 1).toNat)), some (.inr ((rns τ 18) ((k : Int) * 4 + 2).toNat)), o6, o7], [.inr ((rns τ 18) ((k : Int) * 4 + 3).toNat)], (zr (rns τ) 5 d)) _ _
    refine ex_k 7 (P := none) (g := (cod m7_run 56, [some (.inl 0), some (.inr q1), some (.inr (k : Int)), some (.inr ((rns τ 18) ((k : Int) * 4 + 0).toNat)), some (.inr ((rns τ 18) ((k : Int) * 4 + 1).toNat)), some (.inr ((rns τ 18) ((k : Int) * 4 + 2).toNat)), some (.inr ((rns τ 18) ((k : Int) * 4 + 3).toNat)), o7], [.inr ((rns τ 18) ((k : Int) * 4 + 3).toNat), .inr ((rns τ 18) ((k : Int) * 4 + 2).toNat), .inr ((rns τ 18) ((k : Int) * 4 + 1).toNat), .inr ((rns τ 18) ((k : Int) * 4 + 0).toNat), .inl 13], (zr (rns τ) 5 d))) rfl trivial ?_
    rcases @obW_in d ((rns τ 18) ((k : Int) * 4 + 0).toNat) ((rns τ 18) ((k : Int) * 4 + 1).toNat) ((rns τ 18) ((k : Int) * 4 + 2).toNat) ((rns τ 18) ((k : Int) * 4 + 3).toNat) with hob | hob | hob | hob
    ·
      refine ex_c (show RZ 6 m0_objectionTo [.inl 13, .inr ((rns τ 18) ((k : Int) * 4 + 0).toNat), .inr ((rns τ 18) ((k : Int) * 4 + 1).toNat), .inr ((rns τ 18) ((k : Int) * 4 + 2).toNat), .inr ((rns τ 18) ((k : Int) * 4 + 3).toNat)] (zr (rns τ) 5 d) (.inl (some (.inr 0), (zr (rns τ) 5 d))) from by have q := s_objectionTo (τ := (zr (rns τ) 5 d)) (Or.inr ⟨rfl, rfl, rfl, rfl⟩) hwd hr1 hr2 hr3 hI.1; rw [show obW ((zr (rns τ) 5 d) 5) ((rns τ 18) ((k : Int) * 4 + 0).toNat) ((rns τ 18) ((k : Int) * 4 + 1).toNat) ((rns τ 18) ((k : Int) * 4 + 2).toNat) ((rns τ 18) ((k : Int) * 4 + 3).toNat) = 0 from hob] at q; exact q) (is := cod m7_run 57) (L := [some (.inl 0), some (.inr q1), some (.inr (k : Int)), some (.inr ((rns τ 18) ((k : Int) * 4 + 0).toNat)), some (.inr ((rns τ 18) ((k : Int) * 4 + 1).toNat)), some (.inr ((rns τ 18) ((k : Int) * 4 + 2).toNat)), some (.inr ((rns τ 18) ((k : Int) * 4 + 3).toNat)), o7]) (st := []) rfl rfl rfl ?_
      show Ex _ _ (cod m7_run 57, [some (.inl 0), some (.inr q1), some (.inr (k : Int)), some (.inr ((rns τ 18) ((k : Int) * 4 + 0).toNat)), some (.inr ((rns τ 18) ((k : Int) * 4 + 1).toNat)), some (.inr ((rns τ 18) ((k : Int) * 4 + 2).toNat)), some (.inr ((rns τ 18) ((k : Int) * 4 + 3).toNat)), o7], [.inr 0], (zr (rns τ) 5 d)) _ _
      refine ex_k 3 (P := none) (g := (cod m7_run 60, [some (.inl 0), some (.inr q1), some (.inr (k : Int)), some (.inr ((rns τ 18) ((k : Int) * 4 + 0).toNat)), some (.inr ((rns τ 18) ((k : Int) * 4 + 1).toNat)), some (.inr ((rns τ 18) ((k : Int) * 4 + 2).toNat)), some (.inr ((rns τ 18) ((k : Int) * 4 + 3).toNat)), some (.inr 0)], [.inr 3, .inr 0], (zr (rns τ) 5 d))) rfl trivial ?_
      refine ex_b (P := ¬ 0 = 3) (ct := (cod m7_run 70, [some (.inl 0), some (.inr q1), some (.inr (k : Int)), some (.inr ((rns τ 18) ((k : Int) * 4 + 0).toNat)), some (.inr ((rns τ 18) ((k : Int) * 4 + 1).toNat)), some (.inr ((rns τ 18) ((k : Int) * 4 + 2).toNat)), some (.inr ((rns τ 18) ((k : Int) * 4 + 3).toNat)), some (.inr 0)], [], (zr (rns τ) 5 d))) (cf := (cod m7_run 61, [some (.inl 0), some (.inr q1), some (.inr (k : Int)), some (.inr ((rns τ 18) ((k : Int) * 4 + 0).toNat)), some (.inr ((rns τ 18) ((k : Int) * 4 + 1).toNat)), some (.inr ((rns τ 18) ((k : Int) * 4 + 2).toNat)), some (.inr ((rns τ 18) ((k : Int) * 4 + 3).toNat)), some (.inr 0)], [], (zr (rns τ) 5 d))) rfl ⟨⟨by decide, by decide⟩, ⟨by decide, by decide⟩⟩ (fun _ => ?_) (fun hh => absurd (by decide) hh)
      refine ex_k 1 (P := none) (g := (cod m7_run 71, [some (.inl 0), some (.inr q1), some (.inr (k : Int)), some (.inr ((rns τ 18) ((k : Int) * 4 + 0).toNat)), some (.inr ((rns τ 18) ((k : Int) * 4 + 1).toNat)), some (.inr ((rns τ 18) ((k : Int) * 4 + 2).toNat)), some (.inr ((rns τ 18) ((k : Int) * 4 + 3).toNat)), some (.inr 0)], [.inr 0], (zr (rns τ) 5 d))) rfl trivial ?_
      refine ex_b (P := 0 = 0) (ct := (cod m7_run 76, [some (.inl 0), some (.inr q1), some (.inr (k : Int)), some (.inr ((rns τ 18) ((k : Int) * 4 + 0).toNat)), some (.inr ((rns τ 18) ((k : Int) * 4 + 1).toNat)), some (.inr ((rns τ 18) ((k : Int) * 4 + 2).toNat)), some (.inr ((rns τ 18) ((k : Int) * 4 + 3).toNat)), some (.inr 0)], [], (zr (rns τ) 5 d))) (cf := (cod m7_run 72, [some (.inl 0), some (.inr q1), some (.inr (k : Int)), some (.inr ((rns τ 18) ((k : Int) * 4 + 0).toNat)), some (.inr ((rns τ 18) ((k : Int) * 4 + 1).toNat)), some (.inr ((rns τ 18) ((k : Int) * 4 + 2).toNat)), some (.inr ((rns τ 18) ((k : Int) * 4 + 3).toNat)), some (.inr 0)], [], (zr (rns τ) 5 d))) rfl ⟨by decide, by decide⟩ (fun _ => ?_) (fun hh => absurd (by decide) hh)
      refine ex_k 6 (P := none) (g := (cod m7_run 82, [some (.inl 0), some (.inr q1), some (.inr (k : Int)), some (.inr ((rns τ 18) ((k : Int) * 4 + 0).toNat)), some (.inr ((rns τ 18) ((k : Int) * 4 + 1).toNat)), some (.inr ((rns τ 18) ((k : Int) * 4 + 2).toNat)), some (.inr ((rns τ 18) ((k : Int) * 4 + 3).toNat)), some (.inr 0)], [.inr ((rns τ 18) ((k : Int) * 4 + 3).toNat), .inr ((rns τ 18) ((k : Int) * 4 + 2).toNat), .inr ((rns τ 18) ((k : Int) * 4 + 1).toNat), .inr ((rns τ 18) ((k : Int) * 4 + 0).toNat), .inl 13], (zr (rns τ) 5 d))) rfl trivial ?_
      refine ex_c (s_carryOut (τ := (zr (rns τ) 5 d)) (w := ((rns τ 18) ((k : Int) * 4 + 0).toNat)) (x := ((rns τ 18) ((k : Int) * 4 + 1).toNat)) (y := ((rns τ 18) ((k : Int) * 4 + 2).toNat)) (z := ((rns τ 18) ((k : Int) * 4 + 3).toNat)) (Or.inr ⟨rfl, rfl, rfl, rfl⟩) hwd hr1 hr2 hr3 hI (by omega) hob) (is := cod m7_run 83) (L := [some (.inl 0), some (.inr q1), some (.inr (k : Int)), some (.inr ((rns τ 18) ((k : Int) * 4 + 0).toNat)), some (.inr ((rns τ 18) ((k : Int) * 4 + 1).toNat)), some (.inr ((rns τ 18) ((k : Int) * 4 + 2).toNat)), some (.inr ((rns τ 18) ((k : Int) * 4 + 3).toNat)), some (.inr 0)]) (st := []) rfl rfl rfl ?_
      show Ex _ _ (cod m7_run 83, [some (.inl 0), some (.inr q1), some (.inr (k : Int)), some (.inr ((rns τ 18) ((k : Int) * 4 + 0).toNat)), some (.inr ((rns τ 18) ((k : Int) * 4 + 1).toNat)), some (.inr ((rns τ 18) ((k : Int) * 4 + 2).toNat)), some (.inr ((rns τ 18) ((k : Int) * 4 + 3).toNat)), some (.inr 0)], [], (zr (zr (rns τ) 5 d) 5 (cao d ((rns τ 18) ((k : Int) * 4 + 0).toNat) ((rns τ 18) ((k : Int) * 4 + 1).toNat) ((rns τ 18) ((k : Int) * 4 + 2).toNat) ((rns τ 18) ((k : Int) * 4 + 3).toNat)))) _ _
      rw [zr_zr]
      refine ex_k 2 (P := none) (g := (cod m7_run 21, [some (.inl 0), some (.inr q1), some (.inr ((k : Int) + 1)), some (.inr ((rns τ 18) ((k : Int) * 4 + 0).toNat)), some (.inr ((rns τ 18) ((k : Int) * 4 + 1).toNat)), some (.inr ((rns τ 18) ((k : Int) * 4 + 2).toNat)), some (.inr ((rns τ 18) ((k : Int) * 4 + 3).toNat)), some (.inr 0)], [], (zr (rns τ) 5 (cao d ((rns τ 18) ((k : Int) * 4 + 0).toNat) ((rns τ 18) ((k : Int) * 4 + 1).toNat) ((rns τ 18) ((k : Int) * 4 + 2).toNat) ((rns τ 18) ((k : Int) * 4 + 3).toNat))))) rfl trivial ?_
      rw [show rnl (rns τ 18) (j + 1) k d = rnl (rns τ 18) j (k + 1) (cao d ((rns τ 18) ((k : Int) * 4 + 0).toNat) ((rns τ 18) ((k : Int) * 4 + 1).toNat) ((rns τ 18) ((k : Int) * 4 + 2).toNat) ((rns τ 18) ((k : Int) * 4 + 3).toNat)) from by show ite _ _ _ = _; rw [if_neg (show ¬ obW d ((rns τ 18) ((k : Int) * 4 + 0).toNat) ((rns τ 18) ((k : Int) * 4 + 1).toNat) ((rns τ 18) ((k : Int) * 4 + 2).toNat) ((rns τ 18) ((k : Int) * 4 + 3).toNat) = 3 by omega), if_neg (show ¬ ¬ obW d ((rns τ 18) ((k : Int) * 4 + 0).toNat) ((rns τ 18) ((k : Int) * 4 + 1).toNat) ((rns τ 18) ((k : Int) * 4 + 2).toNat) ((rns τ 18) ((k : Int) * 4 + 3).toNat) = 0 by omega)]]
      exact ih (k + 1) (by omega) _ _ _ _ _ _ (by have q := hI.cao hob (by omega); rw [show B + 7 * (k : Int) + 7 = B + 7 * ((k + 1 : Nat) : Int) from by omega] at q; exact q)
    ·
      refine ex_c (show RZ 6 m0_objectionTo [.inl 13, .inr ((rns τ 18) ((k : Int) * 4 + 0).toNat), .inr ((rns τ 18) ((k : Int) * 4 + 1).toNat), .inr ((rns τ 18) ((k : Int) * 4 + 2).toNat), .inr ((rns τ 18) ((k : Int) * 4 + 3).toNat)] (zr (rns τ) 5 d) (.inl (some (.inr 1), (zr (rns τ) 5 d))) from by have q := s_objectionTo (τ := (zr (rns τ) 5 d)) (Or.inr ⟨rfl, rfl, rfl, rfl⟩) hwd hr1 hr2 hr3 hI.1; rw [show obW ((zr (rns τ) 5 d) 5) ((rns τ 18) ((k : Int) * 4 + 0).toNat) ((rns τ 18) ((k : Int) * 4 + 1).toNat) ((rns τ 18) ((k : Int) * 4 + 2).toNat) ((rns τ 18) ((k : Int) * 4 + 3).toNat) = 1 from hob] at q; exact q) (is := cod m7_run 57) (L := [some (.inl 0), some (.inr q1), some (.inr (k : Int)), some (.inr ((rns τ 18) ((k : Int) * 4 + 0).toNat)), some (.inr ((rns τ 18) ((k : Int) * 4 + 1).toNat)), some (.inr ((rns τ 18) ((k : Int) * 4 + 2).toNat)), some (.inr ((rns τ 18) ((k : Int) * 4 + 3).toNat)), o7]) (st := []) rfl rfl rfl ?_
      show Ex _ _ (cod m7_run 57, [some (.inl 0), some (.inr q1), some (.inr (k : Int)), some (.inr ((rns τ 18) ((k : Int) * 4 + 0).toNat)), some (.inr ((rns τ 18) ((k : Int) * 4 + 1).toNat)), some (.inr ((rns τ 18) ((k : Int) * 4 + 2).toNat)), some (.inr ((rns τ 18) ((k : Int) * 4 + 3).toNat)), o7], [.inr 1], (zr (rns τ) 5 d)) _ _
      refine ex_k 3 (P := none) (g := (cod m7_run 60, [some (.inl 0), some (.inr q1), some (.inr (k : Int)), some (.inr ((rns τ 18) ((k : Int) * 4 + 0).toNat)), some (.inr ((rns τ 18) ((k : Int) * 4 + 1).toNat)), some (.inr ((rns τ 18) ((k : Int) * 4 + 2).toNat)), some (.inr ((rns τ 18) ((k : Int) * 4 + 3).toNat)), some (.inr 1)], [.inr 3, .inr 1], (zr (rns τ) 5 d))) rfl trivial ?_
      refine ex_b (P := ¬ 1 = 3) (ct := (cod m7_run 70, [some (.inl 0), some (.inr q1), some (.inr (k : Int)), some (.inr ((rns τ 18) ((k : Int) * 4 + 0).toNat)), some (.inr ((rns τ 18) ((k : Int) * 4 + 1).toNat)), some (.inr ((rns τ 18) ((k : Int) * 4 + 2).toNat)), some (.inr ((rns τ 18) ((k : Int) * 4 + 3).toNat)), some (.inr 1)], [], (zr (rns τ) 5 d))) (cf := (cod m7_run 61, [some (.inl 0), some (.inr q1), some (.inr (k : Int)), some (.inr ((rns τ 18) ((k : Int) * 4 + 0).toNat)), some (.inr ((rns τ 18) ((k : Int) * 4 + 1).toNat)), some (.inr ((rns τ 18) ((k : Int) * 4 + 2).toNat)), some (.inr ((rns τ 18) ((k : Int) * 4 + 3).toNat)), some (.inr 1)], [], (zr (rns τ) 5 d))) rfl ⟨⟨by decide, by decide⟩, ⟨by decide, by decide⟩⟩ (fun _ => ?_) (fun hh => absurd (by decide) hh)
      refine ex_k 1 (P := none) (g := (cod m7_run 71, [some (.inl 0), some (.inr q1), some (.inr (k : Int)), some (.inr ((rns τ 18) ((k : Int) * 4 + 0).toNat)), some (.inr ((rns τ 18) ((k : Int) * 4 + 1).toNat)), some (.inr ((rns τ 18) ((k : Int) * 4 + 2).toNat)), some (.inr ((rns τ 18) ((k : Int) * 4 + 3).toNat)), some (.inr 1)], [.inr 1], (zr (rns τ) 5 d))) rfl trivial ?_
      refine ex_b (P := 1 = 0) (ct := (cod m7_run 76, [some (.inl 0), some (.inr q1), some (.inr (k : Int)), some (.inr ((rns τ 18) ((k : Int) * 4 + 0).toNat)), some (.inr ((rns τ 18) ((k : Int) * 4 + 1).toNat)), some (.inr ((rns τ 18) ((k : Int) * 4 + 2).toNat)), some (.inr ((rns τ 18) ((k : Int) * 4 + 3).toNat)), some (.inr 1)], [], (zr (rns τ) 5 d))) (cf := (cod m7_run 72, [some (.inl 0), some (.inr q1), some (.inr (k : Int)), some (.inr ((rns τ 18) ((k : Int) * 4 + 0).toNat)), some (.inr ((rns τ 18) ((k : Int) * 4 + 1).toNat)), some (.inr ((rns τ 18) ((k : Int) * 4 + 2).toNat)), some (.inr ((rns τ 18) ((k : Int) * 4 + 3).toNat)), some (.inr 1)], [], (zr (rns τ) 5 d))) rfl ⟨by decide, by decide⟩ (fun hh => absurd hh (by decide)) (fun _ => ?_)
      exact ex_t rfl rfl ((by rw [show rnl (rns τ 18) (j + 1) k d = (1, k, d) from by show ite _ _ _ = _; rw [if_neg (show ¬ obW d ((rns τ 18) ((k : Int) * 4 + 0).toNat) ((rns τ 18) ((k : Int) * 4 + 1).toNat) ((rns τ 18) ((k : Int) * 4 + 2).toNat) ((rns τ 18) ((k : Int) * 4 + 3).toNat) = 3 by omega), if_pos (show ¬ obW d ((rns τ 18) ((k : Int) * 4 + 0).toNat) ((rns τ 18) ((k : Int) * 4 + 1).toNat) ((rns τ 18) ((k : Int) * 4 + 2).toNat) ((rns τ 18) ((k : Int) * 4 + 3).toNat) = 0 by omega)]]; rfl))
    ·
      refine ex_c (show RZ 6 m0_objectionTo [.inl 13, .inr ((rns τ 18) ((k : Int) * 4 + 0).toNat), .inr ((rns τ 18) ((k : Int) * 4 + 1).toNat), .inr ((rns τ 18) ((k : Int) * 4 + 2).toNat), .inr ((rns τ 18) ((k : Int) * 4 + 3).toNat)] (zr (rns τ) 5 d) (.inl (some (.inr 2), (zr (rns τ) 5 d))) from by have q := s_objectionTo (τ := (zr (rns τ) 5 d)) (Or.inr ⟨rfl, rfl, rfl, rfl⟩) hwd hr1 hr2 hr3 hI.1; rw [show obW ((zr (rns τ) 5 d) 5) ((rns τ 18) ((k : Int) * 4 + 0).toNat) ((rns τ 18) ((k : Int) * 4 + 1).toNat) ((rns τ 18) ((k : Int) * 4 + 2).toNat) ((rns τ 18) ((k : Int) * 4 + 3).toNat) = 2 from hob] at q; exact q) (is := cod m7_run 57) (L := [some (.inl 0), some (.inr q1), some (.inr (k : Int)), some (.inr ((rns τ 18) ((k : Int) * 4 + 0).toNat)), some (.inr ((rns τ 18) ((k : Int) * 4 + 1).toNat)), some (.inr ((rns τ 18) ((k : Int) * 4 + 2).toNat)), some (.inr ((rns τ 18) ((k : Int) * 4 + 3).toNat)), o7]) (st := []) rfl rfl rfl ?_
      show Ex _ _ (cod m7_run 57, [some (.inl 0), some (.inr q1), some (.inr (k : Int)), some (.inr ((rns τ 18) ((k : Int) * 4 + 0).toNat)), some (.inr ((rns τ 18) ((k : Int) * 4 + 1).toNat)), some (.inr ((rns τ 18) ((k : Int) * 4 + 2).toNat)), some (.inr ((rns τ 18) ((k : Int) * 4 + 3).toNat)), o7], [.inr 2], (zr (rns τ) 5 d)) _ _
      refine ex_k 3 (P := none) (g := (cod m7_run 60, [some (.inl 0), some (.inr q1), some (.inr (k : Int)), some (.inr ((rns τ 18) ((k : Int) * 4 + 0).toNat)), some (.inr ((rns τ 18) ((k : Int) * 4 + 1).toNat)), some (.inr ((rns τ 18) ((k : Int) * 4 + 2).toNat)), some (.inr ((rns τ 18) ((k : Int) * 4 + 3).toNat)), some (.inr 2)], [.inr 3, .inr 2], (zr (rns τ) 5 d))) rfl trivial ?_
      refine ex_b (P := ¬ 2 = 3) (ct := (cod m7_run 70, [some (.inl 0), some (.inr q1), some (.inr (k : Int)), some (.inr ((rns τ 18) ((k : Int) * 4 + 0).toNat)), some (.inr ((rns τ 18) ((k : Int) * 4 + 1).toNat)), some (.inr ((rns τ 18) ((k : Int) * 4 + 2).toNat)), some (.inr ((rns τ 18) ((k : Int) * 4 + 3).toNat)), some (.inr 2)], [], (zr (rns τ) 5 d))) (cf := (cod m7_run 61, [some (.inl 0), some (.inr q1), some (.inr (k : Int)), some (.inr ((rns τ 18) ((k : Int) * 4 + 0).toNat)), some (.inr ((rns τ 18) ((k : Int) * 4 + 1).toNat)), some (.inr ((rns τ 18) ((k : Int) * 4 + 2).toNat)), some (.inr ((rns τ 18) ((k : Int) * 4 + 3).toNat)), some (.inr 2)], [], (zr (rns τ) 5 d))) rfl ⟨⟨by decide, by decide⟩, ⟨by decide, by decide⟩⟩ (fun _ => ?_) (fun hh => absurd (by decide) hh)
      refine ex_k 1 (P := none) (g := (cod m7_run 71, [some (.inl 0), some (.inr q1), some (.inr (k : Int)), some (.inr ((rns τ 18) ((k : Int) * 4 + 0).toNat)), some (.inr ((rns τ 18) ((k : Int) * 4 + 1).toNat)), some (.inr ((rns τ 18) ((k : Int) * 4 + 2).toNat)), some (.inr ((rns τ 18) ((k : Int) * 4 + 3).toNat)), some (.inr 2)], [.inr 2], (zr (rns τ) 5 d))) rfl trivial ?_
      refine ex_b (P := 2 = 0) (ct := (cod m7_run 76, [some (.inl 0), some (.inr q1), some (.inr (k : Int)), some (.inr ((rns τ 18) ((k : Int) * 4 + 0).toNat)), some (.inr ((rns τ 18) ((k : Int) * 4 + 1).toNat)), some (.inr ((rns τ 18) ((k : Int) * 4 + 2).toNat)), some (.inr ((rns τ 18) ((k : Int) * 4 + 3).toNat)), some (.inr 2)], [], (zr (rns τ) 5 d))) (cf := (cod m7_run 72, [some (.inl 0), some (.inr q1), some (.inr (k : Int)), some (.inr ((rns τ 18) ((k : Int) * 4 + 0).toNat)), some (.inr ((rns τ 18) ((k : Int) * 4 + 1).toNat)), some (.inr ((rns τ 18) ((k : Int) * 4 + 2).toNat)), some (.inr ((rns τ 18) ((k : Int) * 4 + 3).toNat)), some (.inr 2)], [], (zr (rns τ) 5 d))) rfl ⟨by decide, by decide⟩ (fun hh => absurd hh (by decide)) (fun _ => ?_)
      exact ex_t rfl rfl ((by rw [show rnl (rns τ 18) (j + 1) k d = (1, k, d) from by show ite _ _ _ = _; rw [if_neg (show ¬ obW d ((rns τ 18) ((k : Int) * 4 + 0).toNat) ((rns τ 18) ((k : Int) * 4 + 1).toNat) ((rns τ 18) ((k : Int) * 4 + 2).toNat) ((rns τ 18) ((k : Int) * 4 + 3).toNat) = 3 by omega), if_pos (show ¬ obW d ((rns τ 18) ((k : Int) * 4 + 0).toNat) ((rns τ 18) ((k : Int) * 4 + 1).toNat) ((rns τ 18) ((k : Int) * 4 + 2).toNat) ((rns τ 18) ((k : Int) * 4 + 3).toNat) = 0 by omega)]]; rfl))
    ·
      refine ex_c (show RZ 6 m0_objectionTo [.inl 13, .inr ((rns τ 18) ((k : Int) * 4 + 0).toNat), .inr ((rns τ 18) ((k : Int) * 4 + 1).toNat), .inr ((rns τ 18) ((k : Int) * 4 + 2).toNat), .inr ((rns τ 18) ((k : Int) * 4 + 3).toNat)] (zr (rns τ) 5 d) (.inl (some (.inr 3), rsW (zr (rns τ) 5 d) d ((rns τ 18) ((k : Int) * 4 + 0).toNat) ((rns τ 18) ((k : Int) * 4 + 1).toNat) ((rns τ 18) ((k : Int) * 4 + 2).toNat) ((rns τ 18) ((k : Int) * 4 + 3).toNat))) from by have q := s_objectionTo (τ := (zr (rns τ) 5 d)) (Or.inr ⟨rfl, rfl, rfl, rfl⟩) hwd hr1 hr2 hr3 hI.1; rw [show obW ((zr (rns τ) 5 d) 5) ((rns τ 18) ((k : Int) * 4 + 0).toNat) ((rns τ 18) ((k : Int) * 4 + 1).toNat) ((rns τ 18) ((k : Int) * 4 + 2).toNat) ((rns τ 18) ((k : Int) * 4 + 3).toNat) = 3 from hob] at q; exact q) (is := cod m7_run 57) (L := [some (.inl 0), some (.inr q1), some (.inr (k : Int)), some (.inr ((rns τ 18) ((k : Int) * 4 + 0).toNat)), some (.inr ((rns τ 18) ((k : Int) * 4 + 1).toNat)), some (.inr ((rns τ 18) ((k : Int) * 4 + 2).toNat)), some (.inr ((rns τ 18) ((k : Int) * 4 + 3).toNat)), o7]) (st := []) rfl rfl rfl ?_
      show Ex _ _ (cod m7_run 57, [some (.inl 0), some (.inr q1), some (.inr (k : Int)), some (.inr ((rns τ 18) ((k : Int) * 4 + 0).toNat)), some (.inr ((rns τ 18) ((k : Int) * 4 + 1).toNat)), some (.inr ((rns τ 18) ((k : Int) * 4 + 2).toNat)), some (.inr ((rns τ 18) ((k : Int) * 4 + 3).toNat)), o7], [.inr 3], rsW (zr (rns τ) 5 d) d ((rns τ 18) ((k : Int) * 4 + 0).toNat) ((rns τ 18) ((k : Int) * 4 + 1).toNat) ((rns τ 18) ((k : Int) * 4 + 2).toNat) ((rns τ 18) ((k : Int) * 4 + 3).toNat)) _ _
      refine ex_k 3 (P := none) (g := (cod m7_run 60, [some (.inl 0), some (.inr q1), some (.inr (k : Int)), some (.inr ((rns τ 18) ((k : Int) * 4 + 0).toNat)), some (.inr ((rns τ 18) ((k : Int) * 4 + 1).toNat)), some (.inr ((rns τ 18) ((k : Int) * 4 + 2).toNat)), some (.inr ((rns τ 18) ((k : Int) * 4 + 3).toNat)), some (.inr 3)], [.inr 3, .inr 3], rsW (zr (rns τ) 5 d) d ((rns τ 18) ((k : Int) * 4 + 0).toNat) ((rns τ 18) ((k : Int) * 4 + 1).toNat) ((rns τ 18) ((k : Int) * 4 + 2).toNat) ((rns τ 18) ((k : Int) * 4 + 3).toNat))) rfl trivial ?_
      refine ex_b (P := ¬ 3 = 3) (ct := (cod m7_run 70, [some (.inl 0), some (.inr q1), some (.inr (k : Int)), some (.inr ((rns τ 18) ((k : Int) * 4 + 0).toNat)), some (.inr ((rns τ 18) ((k : Int) * 4 + 1).toNat)), some (.inr ((rns τ 18) ((k : Int) * 4 + 2).toNat)), some (.inr ((rns τ 18) ((k : Int) * 4 + 3).toNat)), some (.inr 3)], [], rsW (zr (rns τ) 5 d) d ((rns τ 18) ((k : Int) * 4 + 0).toNat) ((rns τ 18) ((k : Int) * 4 + 1).toNat) ((rns τ 18) ((k : Int) * 4 + 2).toNat) ((rns τ 18) ((k : Int) * 4 + 3).toNat))) (cf := (cod m7_run 61, [some (.inl 0), some (.inr q1), some (.inr (k : Int)), some (.inr ((rns τ 18) ((k : Int) * 4 + 0).toNat)), some (.inr ((rns τ 18) ((k : Int) * 4 + 1).toNat)), some (.inr ((rns τ 18) ((k : Int) * 4 + 2).toNat)), some (.inr ((rns τ 18) ((k : Int) * 4 + 3).toNat)), some (.inr 3)], [], rsW (zr (rns τ) 5 d) d ((rns τ 18) ((k : Int) * 4 + 0).toNat) ((rns τ 18) ((k : Int) * 4 + 1).toNat) ((rns τ 18) ((k : Int) * 4 + 2).toNat) ((rns τ 18) ((k : Int) * 4 + 3).toNat))) rfl ⟨⟨by decide, by decide⟩, ⟨by decide, by decide⟩⟩ (fun hh => absurd hh (by decide)) (fun _ => ?_)
      refine ex_k 4 (P := none) (g := (cod m7_run 65, [some (.inl 0), some (.inr q1), some (.inr (k : Int)), some (.inr ((rns τ 18) ((k : Int) * 4 + 0).toNat)), some (.inr ((rns τ 18) ((k : Int) * 4 + 1).toNat)), some (.inr ((rns τ 18) ((k : Int) * 4 + 2).toNat)), some (.inr ((rns τ 18) ((k : Int) * 4 + 3).toNat)), some (.inr 3)], [.inr (k : Int), .inr 6, .inl 9], rsW (zr (rns τ) 5 d) d ((rns τ 18) ((k : Int) * 4 + 0).toNat) ((rns τ 18) ((k : Int) * 4 + 1).toNat) ((rns τ 18) ((k : Int) * 4 + 2).toNat) ((rns τ 18) ((k : Int) * 4 + 3).toNat))) rfl trivial ?_
      refine ex_c (s_putAhead (τ := rsW (zr (rns τ) 5 d) d ((rns τ 18) ((k : Int) * 4 + 0).toNat) ((rns τ 18) ((k : Int) * 4 + 1).toNat) ((rns τ 18) ((k : Int) * 4 + 2).toNat) ((rns τ 18) ((k : Int) * 4 + 3).toNat)) (w := 6) (d := (k : Int)) rsW_cnt) (is := cod m7_run 66) (L := [some (.inl 0), some (.inr q1), some (.inr (k : Int)), some (.inr ((rns τ 18) ((k : Int) * 4 + 0).toNat)), some (.inr ((rns τ 18) ((k : Int) * 4 + 1).toNat)), some (.inr ((rns τ 18) ((k : Int) * 4 + 2).toNat)), some (.inr ((rns τ 18) ((k : Int) * 4 + 3).toNat)), some (.inr 3)]) (st := []) rfl rfl rfl ?_
      show Ex _ _ (cod m7_run 66, [some (.inl 0), some (.inr q1), some (.inr (k : Int)), some (.inr ((rns τ 18) ((k : Int) * 4 + 0).toNat)), some (.inr ((rns τ 18) ((k : Int) * 4 + 1).toNat)), some (.inr ((rns τ 18) ((k : Int) * 4 + 2).toNat)), some (.inr ((rns τ 18) ((k : Int) * 4 + 3).toNat)), some (.inr 3)], [], rpa (rsW (zr (rns τ) 5 d) d ((rns τ 18) ((k : Int) * 4 + 0).toNat) ((rns τ 18) ((k : Int) * 4 + 1).toNat) ((rns τ 18) ((k : Int) * 4 + 2).toNat) ((rns τ 18) ((k : Int) * 4 + 3).toNat)) 6 (k : Int)) _ _
      exact ex_t rfl rfl ((by rw [show rnl (rns τ 18) (j + 1) k d = (3, k, d) from if_pos hob]; rfl))
theorem c_run {τ : SZ} {M : Nat} {B : Int} (hI : Iv B (τ 4)) (hB : B + 7 * (M : Int) + 7 ≤ 100000000) (hT : Tx τ) (hQ1 : (rdo (τ 16 1) (τ 17) (τ 18)).1 = 0 ∨ (rdo (τ 16 1) (τ 17) (τ 18)).1 = 1) (hM : rns τ 16 3 = (M : Int)) (hM13 : M ≤ 13) (hog : Og (rns τ 18)) (hol : ∀ i : Nat, i < M → 0 ≤ odw (rns τ 18) i 0 ∧ odw (rns τ 18) i 0 ≤ 5) (hT5 : Tz (τ 5)) (hx : 0 ≤ τ 14 1 ∧ τ 14 1 < 8) (hc : 0 ≤ τ 14 2 ∧ τ 14 2 ≤ 8) : RZ 9 m7_run [.inl 0] τ (if (rdo (τ 16 1) (τ 17) (τ 18)).1 = 0 then .inr ("java/lang/IllegalArgumentException", rns τ) else rnr (rns τ) (rns τ 18) (rnl (rns τ 18) M 0 (τ 4)) (M : Int)) := by
  have hT4 := hI.1.tz
  refine Ex.call ?_ rfl rfl
  show Ex _ _ (cod m7_run 0, [some (.inl 0), none, none, none, none, none, none, none], [], τ) _ _
  refine ex_k 2 (P := none) (g := (cod m7_run 2, [some (.inl 0), none, none, none, none, none, none, none], [.inl 16], τ)) rfl trivial ?_
  refine ex_c (t_readOrders (τ := τ) hT) (is := cod m7_run 3) (L := [some (.inl 0), none, none, none, none, none, none, none]) (st := []) rfl rfl rfl ?_
  show Ex _ _ (cod m7_run 3, [some (.inl 0), none, none, none, none, none, none, none], [.inr ((rdo (τ 16 1) (τ 17) (τ 18)).1)], rdt τ (rdo (τ 16 1) (τ 17) (τ 18))) _ _
  refine ex_k 5 (P := none) (g := (cod m7_run 8, [some (.inl 0), some (.inr ((rdo (τ 16 1) (τ 17) (τ 18)).1)), none, none, none, none, none, none], [], (zr (rdt τ (rdo (τ 16 1) (τ 17) (τ 18))) 16 (zu ((rdt τ (rdo (τ 16 1) (τ 17) (τ 18))) 16) 1 0)))) rfl trivial ?_
  show Ex _ _ (cod m7_run 8, [some (.inl 0), some (.inr ((rdo (τ 16 1) (τ 17) (τ 18)).1)), none, none, none, none, none, none], [], rns τ) _ _
  refine ex_k 1 (P := none) (g := (cod m7_run 9, [some (.inl 0), some (.inr ((rdo (τ 16 1) (τ 17) (τ 18)).1)), none, none, none, none, none, none], [.inr ((rdo (τ 16 1) (τ 17) (τ 18)).1)], rns τ)) rfl trivial ?_
  refine ex_b (P := ¬ ((rdo (τ 16 1) (τ 17) (τ 18)).1) = 0) (ct := (cod m7_run 14, [some (.inl 0), some (.inr ((rdo (τ 16 1) (τ 17) (τ 18)).1)), none, none, none, none, none, none], [], rns τ)) (cf := (cod m7_run 10, [some (.inl 0), some (.inr ((rdo (τ 16 1) (τ 17) (τ 18)).1)), none, none, none, none, none, none], [], rns τ)) rfl ⟨by omega, by omega⟩ (fun h1 => ?_) (fun h1 => ?_)
  · first
    | (exfalso; omega)
    | (
        refine ex_k 4 (P := none) (g := (cod m7_run 18, [some (.inl 0), some (.inr ((rdo (τ 16 1) (τ 17) (τ 18)).1)), none, none, none, none, none, none], [.inl 1, .inl 2], rns τ)) rfl trivial ?_
        refine ex_c (s_take21 (τ := rns τ) hT4 hT5) (is := cod m7_run 19) (L := [some (.inl 0), some (.inr ((rdo (τ 16 1) (τ 17) (τ 18)).1)), none, none, none, none, none, none]) (st := []) rfl rfl rfl ?_
        show Ex _ _ (cod m7_run 19, [some (.inl 0), some (.inr ((rdo (τ 16 1) (τ 17) (τ 18)).1)), none, none, none, none, none, none], [], (zr (rns τ) 5 (τ 4))) _ _
        refine ex_k 2 (P := none) (g := (cod m7_run 21, [some (.inl 0), some (.inr ((rdo (τ 16 1) (τ 17) (τ 18)).1)), some (.inr 0), none, none, none, none, none], [], (zr (rns τ) 5 (τ 4)))) rfl trivial ?_
        rw [if_neg (by omega)]
        have q := lp_run (q1 := (rdo (τ 16 1) (τ 17) (τ 18)).1) (τ := τ) hB hM hM13 rfl hog hol hT4 hx hc M 0 (by omega) (τ 4) none none none none none (by rw [show B + 7 * ((0 : Nat) : Int) = B from by omega]; exact hI)
        exact q)
  · first
    | (exfalso; omega)
    | (
        exact ex_t rfl rfl ((by rw [if_pos (by omega)])))
end RUN
