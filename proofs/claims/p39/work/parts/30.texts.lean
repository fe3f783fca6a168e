/-! texts: printed by wip/whole/db14.py -/
section TXT
/-- a character of the input; behind its end one that fits nothing -/
def sg (n : Int) (f : Nat → Int) (z : Int) : Int := if 0 ≤ z ∧ z < n then f z.toNat else 0
def Tx (τ : SZ) : Prop := (0 ≤ τ 16 1 ∧ τ 16 1 ≤ 60) ∧ ∀ i, 0 ≤ τ 17 i ∧ τ 17 i < 65536
theorem sg_in {n : Int} {f : Nat → Int} (h : ∀ i, 0 ≤ f i ∧ f i < 65536) (z : Int) : 0 ≤ sg n f z ∧ sg n f z < 65536 := by
  unfold sg
  split
  · exact h _
  · omega
theorem sg_at {n : Int} {f : Nat → Int} {z : Int} (h : sg n f z ≠ 0) : 0 ≤ z ∧ z < n := by
  unfold sg at h
  split at h
  · assumption
  · exact absurd rfl h
abbrev dgt (c : Int) : Prop := 48 ≤ c ∧ c ≤ 57
def wdt (n : Int) (f : Nat → Int) (p z : Int) : Int :=
  if p = 64 ∧ (48 ≤ sg n f z ∧ sg n f z ≤ 57) then (if 48 ≤ sg n f (z + 1) ∧ sg n f (z + 1) ≤ 57 then 2 else 1) else
  if p = 35 ∨ p = 64 then (if 48 ≤ sg n f z ∧ sg n f z ≤ 57 then 1 else 0) else
  if p = 37 then (if sg n f z = 43 ∨ sg n f z = 45 then 1 else 0) else if sg n f z = p then 1 else 0
theorem wdt_in {n : Int} {f : Nat → Int} {p z : Int} (hp : p ≠ 0) : (0 ≤ wdt n f p z ∧ wdt n f p z ≤ 2) ∧ (wdt n f p z ≠ 0 → 0 ≤ z ∧ z + wdt n f p z ≤ n) := by
  have h1 : sg n f z ≠ 0 → 0 ≤ z ∧ z < n := sg_at
  have h2 : sg n f (z + 1) ≠ 0 → 0 ≤ z + 1 ∧ z + 1 < n := sg_at
  unfold wdt
  repeat (first | omega | split)
def nmb (n : Int) (f : Nat → Int) (z w : Int) : Int := if w = 2 then (sg n f z - 48) * 10 + sg n f (z + 1) - 48 else sg n f z - 48
def vlu (n : Int) (f : Nat → Int) (p z w : Int) : Int := if p = 37 then (if sg n f z = 43 then 1 else 0) else nmb n f z w
abbrev isn (p : Int) : Prop := p = 35 ∨ p = 64 ∨ p = 37
/-- how far a shape fits, and the numbers on the way -/
def mtc (n : Int) (f : Nat → Int) : List Int → Int → Bool × Int × List Int
  | [], z => (true, z, [])
  | p :: ps, z => if wdt n f p z = 0 then (false, z, []) else
    ((mtc n f ps (z + wdt n f p z)).1, (mtc n f ps (z + wdt n f p z)).2.1, if isn p then vlu n f p z (wdt n f p z) :: (mtc n f ps (z + wdt n f p z)).2.2 else (mtc n f ps (z + wdt n f p z)).2.2)
def rsv (m : Bool × Int × List Int) : Int := if m.1 = true then m.2.1 else -m.2.1 - 1
def ups (ord : Nat → Int) (oc : Int) : Int → List Int → (Nat → Int)
  | _, [] => ord
  | k, v :: vs => ups (zu ord (oc * 4 + (k + 1)).toNat v) oc (k + 1) vs
def WDS : List (Int × List Int) := [(0, [102, 101, 114, 114, 121, 32, 35, 32, 64, 32, 64]), (1, [116, 117, 103, 32, 35, 32, 64]), (2, [108, 111, 99, 107, 32, 35, 32, 64, 32, 35]), (3, [102, 111, 103, 32, 35, 32, 64, 32, 35]), (4, [109, 111, 118, 101, 32, 35, 32, 35, 37]), (5, [112, 97, 115, 115])]
def rds (n : Int) (f : Nat → Int) (oc z : Int) : List (Int × List Int) → Int → (Nat → Int) → Int × (Nat → Int)
  | [], fu, ord => (-fu - 1, ord)
  | (w, l) :: ws, fu, ord => if (mtc n f l z).1 = true then ((mtc n f l z).2.1, zu (ups ord oc 0 (mtc n f l z).2.2) (oc * 4 + 0).toNat w) else
    rds n f oc z ws (if fu < (mtc n f l z).2.1 then (mtc n f l z).2.1 else fu) (ups ord oc 0 (mtc n f l z).2.2)
/-- well or not, where the error is, how many orders, the orders -/
def rdl (n : Int) (f : Nat → Int) : Nat → Int → Int → (Nat → Int) → Int × Int × Int × (Nat → Int)
  | 0, i, z, ord => (0, z, i, ord)
  | j + 1, i, z, ord =>
    if (rds n f i z WDS z ord).1 < 0 then (0, -(rds n f i z WDS z ord).1 - 1, i, (rds n f i z WDS z ord).2) else
    if (rds n f i z WDS z ord).1 = n then (1, -1, i + 1, (rds n f i z WDS z ord).2) else
    if sg n f (rds n f i z WDS z ord).1 = 59 then rdl n f j (i + 1) ((rds n f i z WDS z ord).1 + 1) (rds n f i z WDS z ord).2 else
    (0, (rds n f i z WDS z ord).1, i + 1, (rds n f i z WDS z ord).2)
def cnm : List Int → Int
  | [] => 0
  | p :: ps => (if isn p then 1 else 0) + cnm ps
theorem cnm_in : ∀ l, 0 ≤ cnm l
  | [] => Int.le_refl 0
  | p :: ps => by
    have h := cnm_in ps
    unfold cnm
    split <;> omega
theorem mtc_in {n : Int} {f : Nat → Int} : ∀ (l : List Int) (z : Int), (∀ p, p ∈ l → p ≠ 0) → 0 ≤ z → z ≤ n → z ≤ (mtc n f l z).2.1 ∧ (mtc n f l z).2.1 ≤ n := by
  intro l
  induction l with
  | nil => intro z _ h0 h1; exact ⟨Int.le_refl _, h1⟩
  | cons p ps ih =>
    intro z hp h0 h1
    have hw := @wdt_in n f p z (hp p (List.mem_cons_self))
    unfold mtc
    split
    · exact ⟨Int.le_refl _, h1⟩
    · have q := ih (z + wdt n f p z) (fun x hx => hp x (List.mem_cons_of_mem _ hx)) (by omega) (by omega)
      refine ⟨?_, q.2⟩
      have q1 := q.1
      show z ≤ (mtc n f ps (z + wdt n f p z)).2.1
      omega
theorem rds_in {n : Int} {f : Nat → Int} {oc z : Int} (h0 : 0 ≤ z) (h1 : z ≤ n) : ∀ (ws : List (Int × List Int)) (fu : Int) (ord : Nat → Int), (∀ w, w ∈ ws → ∀ p, p ∈ w.2 → p ≠ 0) → 0 ≤ fu → fu ≤ n → -n - 1 ≤ (rds n f oc z ws fu ord).1 ∧ (rds n f oc z ws fu ord).1 ≤ n := by
  intro ws
  induction ws with
  | nil => intro fu ord _ hf0 hf1; show -n - 1 ≤ -fu - 1 ∧ -fu - 1 ≤ n; omega
  | cons w ws ih =>
    intro fu ord hw hf0 hf1
    obtain ⟨w, l⟩ := w
    have hm := mtc_in (f := f) l z (hw (w, l) (List.mem_cons_self)) h0 h1
    unfold rds
    split
    · show -n - 1 ≤ (mtc n f l z).2.1 ∧ (mtc n f l z).2.1 ≤ n
      omega
    · exact ih _ _ (fun x hx => hw x (List.mem_cons_of_mem _ hx)) (by split <;> omega) (by split <;> omega)
theorem res_n {n : Int} {f : Nat → Int} {τ : SZ} {od : Nat → Int} {oc nu p z : Int} {ps : List Int} (h0 : ¬ wdt n f p z = 0) (h1 : isn p) :
    (Sum.inl (some (Sum.inr (rsv (mtc n f (p :: ps) z))), zr τ 18 (ups od oc nu (mtc n f (p :: ps) z).2.2)) : RSZ) = Sum.inl (some (Sum.inr (rsv (mtc n f ps (z + wdt n f p z)))), zr τ 18 (ups (zu od (oc * 4 + (nu + 1)).toNat (vlu n f p z (wdt n f p z))) oc (nu + 1) (mtc n f ps (z + wdt n f p z)).2.2)) := by
  rw [show mtc n f (p :: ps) z = _ from if_neg h0, if_pos h1]
  first | done | rfl
theorem res_f {n : Int} {f : Nat → Int} {τ : SZ} {od : Nat → Int} {oc nu p z : Int} {ps : List Int} (h0 : ¬ wdt n f p z = 0) (h1 : ¬ isn p) :
    (Sum.inl (some (Sum.inr (rsv (mtc n f (p :: ps) z))), zr τ 18 (ups od oc nu (mtc n f (p :: ps) z).2.2)) : RSZ) = Sum.inl (some (Sum.inr (rsv (mtc n f ps (z + wdt n f p z)))), zr τ 18 (ups od oc nu (mtc n f ps (z + wdt n f p z)).2.2)) := by
  rw [show mtc n f (p :: ps) z = _ from if_neg h0, if_neg h1]
  first | done | rfl
theorem chl {b : List Int32} {l ps : List Int} {k : Nat} {p : Int} (hb : b.map Int32.toInt = l) (hd : l.drop k = p :: ps) : k < b.length ∧ (b.getD k 0).toInt = p ∧ l.drop (k + 1) = ps := by
  have h1 : l[k]? = some p := by
    have e : (l.drop k)[0]? = some p := by rw [hd]; rfl
    rw [List.getElem?_drop] at e
    simpa using e
  have h2 : k < b.length := by
    have q := List.getElem?_eq_some_iff.mp h1
    obtain ⟨q, _⟩ := q
    rw [← hb, List.length_map] at q
    exact q
  refine ⟨h2, ?_, ?_⟩
  · rw [← hb, List.getElem?_map, List.getElem?_eq_getElem h2] at h1
    rw [List.getD_eq_getElem?_getD, List.getElem?_eq_getElem h2]
    simpa using h1
  · rw [← List.drop_drop, hd]
    rfl
theorem t_signAt {z : Int} {τ : SZ} (hz : Rng z) (hT : Tx τ) : RZ 1 m6_signAt [.inl 16, .inr z] τ (.inl (some (.inr (sg (τ 16 1) (τ 17) z)), τ)) := by
  have hT1 := hT.1
  have hT2 := hT.2
  obtain ⟨hz1, hz2⟩ := hz
  have h3 := hT2 z.toNat
  refine Ex.call ?_ rfl rfl
  show Ex _ _ (cod m6_signAt 0, [some (.inl 16), some (.inr z)], [], τ) _ _
  refine ex_k 1 (P := none) (g := (cod m6_signAt 1, [some (.inl 16), some (.inr z)], [.inr z], τ)) rfl trivial ?_
  refine ex_b (P := z < 0) (ct := (cod m6_signAt 16, [some (.inl 16), some (.inr z)], [], τ)) (cf := (cod m6_signAt 2, [some (.inl 16), some (.inr z)], [], τ)) rfl ⟨by omega, by omega⟩ (fun h1 => ?_) (fun h1 => ?_)
  · first
    | (exfalso; omega)
    | (
        refine ex_k 1 (P := none) (g := (cod m6_signAt 17, [some (.inl 16), some (.inr z)], [.inr 0], τ)) rfl trivial ?_
        exact ex_r rfl ⟨by omega, by omega⟩ rfl (rI (by unfold sg; first | rw [if_pos (by omega)] | rw [if_neg (by omega)])))
  · first
    | (exfalso; omega)
    | (
        refine ex_k 3 (P := none) (g := (cod m6_signAt 5, [some (.inl 16), some (.inr z)], [.inr ((τ 16) 1), .inr z], τ)) rfl trivial ?_
        refine ex_b (P := ((τ 16) 1) ≤ z) (ct := (cod m6_signAt 16, [some (.inl 16), some (.inr z)], [], τ)) (cf := (cod m6_signAt 6, [some (.inl 16), some (.inr z)], [], τ)) rfl ⟨⟨by omega, by omega⟩, ⟨by omega, by omega⟩⟩ (fun h2 => ?_) (fun h2 => ?_)
        · first
          | (exfalso; omega)
          | (
              refine ex_k 1 (P := none) (g := (cod m6_signAt 17, [some (.inl 16), some (.inr z)], [.inr 0], τ)) rfl trivial ?_
              exact ex_r rfl ⟨by omega, by omega⟩ rfl (rI (by unfold sg; first | rw [if_pos (by omega)] | rw [if_neg (by omega)])))
        · first
          | (exfalso; omega)
          | (
              refine ex_k 4 (P := none) (g := (cod m6_signAt 10, [some (.inl 16), some (.inr z)], [.inr 60, .inr z], τ)) rfl trivial ?_
              refine ex_b (P := 60 ≤ z) (ct := (cod m6_signAt 16, [some (.inl 16), some (.inr z)], [], τ)) (cf := (cod m6_signAt 11, [some (.inl 16), some (.inr z)], [], τ)) rfl ⟨⟨by omega, by omega⟩, ⟨by decide, by decide⟩⟩ (fun h3 => ?_) (fun h3 => ?_)
              · first
                | (exfalso; omega)
                | (
                    refine ex_k 1 (P := none) (g := (cod m6_signAt 17, [some (.inl 16), some (.inr z)], [.inr 0], τ)) rfl trivial ?_
                    exact ex_r rfl ⟨by omega, by omega⟩ rfl (rI (by unfold sg; first | rw [if_pos (by omega)] | rw [if_neg (by omega)])))
              · first
                | (exfalso; omega)
                | (
                    refine ex_k 4 (P := some (0 ≤ z ∧ z < ((60 : Nat) : Int))) (g := (cod m6_signAt 15, [some (.inl 16), some (.inr z)], [.inr ((τ 17) z.toNat)], τ)) rfl (by show 0 ≤ z ∧ z < ((60 : Nat) : Int); omega) ?_
                    refine ex_k 1 (P := none) (g := (cod m6_signAt 17, [some (.inl 16), some (.inr z)], [.inr ((τ 17) z.toNat)], τ)) rfl trivial ?_
                    exact ex_r rfl ⟨by omega, by omega⟩ rfl (rI (by unfold sg; first | rw [if_pos (by omega)] | rw [if_neg (by omega)])))))
theorem t_isDigit {c : Int} {τ : SZ} (hc : 0 ≤ c ∧ c < 65536) : RZ 1 m6_isDigit [.inr c] τ (.inl (some (.inr (b2 (48 ≤ c ∧ c ≤ 57))), τ)) := by
  refine Ex.call ?_ rfl rfl
  show Ex _ _ (cod m6_isDigit 0, [some (.inr c)], [], τ) _ _
  refine ex_k 2 (P := none) (g := (cod m6_isDigit 2, [some (.inr c)], [.inr 48, .inr c], τ)) rfl trivial ?_
  refine ex_b (P := c < 48) (ct := (cod m6_isDigit 8, [some (.inr c)], [], τ)) (cf := (cod m6_isDigit 3, [some (.inr c)], [], τ)) rfl ⟨⟨by omega, by omega⟩, ⟨by decide, by decide⟩⟩ (fun h1 => ?_) (fun h1 => ?_)
  · first
    | (exfalso; omega)
    | (
        refine ex_k 1 (P := none) (g := (cod m6_isDigit 9, [some (.inr c)], [.inr 0], τ)) rfl trivial ?_
        exact ex_r rfl (by first | exact Or.inl rfl | exact Or.inr rfl | omega) rfl (rI (by first | rw [b2_t (by omega)] | rw [b2_f (by omega)])))
  · first
    | (exfalso; omega)
    | (
        refine ex_k 2 (P := none) (g := (cod m6_isDigit 5, [some (.inr c)], [.inr 57, .inr c], τ)) rfl trivial ?_
        refine ex_b (P := 57 < c) (ct := (cod m6_isDigit 8, [some (.inr c)], [], τ)) (cf := (cod m6_isDigit 6, [some (.inr c)], [], τ)) rfl ⟨⟨by omega, by omega⟩, ⟨by decide, by decide⟩⟩ (fun h2 => ?_) (fun h2 => ?_)
        · first
          | (exfalso; omega)
          | (
              refine ex_k 1 (P := none) (g := (cod m6_isDigit 9, [some (.inr c)], [.inr 0], τ)) rfl trivial ?_
              exact ex_r rfl (by first | exact Or.inl rfl | exact Or.inr rfl | omega) rfl (rI (by first | rw [b2_t (by omega)] | rw [b2_f (by omega)])))
        · first
          | (exfalso; omega)
          | (
              refine ex_k 2 (P := none) (g := (cod m6_isDigit 9, [some (.inr c)], [.inr 1], τ)) rfl trivial ?_
              exact ex_r rfl (by first | exact Or.inl rfl | exact Or.inr rfl | omega) rfl (rI (by first | rw [b2_t (by omega)] | rw [b2_f (by omega)]))))
theorem t_wayAt {z : Int} {τ : SZ} (hz : -1000 ≤ z ∧ z ≤ 1000) (hT : Tx τ) : RZ 2 m6_wayAt [.inl 16, .inr z] τ (.inl (some (.inr (if sg (τ 16 1) (τ 17) z = 43 then 1 else 0)), τ)) := by
  have hT1 := hT.1
  have hT2 := hT.2
  have h3 := sg_in (n := τ 16 1) hT2 z
  refine Ex.call ?_ rfl rfl
  show Ex _ _ (cod m6_wayAt 0, [some (.inl 16), some (.inr z)], [], τ) _ _
  refine ex_k 2 (P := none) (g := (cod m6_wayAt 2, [some (.inl 16), some (.inr z)], [.inr z, .inl 16], τ)) rfl trivial ?_
  refine ex_c (t_signAt (τ := τ) (z := z) ⟨by omega, by omega⟩ hT) (is := cod m6_wayAt 3) (L := [some (.inl 16), some (.inr z)]) (st := []) rfl rfl rfl ?_
  show Ex _ _ (cod m6_wayAt 3, [some (.inl 16), some (.inr z)], [.inr (sg ((τ 16) 1) (τ 17) z)], τ) _ _
  refine ex_k 1 (P := none) (g := (cod m6_wayAt 4, [some (.inl 16), some (.inr z)], [.inr 43, .inr (sg ((τ 16) 1) (τ 17) z)], τ)) rfl trivial ?_
  refine ex_b (P := ¬ (sg ((τ 16) 1) (τ 17) z) = 43) (ct := (cod m6_wayAt 7, [some (.inl 16), some (.inr z)], [], τ)) (cf := (cod m6_wayAt 5, [some (.inl 16), some (.inr z)], [], τ)) rfl ⟨⟨by omega, by omega⟩, ⟨by decide, by decide⟩⟩ (fun h1 => ?_) (fun h1 => ?_)
  · first
    | (exfalso; omega)
    | (
        refine ex_k 1 (P := none) (g := (cod m6_wayAt 8, [some (.inl 16), some (.inr z)], [.inr 0], τ)) rfl trivial ?_
        exact ex_r rfl trivial rfl (rI (by (repeat (first | rw [if_pos (by omega)] | rw [if_neg (by omega)])))))
  · first
    | (exfalso; omega)
    | (
        refine ex_k 2 (P := none) (g := (cod m6_wayAt 8, [some (.inl 16), some (.inr z)], [.inr 1], τ)) rfl trivial ?_
        exact ex_r rfl trivial rfl (rI (by (repeat (first | rw [if_pos (by omega)] | rw [if_neg (by omega)])))))
theorem t_numberAt {z w : Int} {τ : SZ} (hz : -1000 ≤ z ∧ z ≤ 1000) (hw : w = 1 ∨ w = 2) (hT : Tx τ) : RZ 2 m6_numberAt [.inl 16, .inr z, .inr w] τ (.inl (some (.inr (nmb (τ 16 1) (τ 17) z w)), τ)) := by
  have hT1 := hT.1
  have hT2 := hT.2
  have h3 := sg_in (n := τ 16 1) hT2 (z + 0)
  have h4 := sg_in (n := τ 16 1) hT2 (z + 1)
  have e0 : z + 0 = z := Int.add_zero z
  rcases hw with rfl | rfl
  · refine Ex.call ?_ rfl rfl
    show Ex _ _ (cod m6_numberAt 0, [some (.inl 16), some (.inr z), some (.inr 1), none, none], [], τ) _ _
    refine ex_k 6 (P := none) (g := (cod m6_numberAt 6, [some (.inl 16), some (.inr z), some (.inr 1), some (.inr 0), some (.inr 0)], [.inr 1, .inr 0], τ)) rfl trivial ?_
    refine ex_b (P := 1 ≤ 0) (ct := (cod m6_numberAt 21, [some (.inl 16), some (.inr z), some (.inr 1), some (.inr 0), some (.inr 0)], [], τ)) (cf := (cod m6_numberAt 7, [some (.inl 16), some (.inr z), some (.inr 1), some (.inr 0), some (.inr 0)], [], τ)) rfl ⟨⟨by decide, by decide⟩, ⟨by decide, by decide⟩⟩ (fun hh => absurd hh (by decide)) (fun _ => ?_)
    refine ex_k 7 (P := none) (g := (cod m6_numberAt 14, [some (.inl 16), some (.inr z), some (.inr 1), some (.inr 0), some (.inr 0)], [.inr (z + 0), .inl 16, .inr 0], τ)) rfl trivial ?_
    refine ex_c (t_signAt (τ := τ) (z := z + 0) ⟨by omega, by omega⟩ hT) (is := cod m6_numberAt 15) (L := [some (.inl 16), some (.inr z), some (.inr 1), some (.inr 0), some (.inr 0)]) (st := [.inr 0]) rfl rfl rfl ?_
    show Ex _ _ (cod m6_numberAt 15, [some (.inl 16), some (.inr z), some (.inr 1), some (.inr 0), some (.inr 0)], [.inr (sg ((τ 16) 1) (τ 17) (z + 0)), .inr 0], τ) _ _
    refine ex_k 8 (P := none) (g := (cod m6_numberAt 6, [some (.inl 16), some (.inr z), some (.inr 1), some (.inr ((0 + (sg ((τ 16) 1) (τ 17) (z + 0))) - 48)), some (.inr 1)], [.inr 1, .inr 1], τ)) rfl trivial ?_
    refine ex_b (P := 1 ≤ 1) (ct := (cod m6_numberAt 21, [some (.inl 16), some (.inr z), some (.inr 1), some (.inr ((0 + (sg ((τ 16) 1) (τ 17) (z + 0))) - 48)), some (.inr 1)], [], τ)) (cf := (cod m6_numberAt 7, [some (.inl 16), some (.inr z), some (.inr 1), some (.inr ((0 + (sg ((τ 16) 1) (τ 17) (z + 0))) - 48)), some (.inr 1)], [], τ)) rfl ⟨⟨by decide, by decide⟩, ⟨by decide, by decide⟩⟩ (fun _ => ?_) (fun hh => absurd (by decide) hh)
    refine ex_k 1 (P := none) (g := (cod m6_numberAt 22, [some (.inl 16), some (.inr z), some (.inr 1), some (.inr ((0 + (sg ((τ 16) 1) (τ 17) (z + 0))) - 48)), some (.inr 1)], [.inr ((0 + (sg ((τ 16) 1) (τ 17) (z + 0))) - 48)], τ)) rfl trivial ?_
    exact ex_r rfl trivial rfl (rI (by unfold nmb; rw [e0]; (repeat (first | rw [if_pos (by omega)] | rw [if_neg (by omega)])); omega))
  · refine Ex.call ?_ rfl rfl
    show Ex _ _ (cod m6_numberAt 0, [some (.inl 16), some (.inr z), some (.inr 2), none, none], [], τ) _ _
    refine ex_k 6 (P := none) (g := (cod m6_numberAt 6, [some (.inl 16), some (.inr z), some (.inr 2), some (.inr 0), some (.inr 0)], [.inr 2, .inr 0], τ)) rfl trivial ?_
    refine ex_b (P := 2 ≤ 0) (ct := (cod m6_numberAt 21, [some (.inl 16), some (.inr z), some (.inr 2), some (.inr 0), some (.inr 0)], [], τ)) (cf := (cod m6_numberAt 7, [some (.inl 16), some (.inr z), some (.inr 2), some (.inr 0), some (.inr 0)], [], τ)) rfl ⟨⟨by decide, by decide⟩, ⟨by decide, by decide⟩⟩ (fun hh => absurd hh (by decide)) (fun _ => ?_)
    refine ex_k 7 (P := none) (g := (cod m6_numberAt 14, [some (.inl 16), some (.inr z), some (.inr 2), some (.inr 0), some (.inr 0)], [.inr (z + 0), .inl 16, .inr 0], τ)) rfl trivial ?_
    refine ex_c (t_signAt (τ := τ) (z := z + 0) ⟨by omega, by omega⟩ hT) (is := cod m6_numberAt 15) (L := [some (.inl 16), some (.inr z), some (.inr 2), some (.inr 0), some (.inr 0)]) (st := [.inr 0]) rfl rfl rfl ?_
    show Ex _ _ (cod m6_numberAt 15, [some (.inl 16), some (.inr z), some (.inr 2), some (.inr 0), some (.inr 0)], [.inr (sg ((τ 16) 1) (τ 17) (z + 0)), .inr 0], τ) _ _
    refine ex_k 8 (P := none) (g := (cod m6_numberAt 6, [some (.inl 16), some (.inr z), some (.inr 2), some (.inr ((0 + (sg ((τ 16) 1) (τ 17) (z + 0))) - 48)), some (.inr 1)], [.inr 2, .inr 1], τ)) rfl trivial ?_
    refine ex_b (P := 2 ≤ 1) (ct := (cod m6_numberAt 21, [some (.inl 16), some (.inr z), some (.inr 2), some (.inr ((0 + (sg ((τ 16) 1) (τ 17) (z + 0))) - 48)), some (.inr 1)], [], τ)) (cf := (cod m6_numberAt 7, [some (.inl 16), some (.inr z), some (.inr 2), some (.inr ((0 + (sg ((τ 16) 1) (τ 17) (z + 0))) - 48)), some (.inr 1)], [], τ)) rfl ⟨⟨by decide, by decide⟩, ⟨by decide, by decide⟩⟩ (fun hh => absurd hh (by decide)) (fun _ => ?_)
    refine ex_k 7 (P := none) (g := (cod m6_numberAt 14, [some (.inl 16), some (.inr z), some (.inr 2), some (.inr ((0 + (sg ((τ 16) 1) (τ 17) (z + 0))) - 48)), some (.inr 1)], [.inr (z + 1), .inl 16, .inr (((0 + (sg ((τ 16) 1) (τ 17) (z + 0))) - 48) * 10)], τ)) rfl trivial ?_
    refine ex_c (t_signAt (τ := τ) (z := z + 1) ⟨by omega, by omega⟩ hT) (is := cod m6_numberAt 15) (L := [some (.inl 16), some (.inr z), some (.inr 2), some (.inr ((0 + (sg ((τ 16) 1) (τ 17) (z + 0))) - 48)), some (.inr 1)]) (st := [.inr (((0 + (sg ((τ 16) 1) (τ 17) (z + 0))) - 48) * 10)]) rfl rfl rfl ?_
    show Ex _ _ (cod m6_numberAt 15, [some (.inl 16), some (.inr z), some (.inr 2), some (.inr ((0 + (sg ((τ 16) 1) (τ 17) (z + 0))) - 48)), some (.inr 1)], [.inr (sg ((τ 16) 1) (τ 17) (z + 1)), .inr (((0 + (sg ((τ 16) 1) (τ 17) (z + 0))) - 48) * 10)], τ) _ _
    refine ex_k 8 (P := none) (g := (cod m6_numberAt 6, [some (.inl 16), some (.inr z), some (.inr 2), some (.inr (((((0 + (sg ((τ 16) 1) (τ 17) (z + 0))) - 48) * 10) + (sg ((τ 16) 1) (τ 17) (z + 1))) - 48)), some (.inr 2)], [.inr 2, .inr 2], τ)) rfl trivial ?_
    refine ex_b (P := 2 ≤ 2) (ct := (cod m6_numberAt 21, [some (.inl 16), some (.inr z), some (.inr 2), some (.inr (((((0 + (sg ((τ 16) 1) (τ 17) (z + 0))) - 48) * 10) + (sg ((τ 16) 1) (τ 17) (z + 1))) - 48)), some (.inr 2)], [], τ)) (cf := (cod m6_numberAt 7, [some (.inl 16), some (.inr z), some (.inr 2), some (.inr (((((0 + (sg ((τ 16) 1) (τ 17) (z + 0))) - 48) * 10) + (sg ((τ 16) 1) (τ 17) (z + 1))) - 48)), some (.inr 2)], [], τ)) rfl ⟨⟨by decide, by decide⟩, ⟨by decide, by decide⟩⟩ (fun _ => ?_) (fun hh => absurd (by decide) hh)
    refine ex_k 1 (P := none) (g := (cod m6_numberAt 22, [some (.inl 16), some (.inr z), some (.inr 2), some (.inr (((((0 + (sg ((τ 16) 1) (τ 17) (z + 0))) - 48) * 10) + (sg ((τ 16) 1) (τ 17) (z + 1))) - 48)), some (.inr 2)], [.inr (((((0 + (sg ((τ 16) 1) (τ 17) (z + 0))) - 48) * 10) + (sg ((τ 16) 1) (τ 17) (z + 1))) - 48)], τ)) rfl trivial ?_
    exact ex_r rfl trivial rfl (rI (by unfold nmb; rw [e0]; (repeat (first | rw [if_pos (by omega)] | rw [if_neg (by omega)])); omega))
theorem t_widthOf {p z : Int} {τ : SZ} (hp : 0 ≤ p ∧ p < 65536) (hz : -1000 ≤ z ∧ z ≤ 1000) (hT : Tx τ) : RZ 2 m6_widthOf [.inl 16, .inr p, .inr z] τ (.inl (some (.inr (wdt (τ 16 1) (τ 17) p z)), τ)) := by
  have hT1 := hT.1
  have hT2 := hT.2
  have h3 := sg_in (n := τ 16 1) hT2 z
  have h4 := sg_in (n := τ 16 1) hT2 (z + 1)
  refine Ex.call ?_ rfl rfl
  show Ex _ _ (cod m6_widthOf 0, [some (.inl 16), some (.inr p), some (.inr z), none], [], τ) _ _
  refine ex_k 2 (P := none) (g := (cod m6_widthOf 2, [some (.inl 16), some (.inr p), some (.inr z), none], [.inr z, .inl 16], τ)) rfl trivial ?_
  refine ex_c (t_signAt (τ := τ) (z := z) ⟨by omega, by omega⟩ hT) (is := cod m6_widthOf 3) (L := [some (.inl 16), some (.inr p), some (.inr z), none]) (st := []) rfl rfl rfl ?_
  show Ex _ _ (cod m6_widthOf 3, [some (.inl 16), some (.inr p), some (.inr z), none], [.inr (sg ((τ 16) 1) (τ 17) z)], τ) _ _
  refine ex_k 3 (P := none) (g := (cod m6_widthOf 6, [some (.inl 16), some (.inr p), some (.inr z), some (.inr (sg ((τ 16) 1) (τ 17) z))], [.inr 64, .inr p], τ)) rfl trivial ?_
  refine ex_b (P := ¬ p = 64) (ct := (cod m6_widthOf 21, [some (.inl 16), some (.inr p), some (.inr z), some (.inr (sg ((τ 16) 1) (τ 17) z))], [], τ)) (cf := (cod m6_widthOf 7, [some (.inl 16), some (.inr p), some (.inr z), some (.inr (sg ((τ 16) 1) (τ 17) z))], [], τ)) rfl ⟨⟨by omega, by omega⟩, ⟨by decide, by decide⟩⟩ (fun h1 => ?_) (fun h1 => ?_)
  · first
    | (exfalso; omega)
    | (
        refine ex_k 2 (P := none) (g := (cod m6_widthOf 23, [some (.inl 16), some (.inr p), some (.inr z), some (.inr (sg ((τ 16) 1) (τ 17) z))], [.inr 35, .inr p], τ)) rfl trivial ?_
        refine ex_b (P := p = 35) (ct := (cod m6_widthOf 27, [some (.inl 16), some (.inr p), some (.inr z), some (.inr (sg ((τ 16) 1) (τ 17) z))], [], τ)) (cf := (cod m6_widthOf 24, [some (.inl 16), some (.inr p), some (.inr z), some (.inr (sg ((τ 16) 1) (τ 17) z))], [], τ)) rfl ⟨⟨by omega, by omega⟩, ⟨by decide, by decide⟩⟩ (fun h2 => ?_) (fun h2 => ?_)
        · first
          | (exfalso; omega)
          | (
              refine ex_k 1 (P := none) (g := (cod m6_widthOf 28, [some (.inl 16), some (.inr p), some (.inr z), some (.inr (sg ((τ 16) 1) (τ 17) z))], [.inr (sg ((τ 16) 1) (τ 17) z)], τ)) rfl trivial ?_
              refine ex_c (t_isDigit (τ := τ) (c := sg ((τ 16) 1) (τ 17) z) (sg_in hT2 _)) (is := cod m6_widthOf 29) (L := [some (.inl 16), some (.inr p), some (.inr z), some (.inr (sg ((τ 16) 1) (τ 17) z))]) (st := []) rfl rfl rfl ?_
              show Ex _ _ (cod m6_widthOf 29, [some (.inl 16), some (.inr p), some (.inr z), some (.inr (sg ((τ 16) 1) (τ 17) z))], [.inr (b2 (48 ≤ (sg ((τ 16) 1) (τ 17) z) ∧ (sg ((τ 16) 1) (τ 17) z) ≤ 57))], τ) _ _
              refine ex_b (P := (b2 (48 ≤ (sg ((τ 16) 1) (τ 17) z) ∧ (sg ((τ 16) 1) (τ 17) z) ≤ 57)) = 0) (ct := (cod m6_widthOf 32, [some (.inl 16), some (.inr p), some (.inr z), some (.inr (sg ((τ 16) 1) (τ 17) z))], [], τ)) (cf := (cod m6_widthOf 30, [some (.inl 16), some (.inr p), some (.inr z), some (.inr (sg ((τ 16) 1) (τ 17) z))], [], τ)) rfl b2_rng (fun h3 => ?_) (fun h3 => ?_)
              · first
                | (exfalso; have h3 := b2_e0 h3; omega)
                | (
                    have h3 := b2_e0 h3
                    refine ex_k 1 (P := none) (g := (cod m6_widthOf 33, [some (.inl 16), some (.inr p), some (.inr z), some (.inr (sg ((τ 16) 1) (τ 17) z))], [.inr 0], τ)) rfl trivial ?_
                    exact ex_r rfl trivial rfl (rI (by unfold wdt; (repeat (first | rw [if_pos (by omega)] | rw [if_neg (by omega)])))))
              · first
                | (exfalso; have h3 := b2_n0 h3; omega)
                | (
                    have h3 := b2_n0 h3
                    refine ex_k 2 (P := none) (g := (cod m6_widthOf 33, [some (.inl 16), some (.inr p), some (.inr z), some (.inr (sg ((τ 16) 1) (τ 17) z))], [.inr 1], τ)) rfl trivial ?_
                    exact ex_r rfl trivial rfl (rI (by unfold wdt; (repeat (first | rw [if_pos (by omega)] | rw [if_neg (by omega)]))))))
        · first
          | (exfalso; omega)
          | (
              refine ex_k 2 (P := none) (g := (cod m6_widthOf 26, [some (.inl 16), some (.inr p), some (.inr z), some (.inr (sg ((τ 16) 1) (τ 17) z))], [.inr 64, .inr p], τ)) rfl trivial ?_
              refine ex_b (P := ¬ p = 64) (ct := (cod m6_widthOf 34, [some (.inl 16), some (.inr p), some (.inr z), some (.inr (sg ((τ 16) 1) (τ 17) z))], [], τ)) (cf := (cod m6_widthOf 27, [some (.inl 16), some (.inr p), some (.inr z), some (.inr (sg ((τ 16) 1) (τ 17) z))], [], τ)) rfl ⟨⟨by omega, by omega⟩, ⟨by decide, by decide⟩⟩ (fun h4 => ?_) (fun h4 => ?_)
              · first
                | (exfalso; omega)
                | (
                    refine ex_k 2 (P := none) (g := (cod m6_widthOf 36, [some (.inl 16), some (.inr p), some (.inr z), some (.inr (sg ((τ 16) 1) (τ 17) z))], [.inr 37, .inr p], τ)) rfl trivial ?_
                    refine ex_b (P := ¬ p = 37) (ct := (cod m6_widthOf 47, [some (.inl 16), some (.inr p), some (.inr z), some (.inr (sg ((τ 16) 1) (τ 17) z))], [], τ)) (cf := (cod m6_widthOf 37, [some (.inl 16), some (.inr p), some (.inr z), some (.inr (sg ((τ 16) 1) (τ 17) z))], [], τ)) rfl ⟨⟨by omega, by omega⟩, ⟨by decide, by decide⟩⟩ (fun h5 => ?_) (fun h5 => ?_)
                    · first
                      | (exfalso; omega)
                      | (
                          refine ex_k 2 (P := none) (g := (cod m6_widthOf 49, [some (.inl 16), some (.inr p), some (.inr z), some (.inr (sg ((τ 16) 1) (τ 17) z))], [.inr p, .inr (sg ((τ 16) 1) (τ 17) z)], τ)) rfl trivial ?_
                          refine ex_b (P := ¬ (sg ((τ 16) 1) (τ 17) z) = p) (ct := (cod m6_widthOf 52, [some (.inl 16), some (.inr p), some (.inr z), some (.inr (sg ((τ 16) 1) (τ 17) z))], [], τ)) (cf := (cod m6_widthOf 50, [some (.inl 16), some (.inr p), some (.inr z), some (.inr (sg ((τ 16) 1) (τ 17) z))], [], τ)) rfl ⟨⟨by omega, by omega⟩, ⟨by omega, by omega⟩⟩ (fun h6 => ?_) (fun h6 => ?_)
                          · first
                            | (exfalso; omega)
                            | (
                                refine ex_k 1 (P := none) (g := (cod m6_widthOf 53, [some (.inl 16), some (.inr p), some (.inr z), some (.inr (sg ((τ 16) 1) (τ 17) z))], [.inr 0], τ)) rfl trivial ?_
                                exact ex_r rfl trivial rfl (rI (by unfold wdt; (repeat (first | rw [if_pos (by omega)] | rw [if_neg (by omega)])))))
                          · first
                            | (exfalso; omega)
                            | (
                                refine ex_k 2 (P := none) (g := (cod m6_widthOf 53, [some (.inl 16), some (.inr p), some (.inr z), some (.inr (sg ((τ 16) 1) (τ 17) z))], [.inr 1], τ)) rfl trivial ?_
                                exact ex_r rfl trivial rfl (rI (by unfold wdt; (repeat (first | rw [if_pos (by omega)] | rw [if_neg (by omega)]))))))
                    · first
                      | (exfalso; omega)
                      | (
                          refine ex_k 2 (P := none) (g := (cod m6_widthOf 39, [some (.inl 16), some (.inr p), some (.inr z), some (.inr (sg ((τ 16) 1) (τ 17) z))], [.inr 43, .inr (sg ((τ 16) 1) (τ 17) z)], τ)) rfl trivial ?_
                          refine ex_b (P := (sg ((τ 16) 1) (τ 17) z) = 43) (ct := (cod m6_widthOf 43, [some (.inl 16), some (.inr p), some (.inr z), some (.inr (sg ((τ 16) 1) (τ 17) z))], [], τ)) (cf := (cod m6_widthOf 40, [some (.inl 16), some (.inr p), some (.inr z), some (.inr (sg ((τ 16) 1) (τ 17) z))], [], τ)) rfl ⟨⟨by omega, by omega⟩, ⟨by decide, by decide⟩⟩ (fun h7 => ?_) (fun h7 => ?_)
                          · first
                            | (exfalso; omega)
                            | (
                                refine ex_k 2 (P := none) (g := (cod m6_widthOf 46, [some (.inl 16), some (.inr p), some (.inr z), some (.inr (sg ((τ 16) 1) (τ 17) z))], [.inr 1], τ)) rfl trivial ?_
                                exact ex_r rfl trivial rfl (rI (by unfold wdt; (repeat (first | rw [if_pos (by omega)] | rw [if_neg (by omega)])))))
                          · first
                            | (exfalso; omega)
                            | (
                                refine ex_k 2 (P := none) (g := (cod m6_widthOf 42, [some (.inl 16), some (.inr p), some (.inr z), some (.inr (sg ((τ 16) 1) (τ 17) z))], [.inr 45, .inr (sg ((τ 16) 1) (τ 17) z)], τ)) rfl trivial ?_
                                refine ex_b (P := ¬ (sg ((τ 16) 1) (τ 17) z) = 45) (ct := (cod m6_widthOf 45, [some (.inl 16), some (.inr p), some (.inr z), some (.inr (sg ((τ 16) 1) (τ 17) z))], [], τ)) (cf := (cod m6_widthOf 43, [some (.inl 16), some (.inr p), some (.inr z), some (.inr (sg ((τ 16) 1) (τ 17) z))], [], τ)) rfl ⟨⟨by omega, by omega⟩, ⟨by decide, by decide⟩⟩ (fun h8 => ?_) (fun h8 => ?_)
                                · first
                                  | (exfalso; omega)
                                  | (
                                      refine ex_k 1 (P := none) (g := (cod m6_widthOf 46, [some (.inl 16), some (.inr p), some (.inr z), some (.inr (sg ((τ 16) 1) (τ 17) z))], [.inr 0], τ)) rfl trivial ?_
                                      exact ex_r rfl trivial rfl (rI (by unfold wdt; (repeat (first | rw [if_pos (by omega)] | rw [if_neg (by omega)])))))
                                · first
                                  | (exfalso; omega)
                                  | (
                                      refine ex_k 2 (P := none) (g := (cod m6_widthOf 46, [some (.inl 16), some (.inr p), some (.inr z), some (.inr (sg ((τ 16) 1) (τ 17) z))], [.inr 1], τ)) rfl trivial ?_
                                      exact ex_r rfl trivial rfl (rI (by unfold wdt; (repeat (first | rw [if_pos (by omega)] | rw [if_neg (by omega)]))))))))
              · first
                | (exfalso; omega)
                | (
                    refine ex_k 1 (P := none) (g := (cod m6_widthOf 28, [some (.inl 16), some (.inr p), some (.inr z), some (.inr (sg ((τ 16) 1) (τ 17) z))], [.inr (sg ((τ 16) 1) (τ 17) z)], τ)) rfl trivial ?_
                    refine ex_c (t_isDigit (τ := τ) (c := sg ((τ 16) 1) (τ 17) z) (sg_in hT2 _)) (is := cod m6_widthOf 29) (L := [some (.inl 16), some (.inr p), some (.inr z), some (.inr (sg ((τ 16) 1) (τ 17) z))]) (st := []) rfl rfl rfl ?_
                    show Ex _ _ (cod m6_widthOf 29, [some (.inl 16), some (.inr p), some (.inr z), some (.inr (sg ((τ 16) 1) (τ 17) z))], [.inr (b2 (48 ≤ (sg ((τ 16) 1) (τ 17) z) ∧ (sg ((τ 16) 1) (τ 17) z) ≤ 57))], τ) _ _
                    refine ex_b (P := (b2 (48 ≤ (sg ((τ 16) 1) (τ 17) z) ∧ (sg ((τ 16) 1) (τ 17) z) ≤ 57)) = 0) (ct := (cod m6_widthOf 32, [some (.inl 16), some (.inr p), some (.inr z), some (.inr (sg ((τ 16) 1) (τ 17) z))], [], τ)) (cf := (cod m6_widthOf 30, [some (.inl 16), some (.inr p), some (.inr z), some (.inr (sg ((τ 16) 1) (τ 17) z))], [], τ)) rfl b2_rng (fun h9 => ?_) (fun h9 => ?_)
                    · first
                      | (exfalso; have h9 := b2_e0 h9; omega)
                      | (
                          have h9 := b2_e0 h9
                          refine ex_k 1 (P := none) (g := (cod m6_widthOf 33, [some (.inl 16), some (.inr p), some (.inr z), some (.inr (sg ((τ 16) 1) (τ 17) z))], [.inr 0], τ)) rfl trivial ?_
                          exact ex_r rfl trivial rfl (rI (by unfold wdt; (repeat (first | rw [if_pos (by omega)] | rw [if_neg (by omega)])))))
                    · first
                      | (exfalso; have h9 := b2_n0 h9; omega)
                      | (
                          have h9 := b2_n0 h9
                          refine ex_k 2 (P := none) (g := (cod m6_widthOf 33, [some (.inl 16), some (.inr p), some (.inr z), some (.inr (sg ((τ 16) 1) (τ 17) z))], [.inr 1], τ)) rfl trivial ?_
                          exact ex_r rfl trivial rfl (rI (by unfold wdt; (repeat (first | rw [if_pos (by omega)] | rw [if_neg (by omega)]))))))))
  · first
    | (exfalso; omega)
    | (
        refine ex_k 1 (P := none) (g := (cod m6_widthOf 8, [some (.inl 16), some (.inr p), some (.inr z), some (.inr (sg ((τ 16) 1) (τ 17) z))], [.inr (sg ((τ 16) 1) (τ 17) z)], τ)) rfl trivial ?_
        refine ex_c (t_isDigit (τ := τ) (c := sg ((τ 16) 1) (τ 17) z) (sg_in hT2 _)) (is := cod m6_widthOf 9) (L := [some (.inl 16), some (.inr p), some (.inr z), some (.inr (sg ((τ 16) 1) (τ 17) z))]) (st := []) rfl rfl rfl ?_
        show Ex _ _ (cod m6_widthOf 9, [some (.inl 16), some (.inr p), some (.inr z), some (.inr (sg ((τ 16) 1) (τ 17) z))], [.inr (b2 (48 ≤ (sg ((τ 16) 1) (τ 17) z) ∧ (sg ((τ 16) 1) (τ 17) z) ≤ 57))], τ) _ _
        refine ex_b (P := (b2 (48 ≤ (sg ((τ 16) 1) (τ 17) z) ∧ (sg ((τ 16) 1) (τ 17) z) ≤ 57)) = 0) (ct := (cod m6_widthOf 21, [some (.inl 16), some (.inr p), some (.inr z), some (.inr (sg ((τ 16) 1) (τ 17) z))], [], τ)) (cf := (cod m6_widthOf 10, [some (.inl 16), some (.inr p), some (.inr z), some (.inr (sg ((τ 16) 1) (τ 17) z))], [], τ)) rfl b2_rng (fun h10 => ?_) (fun h10 => ?_)
        · first
          | (exfalso; have h10 := b2_e0 h10; omega)
          | (
              have h10 := b2_e0 h10
              refine ex_k 2 (P := none) (g := (cod m6_widthOf 23, [some (.inl 16), some (.inr p), some (.inr z), some (.inr (sg ((τ 16) 1) (τ 17) z))], [.inr 35, .inr p], τ)) rfl trivial ?_
              refine ex_b (P := p = 35) (ct := (cod m6_widthOf 27, [some (.inl 16), some (.inr p), some (.inr z), some (.inr (sg ((τ 16) 1) (τ 17) z))], [], τ)) (cf := (cod m6_widthOf 24, [some (.inl 16), some (.inr p), some (.inr z), some (.inr (sg ((τ 16) 1) (τ 17) z))], [], τ)) rfl ⟨⟨by omega, by omega⟩, ⟨by decide, by decide⟩⟩ (fun h11 => ?_) (fun h11 => ?_)
              · first
                | (exfalso; omega)
                | (
                    refine ex_k 1 (P := none) (g := (cod m6_widthOf 28, [some (.inl 16), some (.inr p), some (.inr z), some (.inr (sg ((τ 16) 1) (τ 17) z))], [.inr (sg ((τ 16) 1) (τ 17) z)], τ)) rfl trivial ?_
                    refine ex_c (t_isDigit (τ := τ) (c := sg ((τ 16) 1) (τ 17) z) (sg_in hT2 _)) (is := cod m6_widthOf 29) (L := [some (.inl 16), some (.inr p), some (.inr z), some (.inr (sg ((τ 16) 1) (τ 17) z))]) (st := []) rfl rfl rfl ?_
                    show Ex _ _ (cod m6_widthOf 29, [some (.inl 16), some (.inr p), some (.inr z), some (.inr (sg ((τ 16) 1) (τ 17) z))], [.inr (b2 (48 ≤ (sg ((τ 16) 1) (τ 17) z) ∧ (sg ((τ 16) 1) (τ 17) z) ≤ 57))], τ) _ _
                    refine ex_b (P := (b2 (48 ≤ (sg ((τ 16) 1) (τ 17) z) ∧ (sg ((τ 16) 1) (τ 17) z) ≤ 57)) = 0) (ct := (cod m6_widthOf 32, [some (.inl 16), some (.inr p), some (.inr z), some (.inr (sg ((τ 16) 1) (τ 17) z))], [], τ)) (cf := (cod m6_widthOf 30, [some (.inl 16), some (.inr p), some (.inr z), some (.inr (sg ((τ 16) 1) (τ 17) z))], [], τ)) rfl b2_rng (fun h12 => ?_) (fun h12 => ?_)
                    · first
                      | (exfalso; have h12 := b2_e0 h12; omega)
                      | (
                          have h12 := b2_e0 h12
                          refine ex_k 1 (P := none) (g := (cod m6_widthOf 33, [some (.inl 16), some (.inr p), some (.inr z), some (.inr (sg ((τ 16) 1) (τ 17) z))], [.inr 0], τ)) rfl trivial ?_
                          exact ex_r rfl trivial rfl (rI (by unfold wdt; (repeat (first | rw [if_pos (by omega)] | rw [if_neg (by omega)])))))
                    · first
                      | (exfalso; have h12 := b2_n0 h12; omega)
                      | (
                          have h12 := b2_n0 h12
                          refine ex_k 2 (P := none) (g := (cod m6_widthOf 33, [some (.inl 16), some (.inr p), some (.inr z), some (.inr (sg ((τ 16) 1) (τ 17) z))], [.inr 1], τ)) rfl trivial ?_
                          exact ex_r rfl trivial rfl (rI (by unfold wdt; (repeat (first | rw [if_pos (by omega)] | rw [if_neg (by omega)]))))))
              · first
                | (exfalso; omega)
                | (
                    refine ex_k 2 (P := none) (g := (cod m6_widthOf 26, [some (.inl 16), some (.inr p), some (.inr z), some (.inr (sg ((τ 16) 1) (τ 17) z))], [.inr 64, .inr p], τ)) rfl trivial ?_
                    refine ex_b (P := ¬ p = 64) (ct := (cod m6_widthOf 34, [some (.inl 16), some (.inr p), some (.inr z), some (.inr (sg ((τ 16) 1) (τ 17) z))], [], τ)) (cf := (cod m6_widthOf 27, [some (.inl 16), some (.inr p), some (.inr z), some (.inr (sg ((τ 16) 1) (τ 17) z))], [], τ)) rfl ⟨⟨by omega, by omega⟩, ⟨by decide, by decide⟩⟩ (fun h13 => ?_) (fun h13 => ?_)
                    · first
                      | (exfalso; omega)
                      | (
                          refine ex_k 2 (P := none) (g := (cod m6_widthOf 36, [some (.inl 16), some (.inr p), some (.inr z), some (.inr (sg ((τ 16) 1) (τ 17) z))], [.inr 37, .inr p], τ)) rfl trivial ?_
                          refine ex_b (P := ¬ p = 37) (ct := (cod m6_widthOf 47, [some (.inl 16), some (.inr p), some (.inr z), some (.inr (sg ((τ 16) 1) (τ 17) z))], [], τ)) (cf := (cod m6_widthOf 37, [some (.inl 16), some (.inr p), some (.inr z), some (.inr (sg ((τ 16) 1) (τ 17) z))], [], τ)) rfl ⟨⟨by omega, by omega⟩, ⟨by decide, by decide⟩⟩ (fun h14 => ?_) (fun h14 => ?_)
                          · first
                            | (exfalso; omega)
                            | (
                                refine ex_k 2 (P := none) (g := (cod m6_widthOf 49, [some (.inl 16), some (.inr p), some (.inr z), some (.inr (sg ((τ 16) 1) (τ 17) z))], [.inr p, .inr (sg ((τ 16) 1) (τ 17) z)], τ)) rfl trivial ?_
                                refine ex_b (P := ¬ (sg ((τ 16) 1) (τ 17) z) = p) (ct := (cod m6_widthOf 52, [some (.inl 16), some (.inr p), some (.inr z), some (.inr (sg ((τ 16) 1) (τ 17) z))], [], τ)) (cf := (cod m6_widthOf 50, [some (.inl 16), some (.inr p), some (.inr z), some (.inr (sg ((τ 16) 1) (τ 17) z))], [], τ)) rfl ⟨⟨by omega, by omega⟩, ⟨by omega, by omega⟩⟩ (fun h15 => ?_) (fun h15 => ?_)
                                · first
                                  | (exfalso; omega)
                                  | (
                                      refine ex_k 1 (P := none) (g := (cod m6_widthOf 53, [some (.inl 16), some (.inr p), some (.inr z), some (.inr (sg ((τ 16) 1) (τ 17) z))], [.inr 0], τ)) rfl trivial ?_
                                      exact ex_r rfl trivial rfl (rI (by unfold wdt; (repeat (first | rw [if_pos (by omega)] | rw [if_neg (by omega)])))))
                                · first
                                  | (exfalso; omega)
                                  | (
                                      refine ex_k 2 (P := none) (g := (cod m6_widthOf 53, [some (.inl 16), some (.inr p), some (.inr z), some (.inr (sg ((τ 16) 1) (τ 17) z))], [.inr 1], τ)) rfl trivial ?_
                                      exact ex_r rfl trivial rfl (rI (by unfold wdt; (repeat (first | rw [if_pos (by omega)] | rw [if_neg (by omega)]))))))
                          · first
                            | (exfalso; omega)
                            | (
                                refine ex_k 2 (P := none) (g := (cod m6_widthOf 39, [some (.inl 16), some (.inr p), some (.inr z), some (.inr (sg ((τ 16) 1) (τ 17) z))], [.inr 43, .inr (sg ((τ 16) 1) (τ 17) z)], τ)) rfl trivial ?_
                                refine ex_b (P := (sg ((τ 16) 1) (τ 17) z) = 43) (ct := (cod m6_widthOf 43, [some (.inl 16), some (.inr p), some (.inr z), some (.inr (sg ((τ 16) 1) (τ 17) z))], [], τ)) (cf := (cod m6_widthOf 40, [some (.inl 16), some (.inr p), some (.inr z), some (.inr (sg ((τ 16) 1) (τ 17) z))], [], τ)) rfl ⟨⟨by omega, by omega⟩, ⟨by decide, by decide⟩⟩ (fun h16 => ?_) (fun h16 => ?_)
                                · first
                                  | (exfalso; omega)
                                  | (
                                      refine ex_k 2 (P := none) (g := (cod m6_widthOf 46, [some (.inl 16), some (.inr p), some (.inr z), some (.inr (sg ((τ 16) 1) (τ 17) z))], [.inr 1], τ)) rfl trivial ?_
                                      exact ex_r rfl trivial rfl (rI (by unfold wdt; (repeat (first | rw [if_pos (by omega)] | rw [if_neg (by omega)])))))
                                · first
                                  | (exfalso; omega)
                                  | (
                                      refine ex_k 2 (P := none) (g := (cod m6_widthOf 42, [some (.inl 16), some (.inr p), some (.inr z), some (.inr (sg ((τ 16) 1) (τ 17) z))], [.inr 45, .inr (sg ((τ 16) 1) (τ 17) z)], τ)) rfl trivial ?_
                                      refine ex_b (P := ¬ (sg ((τ 16) 1) (τ 17) z) = 45) (ct := (cod m6_widthOf 45, [some (.inl 16), some (.inr p), some (.inr z), some (.inr (sg ((τ 16) 1) (τ 17) z))], [], τ)) (cf := (cod m6_widthOf 43, [some (.inl 16), some (.inr p), some (.inr z), some (.inr (sg ((τ 16) 1) (τ 17) z))], [], τ)) rfl ⟨⟨by omega, by omega⟩, ⟨by decide, by decide⟩⟩ (fun h17 => ?_) (fun h17 => ?_)
                                      · first
                                        | (exfalso; omega)
                                        | (
                                            refine ex_k 1 (P := none) (g := (cod m6_widthOf 46, [some (.inl 16), some (.inr p), some (.inr z), some (.inr (sg ((τ 16) 1) (τ 17) z))], [.inr 0], τ)) rfl trivial ?_
                                            exact ex_r rfl trivial rfl (rI (by unfold wdt; (repeat (first | rw [if_pos (by omega)] | rw [if_neg (by omega)])))))
                                      · first
                                        | (exfalso; omega)
                                        | (
                                            refine ex_k 2 (P := none) (g := (cod m6_widthOf 46, [some (.inl 16), some (.inr p), some (.inr z), some (.inr (sg ((τ 16) 1) (τ 17) z))], [.inr 1], τ)) rfl trivial ?_
                                            exact ex_r rfl trivial rfl (rI (by unfold wdt; (repeat (first | rw [if_pos (by omega)] | rw [if_neg (by omega)]))))))))
                    · first
                      | (exfalso; omega)
                      | (
                          refine ex_k 1 (P := none) (g := (cod m6_widthOf 28, [some (.inl 16), some (.inr p), some (.inr z), some (.inr (sg ((τ 16) 1) (τ 17) z))], [.inr (sg ((τ 16) 1) (τ 17) z)], τ)) rfl trivial ?_
                          refine ex_c (t_isDigit (τ := τ) (c := sg ((τ 16) 1) (τ 17) z) (sg_in hT2 _)) (is := cod m6_widthOf 29) (L := [some (.inl 16), some (.inr p), some (.inr z), some (.inr (sg ((τ 16) 1) (τ 17) z))]) (st := []) rfl rfl rfl ?_
                          show Ex _ _ (cod m6_widthOf 29, [some (.inl 16), some (.inr p), some (.inr z), some (.inr (sg ((τ 16) 1) (τ 17) z))], [.inr (b2 (48 ≤ (sg ((τ 16) 1) (τ 17) z) ∧ (sg ((τ 16) 1) (τ 17) z) ≤ 57))], τ) _ _
                          refine ex_b (P := (b2 (48 ≤ (sg ((τ 16) 1) (τ 17) z) ∧ (sg ((τ 16) 1) (τ 17) z) ≤ 57)) = 0) (ct := (cod m6_widthOf 32, [some (.inl 16), some (.inr p), some (.inr z), some (.inr (sg ((τ 16) 1) (τ 17) z))], [], τ)) (cf := (cod m6_widthOf 30, [some (.inl 16), some (.inr p), some (.inr z), some (.inr (sg ((τ 16) 1) (τ 17) z))], [], τ)) rfl b2_rng (fun h18 => ?_) (fun h18 => ?_)
                          · first
                            | (exfalso; have h18 := b2_e0 h18; omega)
                            | (
                                have h18 := b2_e0 h18
                                refine ex_k 1 (P := none) (g := (cod m6_widthOf 33, [some (.inl 16), some (.inr p), some (.inr z), some (.inr (sg ((τ 16) 1) (τ 17) z))], [.inr 0], τ)) rfl trivial ?_
                                exact ex_r rfl trivial rfl (rI (by unfold wdt; (repeat (first | rw [if_pos (by omega)] | rw [if_neg (by omega)])))))
                          · first
                            | (exfalso; have h18 := b2_n0 h18; omega)
                            | (
                                have h18 := b2_n0 h18
                                refine ex_k 2 (P := none) (g := (cod m6_widthOf 33, [some (.inl 16), some (.inr p), some (.inr z), some (.inr (sg ((τ 16) 1) (τ 17) z))], [.inr 1], τ)) rfl trivial ?_
                                exact ex_r rfl trivial rfl (rI (by unfold wdt; (repeat (first | rw [if_pos (by omega)] | rw [if_neg (by omega)]))))))))
        · first
          | (exfalso; have h10 := b2_n0 h10; omega)
          | (
              have h10 := b2_n0 h10
              refine ex_k 4 (P := none) (g := (cod m6_widthOf 14, [some (.inl 16), some (.inr p), some (.inr z), some (.inr (sg ((τ 16) 1) (τ 17) z))], [.inr (z + 1), .inl 16], τ)) rfl trivial ?_
              refine ex_c (t_signAt (τ := τ) (z := z + 1) ⟨by omega, by omega⟩ hT) (is := cod m6_widthOf 15) (L := [some (.inl 16), some (.inr p), some (.inr z), some (.inr (sg ((τ 16) 1) (τ 17) z))]) (st := []) rfl rfl rfl ?_
              show Ex _ _ (cod m6_widthOf 15, [some (.inl 16), some (.inr p), some (.inr z), some (.inr (sg ((τ 16) 1) (τ 17) z))], [.inr (sg ((τ 16) 1) (τ 17) (z + 1))], τ) _ _
              refine ex_c (t_isDigit (τ := τ) (c := sg ((τ 16) 1) (τ 17) (z + 1)) (sg_in hT2 _)) (is := cod m6_widthOf 16) (L := [some (.inl 16), some (.inr p), some (.inr z), some (.inr (sg ((τ 16) 1) (τ 17) z))]) (st := []) rfl rfl rfl ?_
              show Ex _ _ (cod m6_widthOf 16, [some (.inl 16), some (.inr p), some (.inr z), some (.inr (sg ((τ 16) 1) (τ 17) z))], [.inr (b2 (48 ≤ (sg ((τ 16) 1) (τ 17) (z + 1)) ∧ (sg ((τ 16) 1) (τ 17) (z + 1)) ≤ 57))], τ) _ _
              refine ex_b (P := (b2 (48 ≤ (sg ((τ 16) 1) (τ 17) (z + 1)) ∧ (sg ((τ 16) 1) (τ 17) (z + 1)) ≤ 57)) = 0) (ct := (cod m6_widthOf 19, [some (.inl 16), some (.inr p), some (.inr z), some (.inr (sg ((τ 16) 1) (τ 17) z))], [], τ)) (cf := (cod m6_widthOf 17, [some (.inl 16), some (.inr p), some (.inr z), some (.inr (sg ((τ 16) 1) (τ 17) z))], [], τ)) rfl b2_rng (fun h19 => ?_) (fun h19 => ?_)
              · first
                | (exfalso; have h19 := b2_e0 h19; omega)
                | (
                    have h19 := b2_e0 h19
                    refine ex_k 1 (P := none) (g := (cod m6_widthOf 20, [some (.inl 16), some (.inr p), some (.inr z), some (.inr (sg ((τ 16) 1) (τ 17) z))], [.inr 1], τ)) rfl trivial ?_
                    exact ex_r rfl trivial rfl (rI (by unfold wdt; (repeat (first | rw [if_pos (by omega)] | rw [if_neg (by omega)])))))
              · first
                | (exfalso; have h19 := b2_n0 h19; omega)
                | (
                    have h19 := b2_n0 h19
                    refine ex_k 2 (P := none) (g := (cod m6_widthOf 20, [some (.inl 16), some (.inr p), some (.inr z), some (.inr (sg ((τ 16) 1) (τ 17) z))], [.inr 2], τ)) rfl trivial ?_
                    exact ex_r rfl trivial rfl (rI (by unfold wdt; (repeat (first | rw [if_pos (by omega)] | rw [if_neg (by omega)])))))))
theorem t_setOrder {c v : Int} {τ : SZ} (hc : 0 ≤ c ∧ c < 4) (ho : 0 ≤ τ 16 3 ∧ τ 16 3 < 13) : RZ 1 m6_setOrder [.inl 16, .inr c, .inr v] τ (.inl (none, zr τ 18 (zu (τ 18) (τ 16 3 * 4 + c).toNat v))) := by
  refine Ex.call ?_ rfl rfl
  show Ex _ _ (cod m6_setOrder 0, [some (.inl 16), some (.inr c), some (.inr v), none], [], τ) _ _
  refine ex_k 8 (P := none) (g := (cod m6_setOrder 8, [some (.inl 16), some (.inr c), some (.inr v), some (.inr ((((τ 16) 3) * 4) + c))], [.inr ((((τ 16) 3) * 4) + c)], τ)) rfl trivial ?_
  refine ex_b (P := ((((τ 16) 3) * 4) + c) < 0) (ct := (cod m6_setOrder 19, [some (.inl 16), some (.inr c), some (.inr v), some (.inr ((((τ 16) 3) * 4) + c))], [], τ)) (cf := (cod m6_setOrder 9, [some (.inl 16), some (.inr c), some (.inr v), some (.inr ((((τ 16) 3) * 4) + c))], [], τ)) rfl ⟨by omega, by omega⟩ (fun h1 => ?_) (fun h1 => ?_)
  · first
    | (exfalso; omega)
    | (
        exact ex_r rfl rfl rfl (rfl))
  · first
    | (exfalso; omega)
    | (
        refine ex_k 4 (P := none) (g := (cod m6_setOrder 13, [some (.inl 16), some (.inr c), some (.inr v), some (.inr ((((τ 16) 3) * 4) + c))], [.inr 52, .inr ((((τ 16) 3) * 4) + c)], τ)) rfl trivial ?_
        refine ex_b (P := 52 ≤ ((((τ 16) 3) * 4) + c)) (ct := (cod m6_setOrder 19, [some (.inl 16), some (.inr c), some (.inr v), some (.inr ((((τ 16) 3) * 4) + c))], [], τ)) (cf := (cod m6_setOrder 14, [some (.inl 16), some (.inr c), some (.inr v), some (.inr ((((τ 16) 3) * 4) + c))], [], τ)) rfl ⟨⟨by omega, by omega⟩, ⟨by decide, by decide⟩⟩ (fun h2 => ?_) (fun h2 => ?_)
        · first
          | (exfalso; omega)
          | (
              exact ex_r rfl rfl rfl (rfl))
        · first
          | (exfalso; omega)
          | (
              refine ex_k 5 (P := some ((0 ≤ ((((τ 16) 3) * 4) + c) ∧ ((((τ 16) 3) * 4) + c) < ((52 : Nat) : Int)) ∧ (0 = 1 → 0 ≤ v ∧ v < 65536))) (g := (cod m6_setOrder 19, [some (.inl 16), some (.inr c), some (.inr v), some (.inr ((((τ 16) 3) * 4) + c))], [], (zr τ 18 (zu (τ 18) ((((τ 16) 3) * 4) + c).toNat v)))) rfl (by show (0 ≤ ((((τ 16) 3) * 4) + c) ∧ ((((τ 16) 3) * 4) + c) < ((52 : Nat) : Int)) ∧ (0 = 1 → 0 ≤ v ∧ v < 65536); omega) ?_
              exact ex_r rfl rfl rfl (rfl)))
theorem t_orderAt {i c : Int} {τ : SZ} (hc : 0 ≤ c ∧ c < 4) (ho : 0 ≤ i ∧ i < 13) : RZ 1 m6_orderAt [.inl 16, .inr i, .inr c] τ (.inl (some (.inr (τ 18 (i * 4 + c).toNat)), τ)) := by
  refine Ex.call ?_ rfl rfl
  show Ex _ _ (cod m6_orderAt 0, [some (.inl 16), some (.inr i), some (.inr c), none], [], τ) _ _
  refine ex_k 7 (P := none) (g := (cod m6_orderAt 7, [some (.inl 16), some (.inr i), some (.inr c), some (.inr ((i * 4) + c))], [.inr ((i * 4) + c)], τ)) rfl trivial ?_
  refine ex_b (P := ((i * 4) + c) < 0) (ct := (cod m6_orderAt 18, [some (.inl 16), some (.inr i), some (.inr c), some (.inr ((i * 4) + c))], [], τ)) (cf := (cod m6_orderAt 8, [some (.inl 16), some (.inr i), some (.inr c), some (.inr ((i * 4) + c))], [], τ)) rfl ⟨by omega, by omega⟩ (fun h1 => ?_) (fun h1 => ?_)
  · first
    | (exfalso; omega)
    | (
        refine ex_k 1 (P := none) (g := (cod m6_orderAt 19, [some (.inl 16), some (.inr i), some (.inr c), some (.inr ((i * 4) + c))], [.inr 0], τ)) rfl trivial ?_
        exact ex_r rfl trivial rfl (rfl))
  · first
    | (exfalso; omega)
    | (
        refine ex_k 4 (P := none) (g := (cod m6_orderAt 12, [some (.inl 16), some (.inr i), some (.inr c), some (.inr ((i * 4) + c))], [.inr 52, .inr ((i * 4) + c)], τ)) rfl trivial ?_
        refine ex_b (P := 52 ≤ ((i * 4) + c)) (ct := (cod m6_orderAt 18, [some (.inl 16), some (.inr i), some (.inr c), some (.inr ((i * 4) + c))], [], τ)) (cf := (cod m6_orderAt 13, [some (.inl 16), some (.inr i), some (.inr c), some (.inr ((i * 4) + c))], [], τ)) rfl ⟨⟨by omega, by omega⟩, ⟨by decide, by decide⟩⟩ (fun h2 => ?_) (fun h2 => ?_)
        · first
          | (exfalso; omega)
          | (
              refine ex_k 1 (P := none) (g := (cod m6_orderAt 19, [some (.inl 16), some (.inr i), some (.inr c), some (.inr ((i * 4) + c))], [.inr 0], τ)) rfl trivial ?_
              exact ex_r rfl trivial rfl (rfl))
        · first
          | (exfalso; omega)
          | (
              refine ex_k 4 (P := some (0 ≤ ((i * 4) + c) ∧ ((i * 4) + c) < ((52 : Nat) : Int))) (g := (cod m6_orderAt 17, [some (.inl 16), some (.inr i), some (.inr c), some (.inr ((i * 4) + c))], [.inr ((τ 18) ((i * 4) + c).toNat)], τ)) rfl (by show 0 ≤ ((i * 4) + c) ∧ ((i * 4) + c) < ((52 : Nat) : Int); omega) ?_
              refine ex_k 1 (P := none) (g := (cod m6_orderAt 19, [some (.inl 16), some (.inr i), some (.inr c), some (.inr ((i * 4) + c))], [.inr ((τ 18) ((i * 4) + c).toNat)], τ)) rfl trivial ?_
              exact ex_r rfl trivial rfl (rfl)))
theorem t_shapeOf_0 {τ : SZ} : RZ 1 m6_shapeOf [.inr 0] τ (.inl (some (.inl 100), τ)) := by
  refine Ex.call ?_ rfl rfl
  show Ex _ _ (cod m6_shapeOf 0, [some (.inr 0)], [], τ) _ _
  refine ex_k 2 (P := some (Rng 0)) (g := (cod m6_shapeOf 2, [some (.inr 0)], [], τ)) rfl ⟨by decide, by decide⟩ ?_
  refine ex_k 1 (P := none) (g := (cod m6_shapeOf 3, [some (.inr 0)], [.inl 100], τ)) rfl trivial ?_
  exact ex_r rfl trivial rfl (rfl)
theorem t_shapeOf_1 {τ : SZ} : RZ 1 m6_shapeOf [.inr 1] τ (.inl (some (.inl 101), τ)) := by
  refine Ex.call ?_ rfl rfl
  show Ex _ _ (cod m6_shapeOf 0, [some (.inr 1)], [], τ) _ _
  refine ex_k 2 (P := some (Rng 1)) (g := (cod m6_shapeOf 4, [some (.inr 1)], [], τ)) rfl ⟨by decide, by decide⟩ ?_
  refine ex_k 1 (P := none) (g := (cod m6_shapeOf 5, [some (.inr 1)], [.inl 101], τ)) rfl trivial ?_
  exact ex_r rfl trivial rfl (rfl)
theorem t_shapeOf_2 {τ : SZ} : RZ 1 m6_shapeOf [.inr 2] τ (.inl (some (.inl 102), τ)) := by
  refine Ex.call ?_ rfl rfl
  show Ex _ _ (cod m6_shapeOf 0, [some (.inr 2)], [], τ) _ _
  refine ex_k 2 (P := some (Rng 2)) (g := (cod m6_shapeOf 6, [some (.inr 2)], [], τ)) rfl ⟨by decide, by decide⟩ ?_
  refine ex_k 1 (P := none) (g := (cod m6_shapeOf 7, [some (.inr 2)], [.inl 102], τ)) rfl trivial ?_
  exact ex_r rfl trivial rfl (rfl)
theorem t_shapeOf_3 {τ : SZ} : RZ 1 m6_shapeOf [.inr 3] τ (.inl (some (.inl 103), τ)) := by
  refine Ex.call ?_ rfl rfl
  show Ex _ _ (cod m6_shapeOf 0, [some (.inr 3)], [], τ) _ _
  refine ex_k 2 (P := some (Rng 3)) (g := (cod m6_shapeOf 8, [some (.inr 3)], [], τ)) rfl ⟨by decide, by decide⟩ ?_
  refine ex_k 1 (P := none) (g := (cod m6_shapeOf 9, [some (.inr 3)], [.inl 103], τ)) rfl trivial ?_
  exact ex_r rfl trivial rfl (rfl)
theorem t_shapeOf_4 {τ : SZ} : RZ 1 m6_shapeOf [.inr 4] τ (.inl (some (.inl 104), τ)) := by
  refine Ex.call ?_ rfl rfl
  show Ex _ _ (cod m6_shapeOf 0, [some (.inr 4)], [], τ) _ _
  refine ex_k 2 (P := some (Rng 4)) (g := (cod m6_shapeOf 10, [some (.inr 4)], [], τ)) rfl ⟨by decide, by decide⟩ ?_
  refine ex_k 1 (P := none) (g := (cod m6_shapeOf 11, [some (.inr 4)], [.inl 104], τ)) rfl trivial ?_
  exact ex_r rfl trivial rfl (rfl)
theorem t_shapeOf_5 {τ : SZ} : RZ 1 m6_shapeOf [.inr 5] τ (.inl (some (.inl 105), τ)) := by
  refine Ex.call ?_ rfl rfl
  show Ex _ _ (cod m6_shapeOf 0, [some (.inr 5)], [], τ) _ _
  refine ex_k 2 (P := some (Rng 5)) (g := (cod m6_shapeOf 12, [some (.inr 5)], [], τ)) rfl ⟨by decide, by decide⟩ ?_
  refine ex_k 1 (P := none) (g := (cod m6_shapeOf 13, [some (.inr 5)], [.inl 105], τ)) rfl trivial ?_
  exact ex_r rfl trivial rfl (rfl)
theorem lp_shape_0 {st : Int} {τ : SZ} (hT : Tx τ) (hoc : 0 ≤ τ 16 3 ∧ τ 16 3 < 13) : ∀ (ps : List Int) (k : Nat) (z nu : Int) (od : Nat → Int) (o7 o8 : Option VZ), List.drop k [102, 101, 114, 114, 121, 32, 35, 32, 64, 32, 64] = ps → (∀ p, p ∈ ps → 0 < p ∧ p < 1000) → k + ps.length = 11 → 0 ≤ z → z ≤ τ 16 1 → 0 ≤ nu → nu + cnm ps ≤ 3 → Ex 3 m6_readShape (cod m6_readShape 9, [some (.inl 16), some (.inr 0), some (.inr st), some (.inl 100), some (.inr z), some (.inr nu), some (.inr (k : Int)), o7, o8], [], (zr τ 18 od)) 0 (.inl (some (.inr (rsv (mtc (τ 16 1) (τ 17) ps z))), zr τ 18 (ups od (τ 16 3) nu (mtc (τ 16 1) (τ 17) ps z).2.2))) := by
  have hT1 := hT.1
  have hT2 := hT.2
  have hlen : ((byS.getD 0 []).length : Int) = 11 := rfl
  intro ps
  induction ps with
  | nil =>
    intro k z nu od o7 o8 hd hpp hk hz0 hz1 hnu0 hnu3
    rw [List.length_nil] at hk
    refine ex_k 3 (P := none) (g := (cod m6_readShape 12, [some (.inl 16), some (.inr 0), some (.inr st), some (.inl 100), some (.inr z), some (.inr nu), some (.inr (k : Int)), o7, o8], [.inr ((byS.getD 0 []).length : Int), .inr (k : Int)], (zr τ 18 od))) rfl trivial ?_
    refine ex_b (P := ((byS.getD 0 []).length : Int) ≤ (k : Int)) (ct := (cod m6_readShape 58, [some (.inl 16), some (.inr 0), some (.inr st), some (.inl 100), some (.inr z), some (.inr nu), some (.inr (k : Int)), o7, o8], [], (zr τ 18 od))) (cf := (cod m6_readShape 13, [some (.inl 16), some (.inr 0), some (.inr st), some (.inl 100), some (.inr z), some (.inr nu), some (.inr (k : Int)), o7, o8], [], (zr τ 18 od))) rfl ⟨⟨by omega, by omega⟩, ⟨by omega, by omega⟩⟩ (fun _ => ?_) (fun hh => absurd (by omega) hh)
    refine ex_k 1 (P := none) (g := (cod m6_readShape 59, [some (.inl 16), some (.inr 0), some (.inr st), some (.inl 100), some (.inr z), some (.inr nu), some (.inr (k : Int)), o7, o8], [.inr z], (zr τ 18 od))) rfl trivial ?_
    exact ex_r rfl trivial rfl (rfl)
  | cons p ps ih =>
    intro k z nu od o7 o8 hd hpp hk hz0 hz1 hnu0 hnu3
    obtain ⟨hc1, hc2, hc3⟩ := chl (b := byS.getD 0 []) rfl hd
    have hp0 := hpp p (List.mem_cons_self)
    have hw := @wdt_in (τ 16 1) (τ 17) p z (by omega)
    have hcn := cnm_in ps
    have hps := fun q hq => hpp q (List.mem_cons_of_mem p hq)
    have hcc : cnm (p :: ps) = (if isn p then 1 else 0) + cnm ps := rfl
    rw [List.length_cons] at hk
    refine ex_k 3 (P := none) (g := (cod m6_readShape 12, [some (.inl 16), some (.inr 0), some (.inr st), some (.inl 100), some (.inr z), some (.inr nu), some (.inr (k : Int)), o7, o8], [.inr ((byS.getD 0 []).length : Int), .inr (k : Int)], (zr τ 18 od))) rfl trivial ?_
    refine ex_b (P := ((byS.getD 0 []).length : Int) ≤ (k : Int)) (ct := (cod m6_readShape 58, [some (.inl 16), some (.inr 0), some (.inr st), some (.inl 100), some (.inr z), some (.inr nu), some (.inr (k : Int)), o7, o8], [], (zr τ 18 od))) (cf := (cod m6_readShape 13, [some (.inl 16), some (.inr 0), some (.inr st), some (.inl 100), some (.inr z), some (.inr nu), some (.inr (k : Int)), o7, o8], [], (zr τ 18 od))) rfl ⟨⟨by omega, by omega⟩, ⟨by omega, by omega⟩⟩ (fun hh => absurd hh (by omega)) (fun _ => ?_)
    refine ex_k 3 (P := some (0 ≤ (k : Int) ∧ (k : Int) < ((byS.getD 0 []).length : Int))) (g := (cod m6_readShape 16, [some (.inl 16), some (.inr 0), some (.inr st), some (.inl 100), some (.inr z), some (.inr nu), some (.inr (k : Int)), o7, o8], [.inr (((byS.getD 0 []).getD (k : Int).toNat 0).toInt)], (zr τ 18 od))) rfl (by show 0 ≤ (k : Int) ∧ (k : Int) < ((byS.getD 0 []).length : Int); omega) ?_
    rw [show ((byS.getD 0 []).getD (k : Int).toNat 0).toInt = p from hc2]
    refine ex_k 4 (P := none) (g := (cod m6_readShape 20, [some (.inl 16), some (.inr 0), some (.inr st), some (.inl 100), some (.inr z), some (.inr nu), some (.inr (k : Int)), some (.inr p), o8], [.inr z, .inr p, .inl 16], (zr τ 18 od))) rfl trivial ?_
    refine ex_c (t_widthOf (τ := (zr τ 18 od)) (p := p) (z := z) (by omega) (by omega) hT) (is := cod m6_readShape 21) (L := [some (.inl 16), some (.inr 0), some (.inr st), some (.inl 100), some (.inr z), some (.inr nu), some (.inr (k : Int)), some (.inr p), o8]) (st := []) rfl rfl rfl ?_
    show Ex _ _ (cod m6_readShape 21, [some (.inl 16), some (.inr 0), some (.inr st), some (.inl 100), some (.inr z), some (.inr nu), some (.inr (k : Int)), some (.inr p), o8], [.inr (wdt ((τ 16) 1) (τ 17) p z)], (zr τ 18 od)) _ _
    refine ex_k 2 (P := none) (g := (cod m6_readShape 23, [some (.inl 16), some (.inr 0), some (.inr st), some (.inl 100), some (.inr z), some (.inr nu), some (.inr (k : Int)), some (.inr p), some (.inr (wdt ((τ 16) 1) (τ 17) p z))], [.inr (wdt ((τ 16) 1) (τ 17) p z)], (zr τ 18 od))) rfl trivial ?_
    refine ex_b (P := ¬ (wdt ((τ 16) 1) (τ 17) p z) = 0) (ct := (cod m6_readShape 28, [some (.inl 16), some (.inr 0), some (.inr st), some (.inl 100), some (.inr z), some (.inr nu), some (.inr (k : Int)), some (.inr p), some (.inr (wdt ((τ 16) 1) (τ 17) p z))], [], (zr τ 18 od))) (cf := (cod m6_readShape 24, [some (.inl 16), some (.inr 0), some (.inr st), some (.inl 100), some (.inr z), some (.inr nu), some (.inr (k : Int)), some (.inr p), some (.inr (wdt ((τ 16) 1) (τ 17) p z))], [], (zr τ 18 od))) rfl ⟨by omega, by omega⟩ (fun h1 => ?_) (fun h1 => ?_)
    · first
      | (exfalso; omega)
      | (
          refine ex_k 2 (P := none) (g := (cod m6_readShape 30, [some (.inl 16), some (.inr 0), some (.inr st), some (.inl 100), some (.inr z), some (.inr nu), some (.inr (k : Int)), some (.inr p), some (.inr (wdt ((τ 16) 1) (τ 17) p z))], [.inr 35, .inr p], (zr τ 18 od))) rfl trivial ?_
          refine ex_b (P := p = 35) (ct := (cod m6_readShape 37, [some (.inl 16), some (.inr 0), some (.inr st), some (.inl 100), some (.inr z), some (.inr nu), some (.inr (k : Int)), some (.inr p), some (.inr (wdt ((τ 16) 1) (τ 17) p z))], [], (zr τ 18 od))) (cf := (cod m6_readShape 31, [some (.inl 16), some (.inr 0), some (.inr st), some (.inl 100), some (.inr z), some (.inr nu), some (.inr (k : Int)), some (.inr p), some (.inr (wdt ((τ 16) 1) (τ 17) p z))], [], (zr τ 18 od))) rfl ⟨⟨by omega, by omega⟩, ⟨by decide, by decide⟩⟩ (fun h2 => ?_) (fun h2 => ?_)
          · first
            | (exfalso; omega)
            | (
                refine ex_k 5 (P := none) (g := (cod m6_readShape 42, [some (.inl 16), some (.inr 0), some (.inr st), some (.inl 100), some (.inr z), some (.inr (nu + 1)), some (.inr (k : Int)), some (.inr p), some (.inr (wdt ((τ 16) 1) (τ 17) p z))], [.inr 37, .inr p, .inr (nu + 1), .inl 16], (zr τ 18 od))) rfl trivial ?_
                refine ex_b (P := ¬ p = 37) (ct := (cod m6_readShape 47, [some (.inl 16), some (.inr 0), some (.inr st), some (.inl 100), some (.inr z), some (.inr (nu + 1)), some (.inr (k : Int)), some (.inr p), some (.inr (wdt ((τ 16) 1) (τ 17) p z))], [.inr (nu + 1), .inl 16], (zr τ 18 od))) (cf := (cod m6_readShape 43, [some (.inl 16), some (.inr 0), some (.inr st), some (.inl 100), some (.inr z), some (.inr (nu + 1)), some (.inr (k : Int)), some (.inr p), some (.inr (wdt ((τ 16) 1) (τ 17) p z))], [.inr (nu + 1), .inl 16], (zr τ 18 od))) rfl ⟨⟨by omega, by omega⟩, ⟨by decide, by decide⟩⟩ (fun h3 => ?_) (fun h3 => ?_)
                · first
                  | (exfalso; omega)
                  | (
                      refine ex_k 3 (P := none) (g := (cod m6_readShape 50, [some (.inl 16), some (.inr 0), some (.inr st), some (.inl 100), some (.inr z), some (.inr (nu + 1)), some (.inr (k : Int)), some (.inr p), some (.inr (wdt ((τ 16) 1) (τ 17) p z))], [.inr (wdt ((τ 16) 1) (τ 17) p z), .inr z, .inl 16, .inr (nu + 1), .inl 16], (zr τ 18 od))) rfl trivial ?_
                      refine ex_c (t_numberAt (τ := (zr τ 18 od)) (z := z) (w := wdt ((τ 16) 1) (τ 17) p z) (by omega) (by omega) hT) (is := cod m6_readShape 51) (L := [some (.inl 16), some (.inr 0), some (.inr st), some (.inl 100), some (.inr z), some (.inr (nu + 1)), some (.inr (k : Int)), some (.inr p), some (.inr (wdt ((τ 16) 1) (τ 17) p z))]) (st := [.inr (nu + 1), .inl 16]) rfl rfl rfl ?_
                      show Ex _ _ (cod m6_readShape 51, [some (.inl 16), some (.inr 0), some (.inr st), some (.inl 100), some (.inr z), some (.inr (nu + 1)), some (.inr (k : Int)), some (.inr p), some (.inr (wdt ((τ 16) 1) (τ 17) p z))], [.inr (nmb ((τ 16) 1) (τ 17) z (wdt ((τ 16) 1) (τ 17) p z)), .inr (nu + 1), .inl 16], (zr τ 18 od)) _ _
                      refine ex_c (t_setOrder (τ := (zr τ 18 od)) (c := nu + 1) (v := nmb ((τ 16) 1) (τ 17) z (wdt ((τ 16) 1) (τ 17) p z)) (by omega) hoc) (is := cod m6_readShape 52) (L := [some (.inl 16), some (.inr 0), some (.inr st), some (.inl 100), some (.inr z), some (.inr (nu + 1)), some (.inr (k : Int)), some (.inr p), some (.inr (wdt ((τ 16) 1) (τ 17) p z))]) (st := []) rfl rfl rfl ?_
                      show Ex _ _ (cod m6_readShape 52, [some (.inl 16), some (.inr 0), some (.inr st), some (.inl 100), some (.inr z), some (.inr (nu + 1)), some (.inr (k : Int)), some (.inr p), some (.inr (wdt ((τ 16) 1) (τ 17) p z))], [], (zr (zr τ 18 od) 18 (zu od ((τ 16) 3 * 4 + (nu + 1)).toNat (nmb ((τ 16) 1) (τ 17) z (wdt ((τ 16) 1) (τ 17) p z))))) _ _
                      rw [zr_zr]
                      refine ex_k 6 (P := none) (g := (cod m6_readShape 9, [some (.inl 16), some (.inr 0), some (.inr st), some (.inl 100), some (.inr (z + (wdt ((τ 16) 1) (τ 17) p z))), some (.inr (nu + 1)), some (.inr ((k : Int) + 1)), some (.inr p), some (.inr (wdt ((τ 16) 1) (τ 17) p z))], [], (zr τ 18 (zu od ((τ 16) 3 * 4 + (nu + 1)).toNat (nmb ((τ 16) 1) (τ 17) z (wdt ((τ 16) 1) (τ 17) p z)))))) rfl trivial ?_
                      have hnu4 : cnm (p :: ps) = 1 + cnm ps := by rw [hcc, if_pos (by unfold isn; omega)]
                      rw [res_n (by omega) (show isn p by unfold isn; omega), show vlu (τ 16 1) (τ 17) p z (wdt (τ 16 1) (τ 17) p z) = (nmb ((τ 16) 1) (τ 17) z (wdt ((τ 16) 1) (τ 17) p z)) from by unfold vlu; first | rw [if_pos (by omega)] | rw [if_neg (by omega)]]
                      exact ih (k + 1) _ _ _ _ _ hc3 hps (by omega) (by omega) (by omega) (by omega) (by omega))
                · first
                  | (exfalso; omega)
                  | (
                      refine ex_k 2 (P := none) (g := (cod m6_readShape 45, [some (.inl 16), some (.inr 0), some (.inr st), some (.inl 100), some (.inr z), some (.inr (nu + 1)), some (.inr (k : Int)), some (.inr p), some (.inr (wdt ((τ 16) 1) (τ 17) p z))], [.inr z, .inl 16, .inr (nu + 1), .inl 16], (zr τ 18 od))) rfl trivial ?_
                      refine ex_c (t_wayAt (τ := (zr τ 18 od)) (z := z) (by omega) hT) (is := cod m6_readShape 46) (L := [some (.inl 16), some (.inr 0), some (.inr st), some (.inl 100), some (.inr z), some (.inr (nu + 1)), some (.inr (k : Int)), some (.inr p), some (.inr (wdt ((τ 16) 1) (τ 17) p z))]) (st := [.inr (nu + 1), .inl 16]) rfl rfl rfl ?_
                      show Ex _ _ (cod m6_readShape 46, [some (.inl 16), some (.inr 0), some (.inr st), some (.inl 100), some (.inr z), some (.inr (nu + 1)), some (.inr (k : Int)), some (.inr p), some (.inr (wdt ((τ 16) 1) (τ 17) p z))], [.inr (if sg ((τ 16) 1) (τ 17) z = 43 then 1 else 0), .inr (nu + 1), .inl 16], (zr τ 18 od)) _ _
                      refine ex_k 1 (P := none) (g := (cod m6_readShape 51, [some (.inl 16), some (.inr 0), some (.inr st), some (.inl 100), some (.inr z), some (.inr (nu + 1)), some (.inr (k : Int)), some (.inr p), some (.inr (wdt ((τ 16) 1) (τ 17) p z))], [.inr (if sg ((τ 16) 1) (τ 17) z = 43 then 1 else 0), .inr (nu + 1), .inl 16], (zr τ 18 od))) rfl trivial ?_
                      refine ex_c (t_setOrder (τ := (zr τ 18 od)) (c := nu + 1) (v := if sg ((τ 16) 1) (τ 17) z = 43 then 1 else 0) (by omega) hoc) (is := cod m6_readShape 52) (L := [some (.inl 16), some (.inr 0), some (.inr st), some (.inl 100), some (.inr z), some (.inr (nu + 1)), some (.inr (k : Int)), some (.inr p), some (.inr (wdt ((τ 16) 1) (τ 17) p z))]) (st := []) rfl rfl rfl ?_
                      show Ex _ _ (cod m6_readShape 52, [some (.inl 16), some (.inr 0), some (.inr st), some (.inl 100), some (.inr z), some (.inr (nu + 1)), some (.inr (k : Int)), some (.inr p), some (.inr (wdt ((τ 16) 1) (τ 17) p z))], [], (zr (zr τ 18 od) 18 (zu od ((τ 16) 3 * 4 + (nu + 1)).toNat (if sg ((τ 16) 1) (τ 17) z = 43 then 1 else 0)))) _ _
                      rw [zr_zr]
                      refine ex_k 6 (P := none) (g := (cod m6_readShape 9, [some (.inl 16), some (.inr 0), some (.inr st), some (.inl 100), some (.inr (z + (wdt ((τ 16) 1) (τ 17) p z))), some (.inr (nu + 1)), some (.inr ((k : Int) + 1)), some (.inr p), some (.inr (wdt ((τ 16) 1) (τ 17) p z))], [], (zr τ 18 (zu od ((τ 16) 3 * 4 + (nu + 1)).toNat (if sg ((τ 16) 1) (τ 17) z = 43 then 1 else 0))))) rfl trivial ?_
                      have hnu4 : cnm (p :: ps) = 1 + cnm ps := by rw [hcc, if_pos (by unfold isn; omega)]
                      rw [res_n (by omega) (show isn p by unfold isn; omega), show vlu (τ 16 1) (τ 17) p z (wdt (τ 16 1) (τ 17) p z) = (if sg ((τ 16) 1) (τ 17) z = 43 then 1 else 0) from by unfold vlu; first | rw [if_pos (by omega)] | rw [if_neg (by omega)]]
                      exact ih (k + 1) _ _ _ _ _ hc3 hps (by omega) (by omega) (by omega) (by omega) (by omega)))
          · first
            | (exfalso; omega)
            | (
                refine ex_k 2 (P := none) (g := (cod m6_readShape 33, [some (.inl 16), some (.inr 0), some (.inr st), some (.inl 100), some (.inr z), some (.inr nu), some (.inr (k : Int)), some (.inr p), some (.inr (wdt ((τ 16) 1) (τ 17) p z))], [.inr 64, .inr p], (zr τ 18 od))) rfl trivial ?_
                refine ex_b (P := p = 64) (ct := (cod m6_readShape 37, [some (.inl 16), some (.inr 0), some (.inr st), some (.inl 100), some (.inr z), some (.inr nu), some (.inr (k : Int)), some (.inr p), some (.inr (wdt ((τ 16) 1) (τ 17) p z))], [], (zr τ 18 od))) (cf := (cod m6_readShape 34, [some (.inl 16), some (.inr 0), some (.inr st), some (.inl 100), some (.inr z), some (.inr nu), some (.inr (k : Int)), some (.inr p), some (.inr (wdt ((τ 16) 1) (τ 17) p z))], [], (zr τ 18 od))) rfl ⟨⟨by omega, by omega⟩, ⟨by decide, by decide⟩⟩ (fun h4 => ?_) (fun h4 => ?_)
                · first
                  | (exfalso; omega)
                  | (
                      refine ex_k 5 (P := none) (g := (cod m6_readShape 42, [some (.inl 16), some (.inr 0), some (.inr st), some (.inl 100), some (.inr z), some (.inr (nu + 1)), some (.inr (k : Int)), some (.inr p), some (.inr (wdt ((τ 16) 1) (τ 17) p z))], [.inr 37, .inr p, .inr (nu + 1), .inl 16], (zr τ 18 od))) rfl trivial ?_
                      refine ex_b (P := ¬ p = 37) (ct := (cod m6_readShape 47, [some (.inl 16), some (.inr 0), some (.inr st), some (.inl 100), some (.inr z), some (.inr (nu + 1)), some (.inr (k : Int)), some (.inr p), some (.inr (wdt ((τ 16) 1) (τ 17) p z))], [.inr (nu + 1), .inl 16], (zr τ 18 od))) (cf := (cod m6_readShape 43, [some (.inl 16), some (.inr 0), some (.inr st), some (.inl 100), some (.inr z), some (.inr (nu + 1)), some (.inr (k : Int)), some (.inr p), some (.inr (wdt ((τ 16) 1) (τ 17) p z))], [.inr (nu + 1), .inl 16], (zr τ 18 od))) rfl ⟨⟨by omega, by omega⟩, ⟨by decide, by decide⟩⟩ (fun h5 => ?_) (fun h5 => ?_)
                      · first
                        | (exfalso; omega)
                        | (
                            refine ex_k 3 (P := none) (g := (cod m6_readShape 50, [some (.inl 16), some (.inr 0), some (.inr st), some (.inl 100), some (.inr z), some (.inr (nu + 1)), some (.inr (k : Int)), some (.inr p), some (.inr (wdt ((τ 16) 1) (τ 17) p z))], [.inr (wdt ((τ 16) 1) (τ 17) p z), .inr z, .inl 16, .inr (nu + 1), .inl 16], (zr τ 18 od))) rfl trivial ?_
                            refine ex_c (t_numberAt (τ := (zr τ 18 od)) (z := z) (w := wdt ((τ 16) 1) (τ 17) p z) (by omega) (by omega) hT) (is := cod m6_readShape 51) (L := [some (.inl 16), some (.inr 0), some (.inr st), some (.inl 100), some (.inr z), some (.inr (nu + 1)), some (.inr (k : Int)), some (.inr p), some (.inr (wdt ((τ 16) 1) (τ 17) p z))]) (st := [.inr (nu + 1), .inl 16]) rfl rfl rfl ?_
                            show Ex _ _ (cod m6_readShape 51, [some (.inl 16), some (.inr 0), some (.inr st), some (.inl 100), some (.inr z), some (.inr (nu + 1)), some (.inr (k : Int)), some (.inr p), some (.inr (wdt ((τ 16) 1) (τ 17) p z))], [.inr (nmb ((τ 16) 1) (τ 17) z (wdt ((τ 16) 1) (τ 17) p z)), .inr (nu + 1), .inl 16], (zr τ 18 od)) _ _
                            refine ex_c (t_setOrder (τ := (zr τ 18 od)) (c := nu + 1) (v := nmb ((τ 16) 1) (τ 17) z (wdt ((τ 16) 1) (τ 17) p z)) (by omega) hoc) (is := cod m6_readShape 52) (L := [some (.inl 16), some (.inr 0), some (.inr st), some (.inl 100), some (.inr z), some (.inr (nu + 1)), some (.inr (k : Int)), some (.inr p), some (.inr (wdt ((τ 16) 1) (τ 17) p z))]) (st := []) rfl rfl rfl ?_
                            show Ex _ _ (cod m6_readShape 52, [some (.inl 16), some (.inr 0), some (.inr st), some (.inl 100), some (.inr z), some (.inr (nu + 1)), some (.inr (k : Int)), some (.inr p), some (.inr (wdt ((τ 16) 1) (τ 17) p z))], [], (zr (zr τ 18 od) 18 (zu od ((τ 16) 3 * 4 + (nu + 1)).toNat (nmb ((τ 16) 1) (τ 17) z (wdt ((τ 16) 1) (τ 17) p z))))) _ _
                            rw [zr_zr]
                            refine ex_k 6 (P := none) (g := (cod m6_readShape 9, [some (.inl 16), some (.inr 0), some (.inr st), some (.inl 100), some (.inr (z + (wdt ((τ 16) 1) (τ 17) p z))), some (.inr (nu + 1)), some (.inr ((k : Int) + 1)), some (.inr p), some (.inr (wdt ((τ 16) 1) (τ 17) p z))], [], (zr τ 18 (zu od ((τ 16) 3 * 4 + (nu + 1)).toNat (nmb ((τ 16) 1) (τ 17) z (wdt ((τ 16) 1) (τ 17) p z)))))) rfl trivial ?_
                            have hnu4 : cnm (p :: ps) = 1 + cnm ps := by rw [hcc, if_pos (by unfold isn; omega)]
                            rw [res_n (by omega) (show isn p by unfold isn; omega), show vlu (τ 16 1) (τ 17) p z (wdt (τ 16 1) (τ 17) p z) = (nmb ((τ 16) 1) (τ 17) z (wdt ((τ 16) 1) (τ 17) p z)) from by unfold vlu; first | rw [if_pos (by omega)] | rw [if_neg (by omega)]]
                            exact ih (k + 1) _ _ _ _ _ hc3 hps (by omega) (by omega) (by omega) (by omega) (by omega))
                      · first
                        | (exfalso; omega)
                        | (
                            refine ex_k 2 (P := none) (g := (cod m6_readShape 45, [some (.inl 16), some (.inr 0), some (.inr st), some (.inl 100), some (.inr z), some (.inr (nu + 1)), some (.inr (k : Int)), some (.inr p), some (.inr (wdt ((τ 16) 1) (τ 17) p z))], [.inr z, .inl 16, .inr (nu + 1), .inl 16], (zr τ 18 od))) rfl trivial ?_
                            refine ex_c (t_wayAt (τ := (zr τ 18 od)) (z := z) (by omega) hT) (is := cod m6_readShape 46) (L := [some (.inl 16), some (.inr 0), some (.inr st), some (.inl 100), some (.inr z), some (.inr (nu + 1)), some (.inr (k : Int)), some (.inr p), some (.inr (wdt ((τ 16) 1) (τ 17) p z))]) (st := [.inr (nu + 1), .inl 16]) rfl rfl rfl ?_
                            show Ex _ _ (cod m6_readShape 46, [some (.inl 16), some (.inr 0), some (.inr st), some (.inl 100), some (.inr z), some (.inr (nu + 1)), some (.inr (k : Int)), some (.inr p), some (.inr (wdt ((τ 16) 1) (τ 17) p z))], [.inr (if sg ((τ 16) 1) (τ 17) z = 43 then 1 else 0), .inr (nu + 1), .inl 16], (zr τ 18 od)) _ _
                            refine ex_k 1 (P := none) (g := (cod m6_readShape 51, [some (.inl 16), some (.inr 0), some (.inr st), some (.inl 100), some (.inr z), some (.inr (nu + 1)), some (.inr (k : Int)), some (.inr p), some (.inr (wdt ((τ 16) 1) (τ 17) p z))], [.inr (if sg ((τ 16) 1) (τ 17) z = 43 then 1 else 0), .inr (nu + 1), .inl 16], (zr τ 18 od))) rfl trivial ?_
                            refine ex_c (t_setOrder (τ := (zr τ 18 od)) (c := nu + 1) (v := if sg ((τ 16) 1) (τ 17) z = 43 then 1 else 0) (by omega) hoc) (is := cod m6_readShape 52) (L := [some (.inl 16), some (.inr 0), some (.inr st), some (.inl 100), some (.inr z), some (.inr (nu + 1)), some (.inr (k : Int)), some (.inr p), some (.inr (wdt ((τ 16) 1) (τ 17) p z))]) (st := []) rfl rfl rfl ?_
                            show Ex _ _ (cod m6_readShape 52, [some (.inl 16), some (.inr 0), some (.inr st), some (.inl 100), some (.inr z), some (.inr (nu + 1)), some (.inr (k : Int)), some (.inr p), some (.inr (wdt ((τ 16) 1) (τ 17) p z))], [], (zr (zr τ 18 od) 18 (zu od ((τ 16) 3 * 4 + (nu + 1)).toNat (if sg ((τ 16) 1) (τ 17) z = 43 then 1 else 0)))) _ _
                            rw [zr_zr]
                            refine ex_k 6 (P := none) (g := (cod m6_readShape 9, [some (.inl 16), some (.inr 0), some (.inr st), some (.inl 100), some (.inr (z + (wdt ((τ 16) 1) (τ 17) p z))), some (.inr (nu + 1)), some (.inr ((k : Int) + 1)), some (.inr p), some (.inr (wdt ((τ 16) 1) (τ 17) p z))], [], (zr τ 18 (zu od ((τ 16) 3 * 4 + (nu + 1)).toNat (if sg ((τ 16) 1) (τ 17) z = 43 then 1 else 0))))) rfl trivial ?_
                            have hnu4 : cnm (p :: ps) = 1 + cnm ps := by rw [hcc, if_pos (by unfold isn; omega)]
                            rw [res_n (by omega) (show isn p by unfold isn; omega), show vlu (τ 16 1) (τ 17) p z (wdt (τ 16 1) (τ 17) p z) = (if sg ((τ 16) 1) (τ 17) z = 43 then 1 else 0) from by unfold vlu; first | rw [if_pos (by omega)] | rw [if_neg (by omega)]]
                            exact ih (k + 1) _ _ _ _ _ hc3 hps (by omega) (by omega) (by omega) (by omega) (by omega)))
                · first
                  | (exfalso; omega)
                  | (
                      refine ex_k 2 (P := none) (g := (cod m6_readShape 36, [some (.inl 16), some (.inr 0), some (.inr st), some (.inl 100), some (.inr z), some (.inr nu), some (.inr (k : Int)), some (.inr p), some (.inr (wdt ((τ 16) 1) (τ 17) p z))], [.inr 37, .inr p], (zr τ 18 od))) rfl trivial ?_
                      refine ex_b (P := ¬ p = 37) (ct := (cod m6_readShape 52, [some (.inl 16), some (.inr 0), some (.inr st), some (.inl 100), some (.inr z), some (.inr nu), some (.inr (k : Int)), some (.inr p), some (.inr (wdt ((τ 16) 1) (τ 17) p z))], [], (zr τ 18 od))) (cf := (cod m6_readShape 37, [some (.inl 16), some (.inr 0), some (.inr st), some (.inl 100), some (.inr z), some (.inr nu), some (.inr (k : Int)), some (.inr p), some (.inr (wdt ((τ 16) 1) (τ 17) p z))], [], (zr τ 18 od))) rfl ⟨⟨by omega, by omega⟩, ⟨by decide, by decide⟩⟩ (fun h6 => ?_) (fun h6 => ?_)
                      · first
                        | (exfalso; omega)
                        | (
                            refine ex_k 6 (P := none) (g := (cod m6_readShape 9, [some (.inl 16), some (.inr 0), some (.inr st), some (.inl 100), some (.inr (z + (wdt ((τ 16) 1) (τ 17) p z))), some (.inr nu), some (.inr ((k : Int) + 1)), some (.inr p), some (.inr (wdt ((τ 16) 1) (τ 17) p z))], [], (zr τ 18 od))) rfl trivial ?_
                            have hnu4 : cnm (p :: ps) = 0 + cnm ps := by rw [hcc, if_neg (by unfold isn; omega)]
                            rw [res_f (by omega) (show ¬ isn p by unfold isn; omega)]
                            exact ih (k + 1) _ _ _ _ _ hc3 hps (by omega) (by omega) (by omega) (by omega) (by omega))
                      · first
                        | (exfalso; omega)
                        | (
                            refine ex_k 5 (P := none) (g := (cod m6_readShape 42, [some (.inl 16), some (.inr 0), some (.inr st), some (.inl 100), some (.inr z), some (.inr (nu + 1)), some (.inr (k : Int)), some (.inr p), some (.inr (wdt ((τ 16) 1) (τ 17) p z))], [.inr 37, .inr p, .inr (nu + 1), .inl 16], (zr τ 18 od))) rfl trivial ?_
                            refine ex_b (P := ¬ p = 37) (ct := (cod m6_readShape 47, [some (.inl 16), some (.inr 0), some (.inr st), some (.inl 100), some (.inr z), some (.inr (nu + 1)), some (.inr (k : Int)), some (.inr p), some (.inr (wdt ((τ 16) 1) (τ 17) p z))], [.inr (nu + 1), .inl 16], (zr τ 18 od))) (cf := (cod m6_readShape 43, [some (.inl 16), some (.inr 0), some (.inr st), some (.inl 100), some (.inr z), some (.inr (nu + 1)), some (.inr (k : Int)), some (.inr p), some (.inr (wdt ((τ 16) 1) (τ 17) p z))], [.inr (nu + 1), .inl 16], (zr τ 18 od))) rfl ⟨⟨by omega, by omega⟩, ⟨by decide, by decide⟩⟩ (fun h7 => ?_) (fun h7 => ?_)
                            · first
                              | (exfalso; omega)
                              | (
                                  refine ex_k 3 (P := none) (g := (cod m6_readShape 50, [some (.inl 16), some (.inr 0), some (.inr st), some (.inl 100), some (.inr z), some (.inr (nu + 1)), some (.inr (k : Int)), some (.inr p), some (.inr (wdt ((τ 16) 1) (τ 17) p z))], [.inr (wdt ((τ 16) 1) (τ 17) p z), .inr z, .inl 16, .inr (nu + 1), .inl 16], (zr τ 18 od))) rfl trivial ?_
                                  refine ex_c (t_numberAt (τ := (zr τ 18 od)) (z := z) (w := wdt ((τ 16) 1) (τ 17) p z) (by omega) (by omega) hT) (is := cod m6_readShape 51) (L := [some (.inl 16), some (.inr 0), some (.inr st), some (.inl 100), some (.inr z), some (.inr (nu + 1)), some (.inr (k : Int)), some (.inr p), some (.inr (wdt ((τ 16) 1) (τ 17) p z))]) (st := [.inr (nu + 1), .inl 16]) rfl rfl rfl ?_
                                  show Ex _ _ (cod m6_readShape 51, [some (.inl 16), some (.inr 0), some (.inr st), some (.inl 100), some (.inr z), some (.inr (nu + 1)), some (.inr (k : Int)), some (.inr p), some (.inr (wdt ((τ 16) 1) (τ 17) p z))], [.inr (nmb ((τ 16) 1) (τ 17) z (wdt ((τ 16) 1) (τ 17) p z)), .inr (nu + 1), .inl 16], (zr τ 18 od)) _ _
                                  refine ex_c (t_setOrder (τ := (zr τ 18 od)) (c := nu + 1) (v := nmb ((τ 16) 1) (τ 17) z (wdt ((τ 16) 1) (τ 17) p z)) (by omega) hoc) (is := cod m6_readShape 52) (L := [some (.inl 16), some (.inr 0), some (.inr st), some (.inl 100), some (.inr z), some (.inr (nu + 1)), some (.inr (k : Int)), some (.inr p), some (.inr (wdt ((τ 16) 1) (τ 17) p z))]) (st := []) rfl rfl rfl ?_
                                  show Ex _ _ (cod m6_readShape 52, [some (.inl 16), some (.inr 0), some (.inr st), some (.inl 100), some (.inr z), some (.inr (nu + 1)), some (.inr (k : Int)), some (.inr p), some (.inr (wdt ((τ 16) 1) (τ 17) p z))], [], (zr (zr τ 18 od) 18 (zu od ((τ 16) 3 * 4 + (nu + 1)).toNat (nmb ((τ 16) 1) (τ 17) z (wdt ((τ 16) 1) (τ 17) p z))))) _ _
                                  rw [zr_zr]
                                  refine ex_k 6 (P := none) (g := (cod m6_readShape 9, [some (.inl 16), some (.inr 0), some (.inr st), some (.inl 100), some (.inr (z + (wdt ((τ 16) 1) (τ 17) p z))), some (.inr (nu + 1)), some (.inr ((k : Int) + 1)), some (.inr p), some (.inr (wdt ((τ 16) 1) (τ 17) p z))], [], (zr τ 18 (zu od ((τ 16) 3 * 4 + (nu + 1)).toNat (nmb ((τ 16) 1) (τ 17) z (wdt ((τ 16) 1) (τ 17) p z)))))) rfl trivial ?_
                                  have hnu4 : cnm (p :: ps) = 1 + cnm ps := by rw [hcc, if_pos (by unfold isn; omega)]
                                  rw [res_n (by omega) (show isn p by unfold isn; omega), show vlu (τ 16 1) (τ 17) p z (wdt (τ 16 1) (τ 17) p z) = (nmb ((τ 16) 1) (τ 17) z (wdt ((τ 16) 1) (τ 17) p z)) from by unfold vlu; first | rw [if_pos (by omega)] | rw [if_neg (by omega)]]
                                  exact ih (k + 1) _ _ _ _ _ hc3 hps (by omega) (by omega) (by omega) (by omega) (by omega))
                            · first
                              | (exfalso; omega)
                              | (
                                  refine ex_k 2 (P := none) (g := (cod m6_readShape 45, [some (.inl 16), some (.inr 0), some (.inr st), some (.inl 100), some (.inr z), some (.inr (nu + 1)), some (.inr (k : Int)), some (.inr p), some (.inr (wdt ((τ 16) 1) (τ 17) p z))], [.inr z, .inl 16, .inr (nu + 1), .inl 16], (zr τ 18 od))) rfl trivial ?_
                                  refine ex_c (t_wayAt (τ := (zr τ 18 od)) (z := z) (by omega) hT) (is := cod m6_readShape 46) (L := [some (.inl 16), some (.inr 0), some (.inr st), some (.inl 100), some (.inr z), some (.inr (nu + 1)), some (.inr (k : Int)), some (.inr p), some (.inr (wdt ((τ 16) 1) (τ 17) p z))]) (st := [.inr (nu + 1), .inl 16]) rfl rfl rfl ?_
                                  show Ex _ _ (cod m6_readShape 46, [some (.inl 16), some (.inr 0), some (.inr st), some (.inl 100), some (.inr z), some (.inr (nu + 1)), some (.inr (k : Int)), some (.inr p), some (.inr (wdt ((τ 16) 1) (τ 17) p z))], [.inr (if sg ((τ 16) 1) (τ 17) z = 43 then 1 else 0), .inr (nu + 1), .inl 16], (zr τ 18 od)) _ _
                                  refine ex_k 1 (P := none) (g := (cod m6_readShape 51, [some (.inl 16), some (.inr 0), some (.inr st), some (.inl 100), some (.inr z), some (.inr (nu + 1)), some (.inr (k : Int)), some (.inr p), some (.inr (wdt ((τ 16) 1) (τ 17) p z))], [.inr (if sg ((τ 16) 1) (τ 17) z = 43 then 1 else 0), .inr (nu + 1), .inl 16], (zr τ 18 od))) rfl trivial ?_
                                  refine ex_c (t_setOrder (τ := (zr τ 18 od)) (c := nu + 1) (v := if sg ((τ 16) 1) (τ 17) z = 43 then 1 else 0) (by omega) hoc) (is := cod m6_readShape 52) (L := [some (.inl 16), some (.inr 0), some (.inr st), some (.inl 100), some (.inr z), some (.inr (nu + 1)), some (.inr (k : Int)), some (.inr p), some (.inr (wdt ((τ 16) 1) (τ 17) p z))]) (st := []) rfl rfl rfl ?_
                                  show Ex _ _ (cod m6_readShape 52, [some (.inl 16), some (.inr 0), some (.inr st), some (.inl 100), some (.inr z), some (.inr (nu + 1)), some (.inr (k : Int)), some (.inr p), some (.inr (wdt ((τ 16) 1) (τ 17) p z))], [], (zr (zr τ 18 od) 18 (zu od ((τ 16) 3 * 4 + (nu + 1)).toNat (if sg ((τ 16) 1) (τ 17) z = 43 then 1 else 0)))) _ _
                                  rw [zr_zr]
                                  refine ex_k 6 (P := none) (g := (cod m6_readShape 9, [some (.inl 16), some (.inr 0), some (.inr st), some (.inl 100), some (.inr (z + (wdt ((τ 16) 1) (τ 17) p z))), some (.inr (nu + 1)), some (.inr ((k : Int) + 1)), some (.inr p), some (.inr (wdt ((τ 16) 1) (τ 17) p z))], [], (zr τ 18 (zu od ((τ 16) 3 * 4 + (nu + 1)).toNat (if sg ((τ 16) 1) (τ 17) z = 43 then 1 else 0))))) rfl trivial ?_
                                  have hnu4 : cnm (p :: ps) = 1 + cnm ps := by rw [hcc, if_pos (by unfold isn; omega)]
                                  rw [res_n (by omega) (show isn p by unfold isn; omega), show vlu (τ 16 1) (τ 17) p z (wdt (τ 16 1) (τ 17) p z) = (if sg ((τ 16) 1) (τ 17) z = 43 then 1 else 0) from by unfold vlu; first | rw [if_pos (by omega)] | rw [if_neg (by omega)]]
                                  exact ih (k + 1) _ _ _ _ _ hc3 hps (by omega) (by omega) (by omega) (by omega) (by omega))))))
    · first
      | (exfalso; omega)
      | (
          refine ex_k 3 (P := some ((-1) = -1)) (g := (cod m6_readShape 27, [some (.inl 16), some (.inr 0), some (.inr st), some (.inl 100), some (.inr z), some (.inr nu), some (.inr (k : Int)), some (.inr p), some (.inr (wdt ((τ 16) 1) (τ 17) p z))], [.inr (-z - 1)], (zr τ 18 od))) rfl (by show (-1) = -1; omega) ?_
          exact ex_r rfl trivial rfl (by rw [show mtc (τ 16 1) (τ 17) (p :: ps) z = _ from if_pos (by omega)]; rfl))
theorem t_readShape_0 {z : Int} {τ : SZ} (hT : Tx τ) (hoc : 0 ≤ τ 16 3 ∧ τ 16 3 < 13) (hz : 0 ≤ z ∧ z ≤ τ 16 1) : RZ 4 m6_readShape [.inl 16, .inr 0, .inr z] τ (.inl (some (.inr (rsv (mtc (τ 16 1) (τ 17) [102, 101, 114, 114, 121, 32, 35, 32, 64, 32, 64] z))), zr τ 18 (ups (τ 18) (τ 16 3) 0 (mtc (τ 16 1) (τ 17) [102, 101, 114, 114, 121, 32, 35, 32, 64, 32, 64] z).2.2))) := by
  refine Ex.call ?_ rfl rfl
  show Ex _ _ (cod m6_readShape 0, [some (.inl 16), some (.inr 0), some (.inr z), none, none, none, none, none, none], [], τ) _ _
  refine ex_k 1 (P := none) (g := (cod m6_readShape 1, [some (.inl 16), some (.inr 0), some (.inr z), none, none, none, none, none, none], [.inr 0], τ)) rfl trivial ?_
  refine ex_c (t_shapeOf_0 (τ := τ) ) (is := cod m6_readShape 2) (L := [some (.inl 16), some (.inr 0), some (.inr z), none, none, none, none, none, none]) (st := []) rfl rfl rfl ?_
  show Ex _ _ (cod m6_readShape 2, [some (.inl 16), some (.inr 0), some (.inr z), none, none, none, none, none, none], [.inl 100], τ) _ _
  refine ex_k 7 (P := none) (g := (cod m6_readShape 9, [some (.inl 16), some (.inr 0), some (.inr z), some (.inl 100), some (.inr z), some (.inr 0), some (.inr 0), none, none], [], τ)) rfl trivial ?_
  have q := lp_shape_0 (st := z) (τ := τ) hT hoc [102, 101, 114, 114, 121, 32, 35, 32, 64, 32, 64] 0 z 0 (τ 18) none none rfl (by decide) rfl hz.1 hz.2 (by decide) (by decide)
  rw [zr_self] at q
  exact q
theorem lp_shape_1 {st : Int} {τ : SZ} (hT : Tx τ) (hoc : 0 ≤ τ 16 3 ∧ τ 16 3 < 13) : ∀ (ps : List Int) (k : Nat) (z nu : Int) (od : Nat → Int) (o7 o8 : Option VZ), List.drop k [116, 117, 103, 32, 35, 32, 64] = ps → (∀ p, p ∈ ps → 0 < p ∧ p < 1000) → k + ps.length = 7 → 0 ≤ z → z ≤ τ 16 1 → 0 ≤ nu → nu + cnm ps ≤ 3 → Ex 3 m6_readShape (cod m6_readShape 9, [some (.inl 16), some (.inr 1), some (.inr st), some (.inl 101), some (.inr z), some (.inr nu), some (.inr (k : Int)), o7, o8], [], (zr τ 18 od)) 0 (.inl (some (.inr (rsv (mtc (τ 16 1) (τ 17) ps z))), zr τ 18 (ups od (τ 16 3) nu (mtc (τ 16 1) (τ 17) ps z).2.2))) := by
  have hT1 := hT.1
  have hT2 := hT.2
  have hlen : ((byS.getD 1 []).length : Int) = 7 := rfl
  intro ps
  induction ps with
  | nil =>
    intro k z nu od o7 o8 hd hpp hk hz0 hz1 hnu0 hnu3
    rw [List.length_nil] at hk
    refine ex_k 3 (P := none) (g := (cod m6_readShape 12, [some (.inl 16), some (.inr 1), some (.inr st), some (.inl 101), some (.inr z), some (.inr nu), some (.inr (k : Int)), o7, o8], [.inr ((byS.getD 1 []).length : Int), .inr (k : Int)], (zr τ 18 od))) rfl trivial ?_
    refine ex_b (P := ((byS.getD 1 []).length : Int) ≤ (k : Int)) (ct := (cod m6_readShape 58, [some (.inl 16), some (.inr 1), some (.inr st), some (.inl 101), some (.inr z), some (.inr nu), some (.inr (k : Int)), o7, o8], [], (zr τ 18 od))) (cf := (cod m6_readShape 13, [some (.inl 16), some (.inr 1), some (.inr st), some (.inl 101), some (.inr z), some (.inr nu), some (.inr (k : Int)), o7, o8], [], (zr τ 18 od))) rfl ⟨⟨by omega, by omega⟩, ⟨by omega, by omega⟩⟩ (fun _ => ?_) (fun hh => absurd (by omega) hh)
    refine ex_k 1 (P := none) (g := (cod m6_readShape 59, [some (.inl 16), some (.inr 1), some (.inr st), some (.inl 101), some (.inr z), some (.inr nu), some (.inr (k : Int)), o7, o8], [.inr z], (zr τ 18 od))) rfl trivial ?_
    exact ex_r rfl trivial rfl (rfl)
  | cons p ps ih =>
    intro k z nu od o7 o8 hd hpp hk hz0 hz1 hnu0 hnu3
    obtain ⟨hc1, hc2, hc3⟩ := chl (b := byS.getD 1 []) rfl hd
    have hp0 := hpp p (List.mem_cons_self)
    have hw := @wdt_in (τ 16 1) (τ 17) p z (by omega)
    have hcn := cnm_in ps
    have hps := fun q hq => hpp q (List.mem_cons_of_mem p hq)
    have hcc : cnm (p :: ps) = (if isn p then 1 else 0) + cnm ps := rfl
    rw [List.length_cons] at hk
    refine ex_k 3 (P := none) (g := (cod m6_readShape 12, [some (.inl 16), some (.inr 1), some (.inr st), some (.inl 101), some (.inr z), some (.inr nu), some (.inr (k : Int)), o7, o8], [.inr ((byS.getD 1 []).length : Int), .inr (k : Int)], (zr τ 18 od))) rfl trivial ?_
    refine ex_b (P := ((byS.getD 1 []).length : Int) ≤ (k : Int)) (ct := (cod m6_readShape 58, [some (.inl 16), some (.inr 1), some (.inr st), some (.inl 101), some (.inr z), some (.inr nu), some (.inr (k : Int)), o7, o8], [], (zr τ 18 od))) (cf := (cod m6_readShape 13, [some (.inl 16), some (.inr 1), some (.inr st), some (.inl 101), some (.inr z), some (.inr nu), some (.inr (k : Int)), o7, o8], [], (zr τ 18 od))) rfl ⟨⟨by omega, by omega⟩, ⟨by omega, by omega⟩⟩ (fun hh => absurd hh (by omega)) (fun _ => ?_)
    refine ex_k 3 (P := some (0 ≤ (k : Int) ∧ (k : Int) < ((byS.getD 1 []).length : Int))) (g := (cod m6_readShape 16, [some (.inl 16), some (.inr 1), some (.inr st), some (.inl 101), some (.inr z), some (.inr nu), some (.inr (k : Int)), o7, o8], [.inr (((byS.getD 1 []).getD (k : Int).toNat 0).toInt)], (zr τ 18 od))) rfl (by show 0 ≤ (k : Int) ∧ (k : Int) < ((byS.getD 1 []).length : Int); omega) ?_
    rw [show ((byS.getD 1 []).getD (k : Int).toNat 0).toInt = p from hc2]
    refine ex_k 4 (P := none) (g := (cod m6_readShape 20, [some (.inl 16), some (.inr 1), some (.inr st), some (.inl 101), some (.inr z), some (.inr nu), some (.inr (k : Int)), some (.inr p), o8], [.inr z, .inr p, .inl 16], (zr τ 18 od))) rfl trivial ?_
    refine ex_c (t_widthOf (τ := (zr τ 18 od)) (p := p) (z := z) (by omega) (by omega) hT) (is := cod m6_readShape 21) (L := [some (.inl 16), some (.inr 1), some (.inr st), some (.inl 101), some (.inr z), some (.inr nu), some (.inr (k : Int)), some (.inr p), o8]) (st := []) rfl rfl rfl ?_
    show Ex _ _ (cod m6_readShape 21, [some (.inl 16), some (.inr 1), some (.inr st), some (.inl 101), some (.inr z), some (.inr nu), some (.inr (k : Int)), some (.inr p), o8], [.inr (wdt ((τ 16) 1) (τ 17) p z)], (zr τ 18 od)) _ _
    refine ex_k 2 (P := none) (g := (cod m6_readShape 23, [some (.inl 16), some (.inr 1), some (.inr st), some (.inl 101), some (.inr z), some (.inr nu), some (.inr (k : Int)), some (.inr p), some (.inr (wdt ((τ 16) 1) (τ 17) p z))], [.inr (wdt ((τ 16) 1) (τ 17) p z)], (zr τ 18 od))) rfl trivial ?_
    refine ex_b (P := ¬ (wdt ((τ 16) 1) (τ 17) p z) = 0) (ct := (cod m6_readShape 28, [some (.inl 16), some (.inr 1), some (.inr st), some (.inl 101), some (.inr z), some (.inr nu), some (.inr (k : Int)), some (.inr p), some (.inr (wdt ((τ 16) 1) (τ 17) p z))], [], (zr τ 18 od))) (cf := (cod m6_readShape 24, [some (.inl 16), some (.inr 1), some (.inr st), some (.inl 101), some (.inr z), some (.inr nu), some (.inr (k : Int)), some (.inr p), some (.inr (wdt ((τ 16) 1) (τ 17) p z))], [], (zr τ 18 od))) rfl ⟨by omega, by omega⟩ (fun h1 => ?_) (fun h1 => ?_)
    · first
      | (exfalso; omega)
      | (
          refine ex_k 2 (P := none) (g := (cod m6_readShape 30, [some (.inl 16), some (.inr 1), some (.inr st), some (.inl 101), some (.inr z), some (.inr nu), some (.inr (k : Int)), some (.inr p), some (.inr (wdt ((τ 16) 1) (τ 17) p z))], [.inr 35, .inr p], (zr τ 18 od))) rfl trivial ?_
          refine ex_b (P := p = 35) (ct := (cod m6_readShape 37, [some (.inl 16), some (.inr 1), some (.inr st), some (.inl 101), some (.inr z), some (.inr nu), some (.inr (k : Int)), some (.inr p), some (.inr (wdt ((τ 16) 1) (τ 17) p z))], [], (zr τ 18 od))) (cf := (cod m6_readShape 31, [some (.inl 16), some (.inr 1), some (.inr st), some (.inl 101), some (.inr z), some (.inr nu), some (.inr (k : Int)), some (.inr p), some (.inr (wdt ((τ 16) 1) (τ 17) p z))], [], (zr τ 18 od))) rfl ⟨⟨by omega, by omega⟩, ⟨by decide, by decide⟩⟩ (fun h2 => ?_) (fun h2 => ?_)
          · first
            | (exfalso; omega)
            | (
                refine ex_k 5 (P := none) (g := (cod m6_readShape 42, [some (.inl 16), some (.inr 1), some (.inr st), some (.inl 101), some (.inr z), some (.inr (nu + 1)), some (.inr (k : Int)), some (.inr p), some (.inr (wdt ((τ 16) 1) (τ 17) p z))], [.inr 37, .inr p, .inr (nu + 1), .inl 16], (zr τ 18 od))) rfl trivial ?_
                refine ex_b (P := ¬ p = 37) (ct := (cod m6_readShape 47, [some (.inl 16), some (.inr 1), some (.inr st), some (.inl 101), some (.inr z), some (.inr (nu + 1)), some (.inr (k : Int)), some (.inr p), some (.inr (wdt ((τ 16) 1) (τ 17) p z))], [.inr (nu + 1), .inl 16], (zr τ 18 od))) (cf := (cod m6_readShape 43, [some (.inl 16), some (.inr 1), some (.inr st), some (.inl 101), some (.inr z), some (.inr (nu + 1)), some (.inr (k : Int)), some (.inr p), some (.inr (wdt ((τ 16) 1) (τ 17) p z))], [.inr (nu + 1), .inl 16], (zr τ 18 od))) rfl ⟨⟨by omega, by omega⟩, ⟨by decide, by decide⟩⟩ (fun h3 => ?_) (fun h3 => ?_)
                · first
                  | (exfalso; omega)
                  | (
                      refine ex_k 3 (P := none) (g := (cod m6_readShape 50, [some (.inl 16), some (.inr 1), some (.inr st), some (.inl 101), some (.inr z), some (.inr (nu + 1)), some (.inr (k : Int)), some (.inr p), some (.inr (wdt ((τ 16) 1) (τ 17) p z))], [.inr (wdt ((τ 16) 1) (τ 17) p z), .inr z, .inl 16, .inr (nu + 1), .inl 16], (zr τ 18 od))) rfl trivial ?_
                      refine ex_c (t_numberAt (τ := (zr τ 18 od)) (z := z) (w := wdt ((τ 16) 1) (τ 17) p z) (by omega) (by omega) hT) (is := cod m6_readShape 51) (L := [some (.inl 16), some (.inr 1), some (.inr st), some (.inl 101), some (.inr z), some (.inr (nu + 1)), some (.inr (k : Int)), some (.inr p), some (.inr (wdt ((τ 16) 1) (τ 17) p z))]) (st := [.inr (nu + 1), .inl 16]) rfl rfl rfl ?_
                      show Ex _ _ (cod m6_readShape 51, [some (.inl 16), some (.inr 1), some (.inr st), some (.inl 101), some (.inr z), some (.inr (nu + 1)), some (.inr (k : Int)), some (.inr p), some (.inr (wdt ((τ 16) 1) (τ 17) p z))], [.inr (nmb ((τ 16) 1) (τ 17) z (wdt ((τ 16) 1) (τ 17) p z)), .inr (nu + 1), .inl 16], (zr τ 18 od)) _ _
                      refine ex_c (t_setOrder (τ := (zr τ 18 od)) (c := nu + 1) (v := nmb ((τ 16) 1) (τ 17) z (wdt ((τ 16) 1) (τ 17) p z)) (by omega) hoc) (is := cod m6_readShape 52) (L := [some (.inl 16), some (.inr 1), some (.inr st), some (.inl 101), some (.inr z), some (.inr (nu + 1)), some (.inr (k : Int)), some (.inr p), some (.inr (wdt ((τ 16) 1) (τ 17) p z))]) (st := []) rfl rfl rfl ?_
                      show Ex _ _ (cod m6_readShape 52, [some (.inl 16), some (.inr 1), some (.inr st), some (.inl 101), some (.inr z), some (.inr (nu + 1)), some (.inr (k : Int)), some (.inr p), some (.inr (wdt ((τ 16) 1) (τ 17) p z))], [], (zr (zr τ 18 od) 18 (zu od ((τ 16) 3 * 4 + (nu + 1)).toNat (nmb ((τ 16) 1) (τ 17) z (wdt ((τ 16) 1) (τ 17) p z))))) _ _
                      rw [zr_zr]
                      refine ex_k 6 (P := none) (g := (cod m6_readShape 9, [some (.inl 16), some (.inr 1), some (.inr st), some (.inl 101), some (.inr (z + (wdt ((τ 16) 1) (τ 17) p z))), some (.inr (nu + 1)), some (.inr ((k : Int) + 1)), some (.inr p), some (.inr (wdt ((τ 16) 1) (τ 17) p z))], [], (zr τ 18 (zu od ((τ 16) 3 * 4 + (nu + 1)).toNat (nmb ((τ 16) 1) (τ 17) z (wdt ((τ 16) 1) (τ 17) p z)))))) rfl trivial ?_
                      have hnu4 : cnm (p :: ps) = 1 + cnm ps := by rw [hcc, if_pos (by unfold isn; omega)]
                      rw [res_n (by omega) (show isn p by unfold isn; omega), show vlu (τ 16 1) (τ 17) p z (wdt (τ 16 1) (τ 17) p z) = (nmb ((τ 16) 1) (τ 17) z (wdt ((τ 16) 1) (τ 17) p z)) from by unfold vlu; first | rw [if_pos (by omega)] | rw [if_neg (by omega)]]
                      exact ih (k + 1) _ _ _ _ _ hc3 hps (by omega) (by omega) (by omega) (by omega) (by omega))
                · first
                  | (exfalso; omega)
                  | (
                      refine ex_k 2 (P := none) (g := (cod m6_readShape 45, [some (.inl 16), some (.inr 1), some (.inr st), some (.inl 101), some (.inr z), some (.inr (nu + 1)), some (.inr (k : Int)), some (.inr p), some (.inr (wdt ((τ 16) 1) (τ 17) p z))], [.inr z, .inl 16, .inr (nu + 1), .inl 16], (zr τ 18 od))) rfl trivial ?_
                      refine ex_c (t_wayAt (τ := (zr τ 18 od)) (z := z) (by omega) hT) (is := cod m6_readShape 46) (L := [some (.inl 16), some (.inr 1), some (.inr st), some (.inl 101), some (.inr z), some (.inr (nu + 1)), some (.inr (k : Int)), some (.inr p), some (.inr (wdt ((τ 16) 1) (τ 17) p z))]) (st := [.inr (nu + 1), .inl 16]) rfl rfl rfl ?_
                      show Ex _ _ (cod m6_readShape 46, [some (.inl 16), some (.inr 1), some (.inr st), some (.inl 101), some (.inr z), some (.inr (nu + 1)), some (.inr (k : Int)), some (.inr p), some (.inr (wdt ((τ 16) 1) (τ 17) p z))], [.inr (if sg ((τ 16) 1) (τ 17) z = 43 then 1 else 0), .inr (nu + 1), .inl 16], (zr τ 18 od)) _ _
                      refine ex_k 1 (P := none) (g := (cod m6_readShape 51, [some (.inl 16), some (.inr 1), some (.inr st), some (.inl 101), some (.inr z), some (.inr (nu + 1)), some (.inr (k : Int)), some (.inr p), some (.inr (wdt ((τ 16) 1) (τ 17) p z))], [.inr (if sg ((τ 16) 1) (τ 17) z = 43 then 1 else 0), .inr (nu + 1), .inl 16], (zr τ 18 od))) rfl trivial ?_
                      refine ex_c (t_setOrder (τ := (zr τ 18 od)) (c := nu + 1) (v := if sg ((τ 16) 1) (τ 17) z = 43 then 1 else 0) (by omega) hoc) (is := cod m6_readShape 52) (L := [some (.inl 16), some (.inr 1), some (.inr st), some (.inl 101), some (.inr z), some (.inr (nu + 1)), some (.inr (k : Int)), some (.inr p), some (.inr (wdt ((τ 16) 1) (τ 17) p z))]) (st := []) rfl rfl rfl ?_
                      show Ex _ _ (cod m6_readShape 52, [some (.inl 16), some (.inr 1), some (.inr st), some (.inl 101), some (.inr z), some (.inr (nu + 1)), some (.inr (k : Int)), some (.inr p), some (.inr (wdt ((τ 16) 1) (τ 17) p z))], [], (zr (zr τ 18 od) 18 (zu od ((τ 16) 3 * 4 + (nu + 1)).toNat (if sg ((τ 16) 1) (τ 17) z = 43 then 1 else 0)))) _ _
                      rw [zr_zr]
                      refine ex_k 6 (P := none) (g := (cod m6_readShape 9, [some (.inl 16), some (.inr 1), some (.inr st), some (.inl 101), some (.inr (z + (wdt ((τ 16) 1) (τ 17) p z))), some (.inr (nu + 1)), some (.inr ((k : Int) + 1)), some (.inr p), some (.inr (wdt ((τ 16) 1) (τ 17) p z))], [], (zr τ 18 (zu od ((τ 16) 3 * 4 + (nu + 1)).toNat (if sg ((τ 16) 1) (τ 17) z = 43 then 1 else 0))))) rfl trivial ?_
                      have hnu4 : cnm (p :: ps) = 1 + cnm ps := by rw [hcc, if_pos (by unfold isn; omega)]
                      rw [res_n (by omega) (show isn p by unfold isn; omega), show vlu (τ 16 1) (τ 17) p z (wdt (τ 16 1) (τ 17) p z) = (if sg ((τ 16) 1) (τ 17) z = 43 then 1 else 0) from by unfold vlu; first | rw [if_pos (by omega)] | rw [if_neg (by omega)]]
                      exact ih (k + 1) _ _ _ _ _ hc3 hps (by omega) (by omega) (by omega) (by omega) (by omega)))
          · first
            | (exfalso; omega)
            | (
                refine ex_k 2 (P := none) (g := (cod m6_readShape 33, [some (.inl 16), some (.inr 1), some (.inr st), some (.inl 101), some (.inr z), some (.inr nu), some (.inr (k : Int)), some (.inr p), some (.inr (wdt ((τ 16) 1) (τ 17) p z))], [.inr 64, .inr p], (zr τ 18 od))) rfl trivial ?_
                refine ex_b (P := p = 64) (ct := (cod m6_readShape 37, [some (.inl 16), some (.inr 1), some (.inr st), some (.inl 101), some (.inr z), some (.inr nu), some (.inr (k : Int)), some (.inr p), some (.inr (wdt ((τ 16) 1) (τ 17) p z))], [], (zr τ 18 od))) (cf := (cod m6_readShape 34, [some (.inl 16), some (.inr 1), some (.inr st), some (.inl 101), some (.inr z), some (.inr nu), some (.inr (k : Int)), some (.inr p), some (.inr (wdt ((τ 16) 1) (τ 17) p z))], [], (zr τ 18 od))) rfl ⟨⟨by omega, by omega⟩, ⟨by decide, by decide⟩⟩ (fun h4 => ?_) (fun h4 => ?_)
                · first
                  | (exfalso; omega)
                  | (
                      refine ex_k 5 (P := none) (g := (cod m6_readShape 42, [some (.inl 16), some (.inr 1), some (.inr st), some (.inl 101), some (.inr z), some (.inr (nu + 1)), some (.inr (k : Int)), some (.inr p), some (.inr (wdt ((τ 16) 1) (τ 17) p z))], [.inr 37, .inr p, .inr (nu + 1), .inl 16], (zr τ 18 od))) rfl trivial ?_
                      refine ex_b (P := ¬ p = 37) (ct := (cod m6_readShape 47, [some (.inl 16), some (.inr 1), some (.inr st), some (.inl 101), some (.inr z), some (.inr (nu + 1)), some (.inr (k : Int)), some (.inr p), some (.inr (wdt ((τ 16) 1) (τ 17) p z))], [.inr (nu + 1), .inl 16], (zr τ 18 od))) (cf := (cod m6_readShape 43, [some (.inl 16), some (.inr 1), some (.inr st), some (.inl 101), some (.inr z), some (.inr (nu + 1)), some (.inr (k : Int)), some (.inr p), some (.inr (wdt ((τ 16) 1) (τ 17) p z))], [.inr (nu + 1), .inl 16], (zr τ 18 od))) rfl ⟨⟨by omega, by omega⟩, ⟨by decide, by decide⟩⟩ (fun h5 => ?_) (fun h5 => ?_)
                      · first
                        | (exfalso; omega)
                        | (
                            refine ex_k 3 (P := none) (g := (cod m6_readShape 50, [some (.inl 16), some (.inr 1), some (.inr st), some (.inl 101), some (.inr z), some (.inr (nu + 1)), some (.inr (k : Int)), some (.inr p), some (.inr (wdt ((τ 16) 1) (τ 17) p z))], [.inr (wdt ((τ 16) 1) (τ 17) p z), .inr z, .inl 16, .inr (nu + 1), .inl 16], (zr τ 18 od))) rfl trivial ?_
                            refine ex_c (t_numberAt (τ := (zr τ 18 od)) (z := z) (w := wdt ((τ 16) 1) (τ 17) p z) (by omega) (by omega) hT) (is := cod m6_readShape 51) (L := [some (.inl 16), some (.inr 1), some (.inr st), some (.inl 101), some (.inr z), some (.inr (nu + 1)), some (.inr (k : Int)), some (.inr p), some (.inr (wdt ((τ 16) 1) (τ 17) p z))]) (st := [.inr (nu + 1), .inl 16]) rfl rfl rfl ?_
                            show Ex _ _ (cod m6_readShape 51, [some (.inl 16), some (.inr 1), some (.inr st), some (.inl 101), some (.inr z), some (.inr (nu + 1)), some (.inr (k : Int)), some (.inr p), some (.inr (wdt ((τ 16) 1) (τ 17) p z))], [.inr (nmb ((τ 16) 1) (τ 17) z (wdt ((τ 16) 1) (τ 17) p z)), .inr (nu + 1), .inl 16], (zr τ 18 od)) _ _
                            refine ex_c (t_setOrder (τ := (zr τ 18 od)) (c := nu + 1) (v := nmb ((τ 16) 1) (τ 17) z (wdt ((τ 16) 1) (τ 17) p z)) (by omega) hoc) (is := cod m6_readShape 52) (L := [some (.inl 16), some (.inr 1), some (.inr st), some (.inl 101), some (.inr z), some (.inr (nu + 1)), some (.inr (k : Int)), some (.inr p), some (.inr (wdt ((τ 16) 1) (τ 17) p z))]) (st := []) rfl rfl rfl ?_
                            show Ex _ _ (cod m6_readShape 52, [some (.inl 16), some (.inr 1), some (.inr st), some (.inl 101), some (.inr z), some (.inr (nu + 1)), some (.inr (k : Int)), some (.inr p), some (.inr (wdt ((τ 16) 1) (τ 17) p z))], [], (zr (zr τ 18 od) 18 (zu od ((τ 16) 3 * 4 + (nu + 1)).toNat (nmb ((τ 16) 1) (τ 17) z (wdt ((τ 16) 1) (τ 17) p z))))) _ _
                            rw [zr_zr]
                            refine ex_k 6 (P := none) (g := (cod m6_readShape 9, [some (.inl 16), some (.inr 1), some (.inr st), some (.inl 101), some (.inr (z + (wdt ((τ 16) 1) (τ 17) p z))), some (.inr (nu + 1)), some (.inr ((k : Int) + 1)), some (.inr p), some (.inr (wdt ((τ 16) 1) (τ 17) p z))], [], (zr τ 18 (zu od ((τ 16) 3 * 4 + (nu + 1)).toNat (nmb ((τ 16) 1) (τ 17) z (wdt ((τ 16) 1) (τ 17) p z)))))) rfl trivial ?_
                            have hnu4 : cnm (p :: ps) = 1 + cnm ps := by rw [hcc, if_pos (by unfold isn; omega)]
                            rw [res_n (by omega) (show isn p by unfold isn; omega), show vlu (τ 16 1) (τ 17) p z (wdt (τ 16 1) (τ 17) p z) = (nmb ((τ 16) 1) (τ 17) z (wdt ((τ 16) 1) (τ 17) p z)) from by unfold vlu; first | rw [if_pos (by omega)] | rw [if_neg (by omega)]]
                            exact ih (k + 1) _ _ _ _ _ hc3 hps (by omega) (by omega) (by omega) (by omega) (by omega))
                      · first
                        | (exfalso; omega)
                        | (
                            refine ex_k 2 (P := none) (g := (cod m6_readShape 45, [some (.inl 16), some (.inr 1), some (.inr st), some (.inl 101), some (.inr z), some (.inr (nu + 1)), some (.inr (k : Int)), some (.inr p), some (.inr (wdt ((τ 16) 1) (τ 17) p z))], [.inr z, .inl 16, .inr (nu + 1), .inl 16], (zr τ 18 od))) rfl trivial ?_
                            refine ex_c (t_wayAt (τ := (zr τ 18 od)) (z := z) (by omega) hT) (is := cod m6_readShape 46) (L := [some (.inl 16), some (.inr 1), some (.inr st), some (.inl 101), some (.inr z), some (.inr (nu + 1)), some (.inr (k : Int)), some (.inr p), some (.inr (wdt ((τ 16) 1) (τ 17) p z))]) (st := [.inr (nu + 1), .inl 16]) rfl rfl rfl ?_
                            show Ex _ _ (cod m6_readShape 46, [some (.inl 16), some (.inr 1), some (.inr st), some (.inl 101), some (.inr z), some (.inr (nu + 1)), some (.inr (k : Int)), some (.inr p), some (.inr (wdt ((τ 16) 1) (τ 17) p z))], [.inr (if sg ((τ 16) 1) (τ 17) z = 43 then 1 else 0), .inr (nu + 1), .inl 16], (zr τ 18 od)) _ _
                            refine ex_k 1 (P := none) (g := (cod m6_readShape 51, [some (.inl 16), some (.inr 1), some (.inr st), some (.inl 101), some (.inr z), some (.inr (nu + 1)), some (.inr (k : Int)), some (.inr p), some (.inr (wdt ((τ 16) 1) (τ 17) p z))], [.inr (if sg ((τ 16) 1) (τ 17) z = 43 then 1 else 0), .inr (nu + 1), .inl 16], (zr τ 18 od))) rfl trivial ?_
                            refine ex_c (t_setOrder (τ := (zr τ 18 od)) (c := nu + 1) (v := if sg ((τ 16) 1) (τ 17) z = 43 then 1 else 0) (by omega) hoc) (is := cod m6_readShape 52) (L := [some (.inl 16), some (.inr 1), some (.inr st), some (.inl 101), some (.inr z), some (.inr (nu + 1)), some (.inr (k : Int)), some (.inr p), some (.inr (wdt ((τ 16) 1) (τ 17) p z))]) (st := []) rfl rfl rfl ?_
                            show Ex _ _ (cod m6_readShape 52, [some (.inl 16), some (.inr 1), some (.inr st), some (.inl 101), some (.inr z), some (.inr (nu + 1)), some (.inr (k : Int)), some (.inr p), some (.inr (wdt ((τ 16) 1) (τ 17) p z))], [], (zr (zr τ 18 od) 18 (zu od ((τ 16) 3 * 4 + (nu + 1)).toNat (if sg ((τ 16) 1) (τ 17) z = 43 then 1 else 0)))) _ _
                            rw [zr_zr]
                            refine ex_k 6 (P := none) (g := (cod m6_readShape 9, [some (.inl 16), some (.inr 1), some (.inr st), some (.inl 101), some (.inr (z + (wdt ((τ 16) 1) (τ 17) p z))), some (.inr (nu + 1)), some (.inr ((k : Int) + 1)), some (.inr p), some (.inr (wdt ((τ 16) 1) (τ 17) p z))], [], (zr τ 18 (zu od ((τ 16) 3 * 4 + (nu + 1)).toNat (if sg ((τ 16) 1) (τ 17) z = 43 then 1 else 0))))) rfl trivial ?_
                            have hnu4 : cnm (p :: ps) = 1 + cnm ps := by rw [hcc, if_pos (by unfold isn; omega)]
                            rw [res_n (by omega) (show isn p by unfold isn; omega), show vlu (τ 16 1) (τ 17) p z (wdt (τ 16 1) (τ 17) p z) = (if sg ((τ 16) 1) (τ 17) z = 43 then 1 else 0) from by unfold vlu; first | rw [if_pos (by omega)] | rw [if_neg (by omega)]]
                            exact ih (k + 1) _ _ _ _ _ hc3 hps (by omega) (by omega) (by omega) (by omega) (by omega)))
                · first
                  | (exfalso; omega)
                  | (
                      refine ex_k 2 (P := none) (g := (cod m6_readShape 36, [some (.inl 16), some (.inr 1), some (.inr st), some (.inl 101), some (.inr z), some (.inr nu), some (.inr (k : Int)), some (.inr p), some (.inr (wdt ((τ 16) 1) (τ 17) p z))], [.inr 37, .inr p], (zr τ 18 od))) rfl trivial ?_
                      refine ex_b (P := ¬ p = 37) (ct := (cod m6_readShape 52, [some (.inl 16), some (.inr 1), some (.inr st), some (.inl 101), some (.inr z), some (.inr nu), some (.inr (k : Int)), some (.inr p), some (.inr (wdt ((τ 16) 1) (τ 17) p z))], [], (zr τ 18 od))) (cf := (cod m6_readShape 37, [some (.inl 16), some (.inr 1), some (.inr st), some (.inl 101), some (.inr z), some (.inr nu), some (.inr (k : Int)), some (.inr p), some (.inr (wdt ((τ 16) 1) (τ 17) p z))], [], (zr τ 18 od))) rfl ⟨⟨by omega, by omega⟩, ⟨by decide, by decide⟩⟩ (fun h6 => ?_) (fun h6 => ?_)
                      · first
                        | (exfalso; omega)
                        | (
                            refine ex_k 6 (P := none) (g := (cod m6_readShape 9, [some (.inl 16), some (.inr 1), some (.inr st), some (.inl 101), some (.inr (z + (wdt ((τ 16) 1) (τ 17) p z))), some (.inr nu), some (.inr ((k : Int) + 1)), some (.inr p), some (.inr (wdt ((τ 16) 1) (τ 17) p z))], [], (zr τ 18 od))) rfl trivial ?_
                            have hnu4 : cnm (p :: ps) = 0 + cnm ps := by rw [hcc, if_neg (by unfold isn; omega)]
                            rw [res_f (by omega) (show ¬ isn p by unfold isn; omega)]
                            exact ih (k + 1) _ _ _ _ _ hc3 hps (by omega) (by omega) (by omega) (by omega) (by omega))
                      · first
                        | (exfalso; omega)
                        | (
                            refine ex_k 5 (P := none) (g := (cod m6_readShape 42, [some (.inl 16), some (.inr 1), some (.inr st), some (.inl 101), some (.inr z), some (.inr (nu + 1)), some (.inr (k : Int)), some (.inr p), some (.inr (wdt ((τ 16) 1) (τ 17) p z))], [.inr 37, .inr p, .inr (nu + 1), .inl 16], (zr τ 18 od))) rfl trivial ?_
                            refine ex_b (P := ¬ p = 37) (ct := (cod m6_readShape 47, [some (.inl 16), some (.inr 1), some (.inr st), some (.inl 101), some (.inr z), some (.inr (nu + 1)), some (.inr (k : Int)), some (.inr p), some (.inr (wdt ((τ 16) 1) (τ 17) p z))], [.inr (nu + 1), .inl 16], (zr τ 18 od))) (cf := (cod m6_readShape 43, [some (.inl 16), some (.inr 1), some (.inr st), some (.inl 101), some (.inr z), some (.inr (nu + 1)), some (.inr (k : Int)), some (.inr p), some (.inr (wdt ((τ 16) 1) (τ 17) p z))], [.inr (nu + 1), .inl 16], (zr τ 18 od))) rfl ⟨⟨by omega, by omega⟩, ⟨by decide, by decide⟩⟩ (fun h7 => ?_) (fun h7 => ?_)
                            · first
                              | (exfalso; omega)
                              | (
                                  refine ex_k 3 (P := none) (g := (cod m6_readShape 50, [some (.inl 16), some (.inr 1), some (.inr st), some (.inl 101), some (.inr z), some (.inr (nu + 1)), some (.inr (k : Int)), some (.inr p), some (.inr (wdt ((τ 16) 1) (τ 17) p z))], [.inr (wdt ((τ 16) 1) (τ 17) p z), .inr z, .inl 16, .inr (nu + 1), .inl 16], (zr τ 18 od))) rfl trivial ?_
                                  refine ex_c (t_numberAt (τ := (zr τ 18 od)) (z := z) (w := wdt ((τ 16) 1) (τ 17) p z) (by omega) (by omega) hT) (is := cod m6_readShape 51) (L := [some (.inl 16), some (.inr 1), some (.inr st), some (.inl 101), some (.inr z), some (.inr (nu + 1)), some (.inr (k : Int)), some (.inr p), some (.inr (wdt ((τ 16) 1) (τ 17) p z))]) (st := [.inr (nu + 1), .inl 16]) rfl rfl rfl ?_
                                  show Ex _ _ (cod m6_readShape 51, [some (.inl 16), some (.inr 1), some (.inr st), some (.inl 101), some (.inr z), some (.inr (nu + 1)), some (.inr (k : Int)), some (.inr p), some (.inr (wdt ((τ 16) 1) (τ 17) p z))], [.inr (nmb ((τ 16) 1) (τ 17) z (wdt ((τ 16) 1) (τ 17) p z)), .inr (nu + 1), .inl 16], (zr τ 18 od)) _ _
                                  refine ex_c (t_setOrder (τ := (zr τ 18 od)) (c := nu + 1) (v := nmb ((τ 16) 1) (τ 17) z (wdt ((τ 16) 1) (τ 17) p z)) (by omega) hoc) (is := cod m6_readShape 52) (L := [some (.inl 16), some (.inr 1), some (.inr st), some (.inl 101), some (.inr z), some (.inr (nu + 1)), some (.inr (k : Int)), some (.inr p), some (.inr (wdt ((τ 16) 1) (τ 17) p z))]) (st := []) rfl rfl rfl ?_
                                  show Ex _ _ (cod m6_readShape 52, [some (.inl 16), some (.inr 1), some (.inr st), some (.inl 101), some (.inr z), some (.inr (nu + 1)), some (.inr (k : Int)), some (.inr p), some (.inr (wdt ((τ 16) 1) (τ 17) p z))], [], (zr (zr τ 18 od) 18 (zu od ((τ 16) 3 * 4 + (nu + 1)).toNat (nmb ((τ 16) 1) (τ 17) z (wdt ((τ 16) 1) (τ 17) p z))))) _ _
                                  rw [zr_zr]
                                  refine ex_k 6 (P := none) (g := (cod m6_readShape 9, [some (.inl 16), some (.inr 1), some (.inr st), some (.inl 101), some (.inr (z + (wdt ((τ 16) 1) (τ 17) p z))), some (.inr (nu + 1)), some (.inr ((k : Int) + 1)), some (.inr p), some (.inr (wdt ((τ 16) 1) (τ 17) p z))], [], (zr τ 18 (zu od ((τ 16) 3 * 4 + (nu + 1)).toNat (nmb ((τ 16) 1) (τ 17) z (wdt ((τ 16) 1) (τ 17) p z)))))) rfl trivial ?_
                                  have hnu4 : cnm (p :: ps) = 1 + cnm ps := by rw [hcc, if_pos (by unfold isn; omega)]
                                  rw [res_n (by omega) (show isn p by unfold isn; omega), show vlu (τ 16 1) (τ 17) p z (wdt (τ 16 1) (τ 17) p z) = (nmb ((τ 16) 1) (τ 17) z (wdt ((τ 16) 1) (τ 17) p z)) from by unfold vlu; first | rw [if_pos (by omega)] | rw [if_neg (by omega)]]
                                  exact ih (k + 1) _ _ _ _ _ hc3 hps (by omega) (by omega) (by omega) (by omega) (by omega))
                            · first
                              | (exfalso; omega)
                              | (
                                  refine ex_k 2 (P := none) (g := (cod m6_readShape 45, [some (.inl 16), some (.inr 1), some (.inr st), some (.inl 101), some (.inr z), some (.inr (nu + 1)), some (.inr (k : Int)), some (.inr p), some (.inr (wdt ((τ 16) 1) (τ 17) p z))], [.inr z, .inl 16, .inr (nu + 1), .inl 16], (zr τ 18 od))) rfl trivial ?_
                                  refine ex_c (t_wayAt (τ := (zr τ 18 od)) (z := z) (by omega) hT) (is := cod m6_readShape 46) (L := [some (.inl 16), some (.inr 1), some (.inr st), some (.inl 101), some (.inr z), some (.inr (nu + 1)), some (.inr (k : Int)), some (.inr p), some (.inr (wdt ((τ 16) 1) (τ 17) p z))]) (st := [.inr (nu + 1), .inl 16]) rfl rfl rfl ?_
                                  show Ex _ _ (cod m6_readShape 46, [some (.inl 16), some (.inr 1), some (.inr st), some (.inl 101), some (.inr z), some (.inr (nu + 1)), some (.inr (k : Int)), some (.inr p), some (.inr (wdt ((τ 16) 1) (τ 17) p z))], [.inr (if sg ((τ 16) 1) (τ 17) z = 43 then 1 else 0), .inr (nu + 1), .inl 16], (zr τ 18 od)) _ _
                                  refine ex_k 1 (P := none) (g := (cod m6_readShape 51, [some (.inl 16), some (.inr 1), some (.inr st), some (.inl 101), some (.inr z), some (.inr (nu + 1)), some (.inr (k : Int)), some (.inr p), some (.inr (wdt ((τ 16) 1) (τ 17) p z))], [.inr (if sg ((τ 16) 1) (τ 17) z = 43 then 1 else 0), .inr (nu + 1), .inl 16], (zr τ 18 od))) rfl trivial ?_
                                  refine ex_c (t_setOrder (τ := (zr τ 18 od)) (c := nu + 1) (v := if sg ((τ 16) 1) (τ 17) z = 43 then 1 else 0) (by omega) hoc) (is := cod m6_readShape 52) (L := [some (.inl 16), some (.inr 1), some (.inr st), some (.inl 101), some (.inr z), some (.inr (nu + 1)), some (.inr (k : Int)), some (.inr p), some (.inr (wdt ((τ 16) 1) (τ 17) p z))]) (st := []) rfl rfl rfl ?_
                                  show Ex _ _ (cod m6_readShape 52, [some (.inl 16), some (.inr 1), some (.inr st), some (.inl 101), some (.inr z), some (.inr (nu + 1)), some (.inr (k : Int)), some (.inr p), some (.inr (wdt ((τ 16) 1) (τ 17) p z))], [], (zr (zr τ 18 od) 18 (zu od ((τ 16) 3 * 4 + (nu + 1)).toNat (if sg ((τ 16) 1) (τ 17) z = 43 then 1 else 0)))) _ _
                                  rw [zr_zr]
                                  refine ex_k 6 (P := none) (g := (cod m6_readShape 9, [some (.inl 16), some (.inr 1), some (.inr st), some (.inl 101), some (.inr (z + (wdt ((τ 16) 1) (τ 17) p z))), some (.inr (nu + 1)), some (.inr ((k : Int) + 1)), some (.inr p), some (.inr (wdt ((τ 16) 1) (τ 17) p z))], [], (zr τ 18 (zu od ((τ 16) 3 * 4 + (nu + 1)).toNat (if sg ((τ 16) 1) (τ 17) z = 43 then 1 else 0))))) rfl trivial ?_
                                  have hnu4 : cnm (p :: ps) = 1 + cnm ps := by rw [hcc, if_pos (by unfold isn; omega)]
                                  rw [res_n (by omega) (show isn p by unfold isn; omega), show vlu (τ 16 1) (τ 17) p z (wdt (τ 16 1) (τ 17) p z) = (if sg ((τ 16) 1) (τ 17) z = 43 then 1 else 0) from by unfold vlu; first | rw [if_pos (by omega)] | rw [if_neg (by omega)]]
                                  exact ih (k + 1) _ _ _ _ _ hc3 hps (by omega) (by omega) (by omega) (by omega) (by omega))))))
    · first
      | (exfalso; omega)
      | (
          refine ex_k 3 (P := some ((-1) = -1)) (g := (cod m6_readShape 27, [some (.inl 16), some (.inr 1), some (.inr st), some (.inl 101), some (.inr z), some (.inr nu), some (.inr (k : Int)), some (.inr p), some (.inr (wdt ((τ 16) 1) (τ 17) p z))], [.inr (-z - 1)], (zr τ 18 od))) rfl (by show (-1) = -1; omega) ?_
          exact ex_r rfl trivial rfl (by rw [show mtc (τ 16 1) (τ 17) (p :: ps) z = _ from if_pos (by omega)]; rfl))
theorem t_readShape_1 {z : Int} {τ : SZ} (hT : Tx τ) (hoc : 0 ≤ τ 16 3 ∧ τ 16 3 < 13) (hz : 0 ≤ z ∧ z ≤ τ 16 1) : RZ 4 m6_readShape [.inl 16, .inr 1, .inr z] τ (.inl (some (.inr (rsv (mtc (τ 16 1) (τ 17) [116, 117, 103, 32, 35, 32, 64] z))), zr τ 18 (ups (τ 18) (τ 16 3) 0 (mtc (τ 16 1) (τ 17) [116, 117, 103, 32, 35, 32, 64] z).2.2))) := by
  refine Ex.call ?_ rfl rfl
  show Ex _ _ (cod m6_readShape 0, [some (.inl 16), some (.inr 1), some (.inr z), none, none, none, none, none, none], [], τ) _ _
  refine ex_k 1 (P := none) (g := (cod m6_readShape 1, [some (.inl 16), some (.inr 1), some (.inr z), none, none, none, none, none, none], [.inr 1], τ)) rfl trivial ?_
  refine ex_c (t_shapeOf_1 (τ := τ) ) (is := cod m6_readShape 2) (L := [some (.inl 16), some (.inr 1), some (.inr z), none, none, none, none, none, none]) (st := []) rfl rfl rfl ?_
  show Ex _ _ (cod m6_readShape 2, [some (.inl 16), some (.inr 1), some (.inr z), none, none, none, none, none, none], [.inl 101], τ) _ _
  refine ex_k 7 (P := none) (g := (cod m6_readShape 9, [some (.inl 16), some (.inr 1), some (.inr z), some (.inl 101), some (.inr z), some (.inr 0), some (.inr 0), none, none], [], τ)) rfl trivial ?_
  have q := lp_shape_1 (st := z) (τ := τ) hT hoc [116, 117, 103, 32, 35, 32, 64] 0 z 0 (τ 18) none none rfl (by decide) rfl hz.1 hz.2 (by decide) (by decide)
  rw [zr_self] at q
  exact q
theorem lp_shape_2 {st : Int} {τ : SZ} (hT : Tx τ) (hoc : 0 ≤ τ 16 3 ∧ τ 16 3 < 13) : ∀ (ps : List Int) (k : Nat) (z nu : Int) (od : Nat → Int) (o7 o8 : Option VZ), List.drop k [108, 111, 99, 107, 32, 35, 32, 64, 32, 35] = ps → (∀ p, p ∈ ps → 0 < p ∧ p < 1000) → k + ps.length = 10 → 0 ≤ z → z ≤ τ 16 1 → 0 ≤ nu → nu + cnm ps ≤ 3 → Ex 3 m6_readShape (cod m6_readShape 9, [some (.inl 16), some (.inr 2), some (.inr st), some (.inl 102), some (.inr z), some (.inr nu), some (.inr (k : Int)), o7, o8], [], (zr τ 18 od)) 0 (.inl (some (.inr (rsv (mtc (τ 16 1) (τ 17) ps z))), zr τ 18 (ups od (τ 16 3) nu (mtc (τ 16 1) (τ 17) ps z).2.2))) := by
  have hT1 := hT.1
  have hT2 := hT.2
  have hlen : ((byS.getD 2 []).length : Int) = 10 := rfl
  intro ps
  induction ps with
  | nil =>
    intro k z nu od o7 o8 hd hpp hk hz0 hz1 hnu0 hnu3
    rw [List.length_nil] at hk
    refine ex_k 3 (P := none) (g := (cod m6_readShape 12, [some (.inl 16), some (.inr 2), some (.inr st), some (.inl 102), some (.inr z), some (.inr nu), some (.inr (k : Int)), o7, o8], [.inr ((byS.getD 2 []).length : Int), .inr (k : Int)], (zr τ 18 od))) rfl trivial ?_
    refine ex_b (P := ((byS.getD 2 []).length : Int) ≤ (k : Int)) (ct := (cod m6_readShape 58, [some (.inl 16), some (.inr 2), some (.inr st), some (.inl 102), some (.inr z), some (.inr nu), some (.inr (k : Int)), o7, o8], [], (zr τ 18 od))) (cf := (cod m6_readShape 13, [some (.inl 16), some (.inr 2), some (.inr st), some (.inl 102), some (.inr z), some (.inr nu), some (.inr (k : Int)), o7, o8], [], (zr τ 18 od))) rfl ⟨⟨by omega, by omega⟩, ⟨by omega, by omega⟩⟩ (fun _ => ?_) (fun hh => absurd (by omega) hh)
    refine ex_k 1 (P := none) (g := (cod m6_readShape 59, [some (.inl 16), some (.inr 2), some (.inr st), some (.inl 102), some (.inr z), some (.inr nu), some (.inr (k : Int)), o7, o8], [.inr z], (zr τ 18 od))) rfl trivial ?_
    exact ex_r rfl trivial rfl (rfl)
  | cons p ps ih =>
    intro k z nu od o7 o8 hd hpp hk hz0 hz1 hnu0 hnu3
    obtain ⟨hc1, hc2, hc3⟩ := chl (b := byS.getD 2 []) rfl hd
    have hp0 := hpp p (List.mem_cons_self)
    have hw := @wdt_in (τ 16 1) (τ 17) p z (by omega)
    have hcn := cnm_in ps
    have hps := fun q hq => hpp q (List.mem_cons_of_mem p hq)
    have hcc : cnm (p :: ps) = (if isn p then 1 else 0) + cnm ps := rfl
    rw [List.length_cons] at hk
    refine ex_k 3 (P := none) (g := (cod m6_readShape 12, [some (.inl 16), some (.inr 2), some (.inr st), some (.inl 102), some (.inr z), some (.inr nu), some (.inr (k : Int)), o7, o8], [.inr ((byS.getD 2 []).length : Int), .inr (k : Int)], (zr τ 18 od))) rfl trivial ?_
    refine ex_b (P := ((byS.getD 2 []).length : Int) ≤ (k : Int)) (ct := (cod m6_readShape 58, [some (.inl 16), some (.inr 2), some (.inr st), some (.inl 102), some (.inr z), some (.inr nu), some (.inr (k : Int)), o7, o8], [], (zr τ 18 od))) (cf := (cod m6_readShape 13, [some (.inl 16), some (.inr 2), some (.inr st), some (.inl 102), some (.inr z), some (.inr nu), some (.inr (k : Int)), o7, o8], [], (zr τ 18 od))) rfl ⟨⟨by omega, by omega⟩, ⟨by omega, by omega⟩⟩ (fun hh => absurd hh (by omega)) (fun _ => ?_)
    refine ex_k 3 (P := some (0 ≤ (k : Int) ∧ (k : Int) < ((byS.getD 2 []).length : Int))) (g := (cod m6_readShape 16, [some (.inl 16), some (.inr 2), some (.inr st), some (.inl 102), some (.inr z), some (.inr nu), some (.inr (k : Int)), o7, o8], [.inr (((byS.getD 2 []).getD (k : Int).toNat 0).toInt)], (zr τ 18 od))) rfl (by show 0 ≤ (k : Int) ∧ (k : Int) < ((byS.getD 2 []).length : Int); omega) ?_
    rw [show ((byS.getD 2 []).getD (k : Int).toNat 0).toInt = p from hc2]
    refine ex_k 4 (P := none) (g := (cod m6_readShape 20, [some (.inl 16), some (.inr 2), some (.inr st), some (.inl 102), some (.inr z), some (.inr nu), some (.inr (k : Int)), some (.inr p), o8], [.inr z, .inr p, .inl 16], (zr τ 18 od))) rfl trivial ?_
    refine ex_c (t_widthOf (τ := (zr τ 18 od)) (p := p) (z := z) (by omega) (by omega) hT) (is := cod m6_readShape 21) (L := [some (.inl 16), some (.inr 2), some (.inr st), some (.inl 102), some (.inr z), some (.inr nu), some (.inr (k : Int)), some (.inr p), o8]) (st := []) rfl rfl rfl ?_
    show Ex _ _ (cod m6_readShape 21, [some (.inl 16), some (.inr 2), some (.inr st), some (.inl 102), some (.inr z), some (.inr nu), some (.inr (k : Int)), some (.inr p), o8], [.inr (wdt ((τ 16) 1) (τ 17) p z)], (zr τ 18 od)) _ _
    refine ex_k 2 (P := none) (g := (cod m6_readShape 23, [some (.inl 16), some (.inr 2), some (.inr st), some (.inl 102), some (.inr z), some (.inr nu), some (.inr (k : Int)), some (.inr p), some (.inr (wdt ((τ 16) 1) (τ 17) p z))], [.inr (wdt ((τ 16) 1) (τ 17) p z)], (zr τ 18 od))) rfl trivial ?_
    refine ex_b (P := ¬ (wdt ((τ 16) 1) (τ 17) p z) = 0) (ct := (cod m6_readShape 28, [some (.inl 16), some (.inr 2), some (.inr st), some (.inl 102), some (.inr z), some (.inr nu), some (.inr (k : Int)), some (.inr p), some (.inr (wdt ((τ 16) 1) (τ 17) p z))], [], (zr τ 18 od))) (cf := (cod m6_readShape 24, [some (.inl 16), some (.inr 2), some (.inr st), some (.inl 102), some (.inr z), some (.inr nu), some (.inr (k : Int)), some (.inr p), some (.inr (wdt ((τ 16) 1) (τ 17) p z))], [], (zr τ 18 od))) rfl ⟨by omega, by omega⟩ (fun h1 => ?_) (fun h1 => ?_)
    · first
      | (exfalso; omega)
      | (
          refine ex_k 2 (P := none) (g := (cod m6_readShape 30, [some (.inl 16), some (.inr 2), some (.inr st), some (.inl 102), some (.inr z), some (.inr nu), some (.inr (k : Int)), some (.inr p), some (.inr (wdt ((τ 16) 1) (τ 17) p z))], [.inr 35, .inr p], (zr τ 18 od))) rfl trivial ?_
          refine ex_b (P := p = 35) (ct := (cod m6_readShape 37, [some (.inl 16), some (.inr 2), some (.inr st), some (.inl 102), some (.inr z), some (.inr nu), some (.inr (k : Int)), some (.inr p), some (.inr (wdt ((τ 16) 1) (τ 17) p z))], [], (zr τ 18 od))) (cf := (cod m6_readShape 31, [some (.inl 16), some (.inr 2), some (.inr st), some (.inl 102), some (.inr z), some (.inr nu), some (.inr (k : Int)), some (.inr p), some (.inr (wdt ((τ 16) 1) (τ 17) p z))], [], (zr τ 18 od))) rfl ⟨⟨by omega, by omega⟩, ⟨by decide, by decide⟩⟩ (fun h2 => ?_) (fun h2 => ?_)
          · first
            | (exfalso; omega)
            | (
                refine ex_k 5 (P := none) (g := (cod m6_readShape 42, [some (.inl 16), some (.inr 2), some (.inr st), some (.inl 102), some (.inr z), some (.inr (nu + 1)), some (.inr (k : Int)), some (.inr p), some (.inr (wdt ((τ 16) 1) (τ 17) p z))], [.inr 37, .inr p, .inr (nu + 1), .inl 16], (zr τ 18 od))) rfl trivial ?_
                refine ex_b (P := ¬ p = 37) (ct := (cod m6_readShape 47, [some (.inl 16), some (.inr 2), some (.inr st), some (.inl 102), some (.inr z), some (.inr (nu + 1)), some (.inr (k : Int)), some (.inr p), some (.inr (wdt ((τ 16) 1) (τ 17) p z))], [.inr (nu + 1), .inl 16], (zr τ 18 od))) (cf := (cod m6_readShape 43, [some (.inl 16), some (.inr 2), some (.inr st), some (.inl 102), some (.inr z), some (.inr (nu + 1)), some (.inr (k : Int)), some (.inr p), some (.inr (wdt ((τ 16) 1) (τ 17) p z))], [.inr (nu + 1), .inl 16], (zr τ 18 od))) rfl ⟨⟨by omega, by omega⟩, ⟨by decide, by decide⟩⟩ (fun h3 => ?_) (fun h3 => ?_)
                · first
                  | (exfalso; omega)
                  | (
                      refine ex_k 3 (P := none) (g := (cod m6_readShape 50, [some (.inl 16), some (.inr 2), some (.inr st), some (.inl 102), some (.inr z), some (.inr (nu + 1)), some (.inr (k : Int)), some (.inr p), some (.inr (wdt ((τ 16) 1) (τ 17) p z))], [.inr (wdt ((τ 16) 1) (τ 17) p z), .inr z, .inl 16, .inr (nu + 1), .inl 16], (zr τ 18 od))) rfl trivial ?_
                      refine ex_c (t_numberAt (τ := (zr τ 18 od)) (z := z) (w := wdt ((τ 16) 1) (τ 17) p z) (by omega) (by omega) hT) (is := cod m6_readShape 51) (L := [some (.inl 16), some (.inr 2), some (.inr st), some (.inl 102), some (.inr z), some (.inr (nu + 1)), some (.inr (k : Int)), some (.inr p), some (.inr (wdt ((τ 16) 1) (τ 17) p z))]) (st := [.inr (nu + 1), .inl 16]) rfl rfl rfl ?_
                      show Ex _ _ (cod m6_readShape 51, [some (.inl 16), some (.inr 2), some (.inr st), some (.inl 102), some (.inr z), some (.inr (nu + 1)), some (.inr (k : Int)), some (.inr p), some (.inr (wdt ((τ 16) 1) (τ 17) p z))], [.inr (nmb ((τ 16) 1) (τ 17) z (wdt ((τ 16) 1) (τ 17) p z)), .inr (nu + 1), .inl 16], (zr τ 18 od)) _ _
                      refine ex_c (t_setOrder (τ := (zr τ 18 od)) (c := nu + 1) (v := nmb ((τ 16) 1) (τ 17) z (wdt ((τ 16) 1) (τ 17) p z)) (by omega) hoc) (is := cod m6_readShape 52) (L := [some (.inl 16), some (.inr 2), some (.inr st), some (.inl 102), some (.inr z), some (.inr (nu + 1)), some (.inr (k : Int)), some (.inr p), some (.inr (wdt ((τ 16) 1) (τ 17) p z))]) (st := []) rfl rfl rfl ?_
                      show Ex _ _ (cod m6_readShape 52, [some (.inl 16), some (.inr 2), some (.inr st), some (.inl 102), some (.inr z), some (.inr (nu + 1)), some (.inr (k : Int)), some (.inr p), some (.inr (wdt ((τ 16) 1) (τ 17) p z))], [], (zr (zr τ 18 od) 18 (zu od ((τ 16) 3 * 4 + (nu + 1)).toNat (nmb ((τ 16) 1) (τ 17) z (wdt ((τ 16) 1) (τ 17) p z))))) _ _
                      rw [zr_zr]
                      refine ex_k 6 (P := none) (g := (cod m6_readShape 9, [some (.inl 16), some (.inr 2), some (.inr st), some (.inl 102), some (.inr (z + (wdt ((τ 16) 1) (τ 17) p z))), some (.inr (nu + 1)), some (.inr ((k : Int) + 1)), some (.inr p), some (.inr (wdt ((τ 16) 1) (τ 17) p z))], [], (zr τ 18 (zu od ((τ 16) 3 * 4 + (nu + 1)).toNat (nmb ((τ 16) 1) (τ 17) z (wdt ((τ 16) 1) (τ 17) p z)))))) rfl trivial ?_
                      have hnu4 : cnm (p :: ps) = 1 + cnm ps := by rw [hcc, if_pos (by unfold isn; omega)]
                      rw [res_n (by omega) (show isn p by unfold isn; omega), show vlu (τ 16 1) (τ 17) p z (wdt (τ 16 1) (τ 17) p z) = (nmb ((τ 16) 1) (τ 17) z (wdt ((τ 16) 1) (τ 17) p z)) from by unfold vlu; first | rw [if_pos (by omega)] | rw [if_neg (by omega)]]
                      exact ih (k + 1) _ _ _ _ _ hc3 hps (by omega) (by omega) (by omega) (by omega) (by omega))
                · first
                  | (exfalso; omega)
                  | (
                      refine ex_k 2 (P := none) (g := (cod m6_readShape 45, [some (.inl 16), some (.inr 2), some (.inr st), some (.inl 102), some (.inr z), some (.inr (nu + 1)), some (.inr (k : Int)), some (.inr p), some (.inr (wdt ((τ 16) 1) (τ 17) p z))], [.inr z, .inl 16, .inr (nu + 1), .inl 16], (zr τ 18 od))) rfl trivial ?_
                      refine ex_c (t_wayAt (τ := (zr τ 18 od)) (z := z) (by omega) hT) (is := cod m6_readShape 46) (L := [some (.inl 16), some (.inr 2), some (.inr st), some (.inl 102), some (.inr z), some (.inr (nu + 1)), some (.inr (k : Int)), some (.inr p), some (.inr (wdt ((τ 16) 1) (τ 17) p z))]) (st := [.inr (nu + 1), .inl 16]) rfl rfl rfl ?_
                      show Ex _ _ (cod m6_readShape 46, [some (.inl 16), some (.inr 2), some (.inr st), some (.inl 102), some (.inr z), some (.inr (nu + 1)), some (.inr (k : Int)), some (.inr p), some (.inr (wdt ((τ 16) 1) (τ 17) p z))], [.inr (if sg ((τ 16) 1) (τ 17) z = 43 then 1 else 0), .inr (nu + 1), .inl 16], (zr τ 18 od)) _ _
                      refine ex_k 1 (P := none) (g := (cod m6_readShape 51, [some (.inl 16), some (.inr 2), some (.inr st), some (.inl 102), some (.inr z), some (.inr (nu + 1)), some (.inr (k : Int)), some (.inr p), some (.inr (wdt ((τ 16) 1) (τ 17) p z))], [.inr (if sg ((τ 16) 1) (τ 17) z = 43 then 1 else 0), .inr (nu + 1), .inl 16], (zr τ 18 od))) rfl trivial ?_
                      refine ex_c (t_setOrder (τ := (zr τ 18 od)) (c := nu + 1) (v := if sg ((τ 16) 1) (τ 17) z = 43 then 1 else 0) (by omega) hoc) (is := cod m6_readShape 52) (L := [some (.inl 16), some (.inr 2), some (.inr st), some (.inl 102), some (.inr z), some (.inr (nu + 1)), some (.inr (k : Int)), some (.inr p), some (.inr (wdt ((τ 16) 1) (τ 17) p z))]) (st := []) rfl rfl rfl ?_
                      show Ex _ _ (cod m6_readShape 52, [some (.inl 16), some (.inr 2), some (.inr st), some (.inl 102), some (.inr z), some (.inr (nu + 1)), some (.inr (k : Int)), some (.inr p), some (.inr (wdt ((τ 16) 1) (τ 17) p z))], [], (zr (zr τ 18 od) 18 (zu od ((τ 16) 3 * 4 + (nu + 1)).toNat (if sg ((τ 16) 1) (τ 17) z = 43 then 1 else 0)))) _ _
                      rw [zr_zr]
                      refine ex_k 6 (P := none) (g := (cod m6_readShape 9, [some (.inl 16), some (.inr 2), some (.inr st), some (.inl 102), some (.inr (z + (wdt ((τ 16) 1) (τ 17) p z))), some (.inr (nu + 1)), some (.inr ((k : Int) + 1)), some (.inr p), some (.inr (wdt ((τ 16) 1) (τ 17) p z))], [], (zr τ 18 (zu od ((τ 16) 3 * 4 + (nu + 1)).toNat (if sg ((τ 16) 1) (τ 17) z = 43 then 1 else 0))))) rfl trivial ?_
                      have hnu4 : cnm (p :: ps) = 1 + cnm ps := by rw [hcc, if_pos (by unfold isn; omega)]
                      rw [res_n (by omega) (show isn p by unfold isn; omega), show vlu (τ 16 1) (τ 17) p z (wdt (τ 16 1) (τ 17) p z) = (if sg ((τ 16) 1) (τ 17) z = 43 then 1 else 0) from by unfold vlu; first | rw [if_pos (by omega)] | rw [if_neg (by omega)]]
                      exact ih (k + 1) _ _ _ _ _ hc3 hps (by omega) (by omega) (by omega) (by omega) (by omega)))
          · first
            | (exfalso; omega)
            | (
                refine ex_k 2 (P := none) (g := (cod m6_readShape 33, [some (.inl 16), some (.inr 2), some (.inr st), some (.inl 102), some (.inr z), some (.inr nu), some (.inr (k : Int)), some (.inr p), some (.inr (wdt ((τ 16) 1) (τ 17) p z))], [.inr 64, .inr p], (zr τ 18 od))) rfl trivial ?_
                refine ex_b (P := p = 64) (ct := (cod m6_readShape 37, [some (.inl 16), some (.inr 2), some (.inr st), some (.inl 102), some (.inr z), some (.inr nu), some (.inr (k : Int)), some (.inr p), some (.inr (wdt ((τ 16) 1) (τ 17) p z))], [], (zr τ 18 od))) (cf := (cod m6_readShape 34, [some (.inl 16), some (.inr 2), some (.inr st), some (.inl 102), some (.inr z), some (.inr nu), some (.inr (k : Int)), some (.inr p), some (.inr (wdt ((τ 16) 1) (τ 17) p z))], [], (zr τ 18 od))) rfl ⟨⟨by omega, by omega⟩, ⟨by decide, by decide⟩⟩ (fun h4 => ?_) (fun h4 => ?_)
                · first
                  | (exfalso; omega)
                  | (
                      refine ex_k 5 (P := none) (g := (cod m6_readShape 42, [some (.inl 16), some (.inr 2), some (.inr st), some (.inl 102), some (.inr z), some (.inr (nu + 1)), some (.inr (k : Int)), some (.inr p), some (.inr (wdt ((τ 16) 1) (τ 17) p z))], [.inr 37, .inr p, .inr (nu + 1), .inl 16], (zr τ 18 od))) rfl trivial ?_
                      refine ex_b (P := ¬ p = 37) (ct := (cod m6_readShape 47, [some (.inl 16), some (.inr 2), some (.inr st), some (.inl 102), some (.inr z), some (.inr (nu + 1)), some (.inr (k : Int)), some (.inr p), some (.inr (wdt ((τ 16) 1) (τ 17) p z))], [.inr (nu + 1), .inl 16], (zr τ 18 od))) (cf := (cod m6_readShape 43, [some (.inl 16), some (.inr 2), some (.inr st), some (.inl 102), some (.inr z), some (.inr (nu + 1)), some (.inr (k : Int)), some (.inr p), some (.inr (wdt ((τ 16) 1) (τ 17) p z))], [.inr (nu + 1), .inl 16], (zr τ 18 od))) rfl ⟨⟨by omega, by omega⟩, ⟨by decide, by decide⟩⟩ (fun h5 => ?_) (fun h5 => ?_)
                      · first
                        | (exfalso; omega)
                        | (
                            refine ex_k 3 (P := none) (g := (cod m6_readShape 50, [some (.inl 16), some (.inr 2), some (.inr st), some (.inl 102), some (.inr z), some (.inr (nu + 1)), some (.inr (k : Int)), some (.inr p), some (.inr (wdt ((τ 16) 1) (τ 17) p z))], [.inr (wdt ((τ 16) 1) (τ 17) p z), .inr z, .inl 16, .inr (nu + 1), .inl 16], (zr τ 18 od))) rfl trivial ?_
                            refine ex_c (t_numberAt (τ := (zr τ 18 od)) (z := z) (w := wdt ((τ 16) 1) (τ 17) p z) (by omega) (by omega) hT) (is := cod m6_readShape 51) (L := [some (.inl 16), some (.inr 2), some (.inr st), some (.inl 102), some (.inr z), some (.inr (nu + 1)), some (.inr (k : Int)), some (.inr p), some (.inr (wdt ((τ 16) 1) (τ 17) p z))]) (st := [.inr (nu + 1), .inl 16]) rfl rfl rfl ?_
                            show Ex _ _ (cod m6_readShape 51, [some (.inl 16), some (.inr 2), some (.inr st), some (.inl 102), some (.inr z), some (.inr (nu + 1)), some (.inr (k : Int)), some (.inr p), some (.inr (wdt ((τ 16) 1) (τ 17) p z))], [.inr (nmb ((τ 16) 1) (τ 17) z (wdt ((τ 16) 1) (τ 17) p z)), .inr (nu + 1), .inl 16], (zr τ 18 od)) _ _
                            refine ex_c (t_setOrder (τ := (zr τ 18 od)) (c := nu + 1) (v := nmb ((τ 16) 1) (τ 17) z (wdt ((τ 16) 1) (τ 17) p z)) (by omega) hoc) (is := cod m6_readShape 52) (L := [some (.inl 16), some (.inr 2), some (.inr st), some (.inl 102), some (.inr z), some (.inr (nu + 1)), some (.inr (k : Int)), some (.inr p), some (.inr (wdt ((τ 16) 1) (τ 17) p z))]) (st := []) rfl rfl rfl ?_
                            show Ex _ _ (cod m6_readShape 52, [some (.inl 16), some (.inr 2), some (.inr st), some (.inl 102), some (.inr z), some (.inr (nu + 1)), some (.inr (k : Int)), some (.inr p), some (.inr (wdt ((τ 16) 1) (τ 17) p z))], [], (zr (zr τ 18 od) 18 (zu od ((τ 16) 3 * 4 + (nu + 1)).toNat (nmb ((τ 16) 1) (τ 17) z (wdt ((τ 16) 1) (τ 17) p z))))) _ _
                            rw [zr_zr]
                            refine ex_k 6 (P := none) (g := (cod m6_readShape 9, [some (.inl 16), some (.inr 2), some (.inr st), some (.inl 102), some (.inr (z + (wdt ((τ 16) 1) (τ 17) p z))), some (.inr (nu + 1)), some (.inr ((k : Int) + 1)), some (.inr p), some (.inr (wdt ((τ 16) 1) (τ 17) p z))], [], (zr τ 18 (zu od ((τ 16) 3 * 4 + (nu + 1)).toNat (nmb ((τ 16) 1) (τ 17) z (wdt ((τ 16) 1) (τ 17) p z)))))) rfl trivial ?_
                            have hnu4 : cnm (p :: ps) = 1 + cnm ps := by rw [hcc, if_pos (by unfold isn; omega)]
                            rw [res_n (by omega) (show isn p by unfold isn; omega), show vlu (τ 16 1) (τ 17) p z (wdt (τ 16 1) (τ 17) p z) = (nmb ((τ 16) 1) (τ 17) z (wdt ((τ 16) 1) (τ 17) p z)) from by unfold vlu; first | rw [if_pos (by omega)] | rw [if_neg (by omega)]]
                            exact ih (k + 1) _ _ _ _ _ hc3 hps (by omega) (by omega) (by omega) (by omega) (by omega))
                      · first
                        | (exfalso; omega)
                        | (
                            refine ex_k 2 (P := none) (g := (cod m6_readShape 45, [some (.inl 16), some (.inr 2), some (.inr st), some (.inl 102), some (.inr z), some (.inr (nu + 1)), some (.inr (k : Int)), some (.inr p), some (.inr (wdt ((τ 16) 1) (τ 17) p z))], [.inr z, .inl 16, .inr (nu + 1), .inl 16], (zr τ 18 od))) rfl trivial ?_
                            refine ex_c (t_wayAt (τ := (zr τ 18 od)) (z := z) (by omega) hT) (is := cod m6_readShape 46) (L := [some (.inl 16), some (.inr 2), some (.inr st), some (.inl 102), some (.inr z), some (.inr (nu + 1)), some (.inr (k : Int)), some (.inr p), some (.inr (wdt ((τ 16) 1) (τ 17) p z))]) (st := [.inr (nu + 1), .inl 16]) rfl rfl rfl ?_
                            show Ex _ _ (cod m6_readShape 46, [some (.inl 16), some (.inr 2), some (.inr st), some (.inl 102), some (.inr z), some (.inr (nu + 1)), some (.inr (k : Int)), some (.inr p), some (.inr (wdt ((τ 16) 1) (τ 17) p z))], [.inr (if sg ((τ 16) 1) (τ 17) z = 43 then 1 else 0), .inr (nu + 1), .inl 16], (zr τ 18 od)) _ _
                            refine ex_k 1 (P := none) (g := (cod m6_readShape 51, [some (.inl 16), some (.inr 2), some (.inr st), some (.inl 102), some (.inr z), some (.inr (nu + 1)), some (.inr (k : Int)), some (.inr p), some (.inr (wdt ((τ 16) 1) (τ 17) p z))], [.inr (if sg ((τ 16) 1) (τ 17) z = 43 then 1 else 0), .inr (nu + 1), .inl 16], (zr τ 18 od))) rfl trivial ?_
                            refine ex_c (t_setOrder (τ := (zr τ 18 od)) (c := nu + 1) (v := if sg ((τ 16) 1) (τ 17) z = 43 then 1 else 0) (by omega) hoc) (is := cod m6_readShape 52) (L := [some (.inl 16), some (.inr 2), some (.inr st), some (.inl 102), some (.inr z), some (.inr (nu + 1)), some (.inr (k : Int)), some (.inr p), some (.inr (wdt ((τ 16) 1) (τ 17) p z))]) (st := []) rfl rfl rfl ?_
                            show Ex _ _ (cod m6_readShape 52, [some (.inl 16), some (.inr 2), some (.inr st), some (.inl 102), some (.inr z), some (.inr (nu + 1)), some (.inr (k : Int)), some (.inr p), some (.inr (wdt ((τ 16) 1) (τ 17) p z))], [], (zr (zr τ 18 od) 18 (zu od ((τ 16) 3 * 4 + (nu + 1)).toNat (if sg ((τ 16) 1) (τ 17) z = 43 then 1 else 0)))) _ _
                            rw [zr_zr]
                            refine ex_k 6 (P := none) (g := (cod m6_readShape 9, [some (.inl 16), some (.inr 2), some (.inr st), some (.inl 102), some (.inr (z + (wdt ((τ 16) 1) (τ 17) p z))), some (.inr (nu + 1)), some (.inr ((k : Int) + 1)), some (.inr p), some (.inr (wdt ((τ 16) 1) (τ 17) p z))], [], (zr τ 18 (zu od ((τ 16) 3 * 4 + (nu + 1)).toNat (if sg ((τ 16) 1) (τ 17) z = 43 then 1 else 0))))) rfl trivial ?_
                            have hnu4 : cnm (p :: ps) = 1 + cnm ps := by rw [hcc, if_pos (by unfold isn; omega)]
                            rw [res_n (by omega) (show isn p by unfold isn; omega), show vlu (τ 16 1) (τ 17) p z (wdt (τ 16 1) (τ 17) p z) = (if sg ((τ 16) 1) (τ 17) z = 43 then 1 else 0) from by unfold vlu; first | rw [if_pos (by omega)] | rw [if_neg (by omega)]]
                            exact ih (k + 1) _ _ _ _ _ hc3 hps (by omega) (by omega) (by omega) (by omega) (by omega)))
                · first
                  | (exfalso; omega)
                  | (
                      refine ex_k 2 (P := none) (g := (cod m6_readShape 36, [some (.inl 16), some (.inr 2), some (.inr st), some (.inl 102), some (.inr z), some (.inr nu), some (.inr (k : Int)), some (.inr p), some (.inr (wdt ((τ 16) 1) (τ 17) p z))], [.inr 37, .inr p], (zr τ 18 od))) rfl trivial ?_
                      refine ex_b (P := ¬ p = 37) (ct := (cod m6_readShape 52, [some (.inl 16), some (.inr 2), some (.inr st), some (.inl 102), some (.inr z), some (.inr nu), some (.inr (k : Int)), some (.inr p), some (.inr (wdt ((τ 16) 1) (τ 17) p z))], [], (zr τ 18 od))) (cf := (cod m6_readShape 37, [some (.inl 16), some (.inr 2), some (.inr st), some (.inl 102), some (.inr z), some (.inr nu), some (.inr (k : Int)), some (.inr p), some (.inr (wdt ((τ 16) 1) (τ 17) p z))], [], (zr τ 18 od))) rfl ⟨⟨by omega, by omega⟩, ⟨by decide, by decide⟩⟩ (fun h6 => ?_) (fun h6 => ?_)
                      · first
                        | (exfalso; omega)
                        | (
                            refine ex_k 6 (P := none) (g := (cod m6_readShape 9, [some (.inl 16), some (.inr 2), some (.inr st), some (.inl 102), some (.inr (z + (wdt ((τ 16) 1) (τ 17) p z))), some (.inr nu), some (.inr ((k : Int) + 1)), some (.inr p), some (.inr (wdt ((τ 16) 1) (τ 17) p z))], [], (zr τ 18 od))) rfl trivial ?_
                            have hnu4 : cnm (p :: ps) = 0 + cnm ps := by rw [hcc, if_neg (by unfold isn; omega)]
                            rw [res_f (by omega) (show ¬ isn p by unfold isn; omega)]
                            exact ih (k + 1) _ _ _ _ _ hc3 hps (by omega) (by omega) (by omega) (by omega) (by omega))
                      · first
                        | (exfalso; omega)
                        | (
                            refine ex_k 5 (P := none) (g := (cod m6_readShape 42, [some (.inl 16), some (.inr 2), some (.inr st), some (.inl 102), some (.inr z), some (.inr (nu + 1)), some (.inr (k : Int)), some (.inr p), some (.inr (wdt ((τ 16) 1) (τ 17) p z))], [.inr 37, .inr p, .inr (nu + 1), .inl 16], (zr τ 18 od))) rfl trivial ?_
                            refine ex_b (P := ¬ p = 37) (ct := (cod m6_readShape 47, [some (.inl 16), some (.inr 2), some (.inr st), some (.inl 102), some (.inr z), some (.inr (nu + 1)), some (.inr (k : Int)), some (.inr p), some (.inr (wdt ((τ 16) 1) (τ 17) p z))], [.inr (nu + 1), .inl 16], (zr τ 18 od))) (cf := (cod m6_readShape 43, [some (.inl 16), some (.inr 2), some (.inr st), some (.inl 102), some (.inr z), some (.inr (nu + 1)), some (.inr (k : Int)), some (.inr p), some (.inr (wdt ((τ 16) 1) (τ 17) p z))], [.inr (nu + 1), .inl 16], (zr τ 18 od))) rfl ⟨⟨by omega, by omega⟩, ⟨by decide, by decide⟩⟩ (fun h7 => ?_) (fun h7 => ?_)
                            · first
                              | (exfalso; omega)
                              | (
                                  refine ex_k 3 (P := none) (g := (cod m6_readShape 50, [some (.inl 16), some (.inr 2), some (.inr st), some (.inl 102), some (.inr z), some (.inr (nu + 1)), some (.inr (k : Int)), some (.inr p), some (.inr (wdt ((τ 16) 1) (τ 17) p z))], [.inr (wdt ((τ 16) 1) (τ 17) p z), .inr z, .inl 16, .inr (nu + 1), .inl 16], (zr τ 18 od))) rfl trivial ?_
                                  refine ex_c (t_numberAt (τ := (zr τ 18 od)) (z := z) (w := wdt ((τ 16) 1) (τ 17) p z) (by omega) (by omega) hT) (is := cod m6_readShape 51) (L := [some (.inl 16), some (.inr 2), some (.inr st), some (.inl 102), some (.inr z), some (.inr (nu + 1)), some (.inr (k : Int)), some (.inr p), some (.inr (wdt ((τ 16) 1) (τ 17) p z))]) (st := [.inr (nu + 1), .inl 16]) rfl rfl rfl ?_
                                  show Ex _ _ (cod m6_readShape 51, [some (.inl 16), some (.inr 2), some (.inr st), some (.inl 102), some (.inr z), some (.inr (nu + 1)), some (.inr (k : Int)), some (.inr p), some (.inr (wdt ((τ 16) 1) (τ 17) p z))], [.inr (nmb ((τ 16) 1) (τ 17) z (wdt ((τ 16) 1) (τ 17) p z)), .inr (nu + 1), .inl 16], (zr τ 18 od)) _ _
                                  refine ex_c (t_setOrder (τ := (zr τ 18 od)) (c := nu + 1) (v := nmb ((τ 16) 1) (τ 17) z (wdt ((τ 16) 1) (τ 17) p z)) (by omega) hoc) (is := cod m6_readShape 52) (L := [some (.inl 16), some (.inr 2), some (.inr st), some (.inl 102), some (.inr z), some (.inr (nu + 1)), some (.inr (k : Int)), some (.inr p), some (.inr (wdt ((τ 16) 1) (τ 17) p z))]) (st := []) rfl rfl rfl ?_
                                  show Ex _ _ (cod m6_readShape 52, [some (.inl 16), some (.inr 2), some (.inr st), some (.inl 102), some (.inr z), some (.inr (nu + 1)), some (.inr (k : Int)), some (.inr p), some (.inr (wdt ((τ 16) 1) (τ 17) p z))], [], (zr (zr τ 18 od) 18 (zu od ((τ 16) 3 * 4 + (nu + 1)).toNat (nmb ((τ 16) 1) (τ 17) z (wdt ((τ 16) 1) (τ 17) p z))))) _ _
                                  rw [zr_zr]
                                  refine ex_k 6 (P := none) (g := (cod m6_readShape 9, [some (.inl 16), some (.inr 2), some (.inr st), some (.inl 102), some (.inr (z + (wdt ((τ 16) 1) (τ 17) p z))), some (.inr (nu + 1)), some (.inr ((k : Int) + 1)), some (.inr p), some (.inr (wdt ((τ 16) 1) (τ 17) p z))], [], (zr τ 18 (zu od ((τ 16) 3 * 4 + (nu + 1)).toNat (nmb ((τ 16) 1) (τ 17) z (wdt ((τ 16) 1) (τ 17) p z)))))) rfl trivial ?_
                                  have hnu4 : cnm (p :: ps) = 1 + cnm ps := by rw [hcc, if_pos (by unfold isn; omega)]
                                  rw [res_n (by omega) (show isn p by unfold isn; omega), show vlu (τ 16 1) (τ 17) p z (wdt (τ 16 1) (τ 17) p z) = (nmb ((τ 16) 1) (τ 17) z (wdt ((τ 16) 1) (τ 17) p z)) from by unfold vlu; first | rw [if_pos (by omega)] | rw [if_neg (by omega)]]
                                  exact ih (k + 1) _ _ _ _ _ hc3 hps (by omega) (by omega) (by omega) (by omega) (by omega))
                            · first
                              | (exfalso; omega)
                              | (
                                  refine ex_k 2 (P := none) (g := (cod m6_readShape 45, [some (.inl 16), some (.inr 2), some (.inr st), some (.inl 102), some (.inr z), some (.inr (nu + 1)), some (.inr (k : Int)), some (.inr p), some (.inr (wdt ((τ 16) 1) (τ 17) p z))], [.inr z, .inl 16, .inr (nu + 1), .inl 16], (zr τ 18 od))) rfl trivial ?_
                                  refine ex_c (t_wayAt (τ := (zr τ 18 od)) (z := z) (by omega) hT) (is := cod m6_readShape 46) (L := [some (.inl 16), some (.inr 2), some (.inr st), some (.inl 102), some (.inr z), some (.inr (nu + 1)), some (.inr (k : Int)), some (.inr p), some (.inr (wdt ((τ 16) 1) (τ 17) p z))]) (st := [.inr (nu + 1), .inl 16]) rfl rfl rfl ?_
                                  show Ex _ _ (cod m6_readShape 46, [some (.inl 16), some (.inr 2), some (.inr st), some (.inl 102), some (.inr z), some (.inr (nu + 1)), some (.inr (k : Int)), some (.inr p), some (.inr (wdt ((τ 16) 1) (τ 17) p z))], [.inr (if sg ((τ 16) 1) (τ 17) z = 43 then 1 else 0), .inr (nu + 1), .inl 16], (zr τ 18 od)) _ _
                                  refine ex_k 1 (P := none) (g := (cod m6_readShape 51, [some (.inl 16), some (.inr 2), some (.inr st), some (.inl 102), some (.inr z), some (.inr (nu + 1)), some (.inr (k : Int)), some (.inr p), some (.inr (wdt ((τ 16) 1) (τ 17) p z))], [.inr (if sg ((τ 16) 1) (τ 17) z = 43 then 1 else 0), .inr (nu + 1), .inl 16], (zr τ 18 od))) rfl trivial ?_
                                  refine ex_c (t_setOrder (τ := (zr τ 18 od)) (c := nu + 1) (v := if sg ((τ 16) 1) (τ 17) z = 43 then 1 else 0) (by omega) hoc) (is := cod m6_readShape 52) (L := [some (.inl 16), some (.inr 2), some (.inr st), some (.inl 102), some (.inr z), some (.inr (nu + 1)), some (.inr (k : Int)), some (.inr p), some (.inr (wdt ((τ 16) 1) (τ 17) p z))]) (st := []) rfl rfl rfl ?_
                                  show Ex _ _ (cod m6_readShape 52, [some (.inl 16), some (.inr 2), some (.inr st), some (.inl 102), some (.inr z), some (.inr (nu + 1)), some (.inr (k : Int)), some (.inr p), some (.inr (wdt ((τ 16) 1) (τ 17) p z))], [], (zr (zr τ 18 od) 18 (zu od ((τ 16) 3 * 4 + (nu + 1)).toNat (if sg ((τ 16) 1) (τ 17) z = 43 then 1 else 0)))) _ _
                                  rw [zr_zr]
                                  refine ex_k 6 (P := none) (g := (cod m6_readShape 9, [some (.inl 16), some (.inr 2), some (.inr st), some (.inl 102), some (.inr (z + (wdt ((τ 16) 1) (τ 17) p z))), some (.inr (nu + 1)), some (.inr ((k : Int) + 1)), some (.inr p), some (.inr (wdt ((τ 16) 1) (τ 17) p z))], [], (zr τ 18 (zu od ((τ 16) 3 * 4 + (nu + 1)).toNat (if sg ((τ 16) 1) (τ 17) z = 43 then 1 else 0))))) rfl trivial ?_
                                  have hnu4 : cnm (p :: ps) = 1 + cnm ps := by rw [hcc, if_pos (by unfold isn; omega)]
                                  rw [res_n (by omega) (show isn p by unfold isn; omega), show vlu (τ 16 1) (τ 17) p z (wdt (τ 16 1) (τ 17) p z) = (if sg ((τ 16) 1) (τ 17) z = 43 then 1 else 0) from by unfold vlu; first | rw [if_pos (by omega)] | rw [if_neg (by omega)]]
                                  exact ih (k + 1) _ _ _ _ _ hc3 hps (by omega) (by omega) (by omega) (by omega) (by omega))))))
    · first
      | (exfalso; omega)
      | (
          refine ex_k 3 (P := some ((-1) = -1)) (g := (cod m6_readShape 27, [some (.inl 16), some (.inr 2), some (.inr st), some (.inl 102), some (.inr z), some (.inr nu), some (.inr (k : Int)), some (.inr p), some (.inr (wdt ((τ 16) 1) (τ 17) p z))], [.inr (-z - 1)], (zr τ 18 od))) rfl (by show (-1) = -1; omega) ?_
          exact ex_r rfl trivial rfl (by rw [show mtc (τ 16 1) (τ 17) (p :: ps) z = _ from if_pos (by omega)]; rfl))
theorem t_readShape_2 {z : Int} {τ : SZ} (hT : Tx τ) (hoc : 0 ≤ τ 16 3 ∧ τ 16 3 < 13) (hz : 0 ≤ z ∧ z ≤ τ 16 1) : RZ 4 m6_readShape [.inl 16, .inr 2, .inr z] τ (.inl (some (.inr (rsv (mtc (τ 16 1) (τ 17) [108, 111, 99, 107, 32, 35, 32, 64, 32, 35] z))), zr τ 18 (ups (τ 18) (τ 16 3) 0 (mtc (τ 16 1) (τ 17) [108, 111, 99, 107, 32, 35, 32, 64, 32, 35] z).2.2))) := by
  refine Ex.call ?_ rfl rfl
  show Ex _ _ (cod m6_readShape 0, [some (.inl 16), some (.inr 2), some (.inr z), none, none, none, none, none, none], [], τ) _ _
  refine ex_k 1 (P := none) (g := (cod m6_readShape 1, [some (.inl 16), some (.inr 2), some (.inr z), none, none, none, none, none, none], [.inr 2], τ)) rfl trivial ?_
  refine ex_c (t_shapeOf_2 (τ := τ) ) (is := cod m6_readShape 2) (L := [some (.inl 16), some (.inr 2), some (.inr z), none, none, none, none, none, none]) (st := []) rfl rfl rfl ?_
  show Ex _ _ (cod m6_readShape 2, [some (.inl 16), some (.inr 2), some (.inr z), none, none, none, none, none, none], [.inl 102], τ) _ _
  refine ex_k 7 (P := none) (g := (cod m6_readShape 9, [some (.inl 16), some (.inr 2), some (.inr z), some (.inl 102), some (.inr z), some (.inr 0), some (.inr 0), none, none], [], τ)) rfl trivial ?_
  have q := lp_shape_2 (st := z) (τ := τ) hT hoc [108, 111, 99, 107, 32, 35, 32, 64, 32, 35] 0 z 0 (τ 18) none none rfl (by decide) rfl hz.1 hz.2 (by decide) (by decide)
  rw [zr_self] at q
  exact q
theorem lp_shape_3 {st : Int} {τ : SZ} (hT : Tx τ) (hoc : 0 ≤ τ 16 3 ∧ τ 16 3 < 13) : ∀ (ps : List Int) (k : Nat) (z nu : Int) (od : Nat → Int) (o7 o8 : Option VZ), List.drop k [102, 111, 103, 32, 35, 32, 64, 32, 35] = ps → (∀ p, p ∈ ps → 0 < p ∧ p < 1000) → k + ps.length = 9 → 0 ≤ z → z ≤ τ 16 1 → 0 ≤ nu → nu + cnm ps ≤ 3 → Ex 3 m6_readShape (cod m6_readShape 9, [some (.inl 16), some (.inr 3), some (.inr st), some (.inl 103), some (.inr z), some (.inr nu), some (.inr (k : Int)), o7, o8], [], (zr τ 18 od)) 0 (.inl (some (.inr (rsv (mtc (τ 16 1) (τ 17) ps z))), zr τ 18 (ups od (τ 16 3) nu (mtc (τ 16 1) (τ 17) ps z).2.2))) := by
  have hT1 := hT.1
  have hT2 := hT.2
  have hlen : ((byS.getD 3 []).length : Int) = 9 := rfl
  intro ps
  induction ps with
  | nil =>
    intro k z nu od o7 o8 hd hpp hk hz0 hz1 hnu0 hnu3
    rw [List.length_nil] at hk
    refine ex_k 3 (P := none) (g := (cod m6_readShape 12, [some (.inl 16), some (.inr 3), some (.inr st), some (.inl 103), some (.inr z), some (.inr nu), some (.inr (k : Int)), o7, o8], [.inr ((byS.getD 3 []).length : Int), .inr (k : Int)], (zr τ 18 od))) rfl trivial ?_
    refine ex_b (P := ((byS.getD 3 []).length : Int) ≤ (k : Int)) (ct := (cod m6_readShape 58, [some (.inl 16), some (.inr 3), some (.inr st), some (.inl 103), some (.inr z), some (.inr nu), some (.inr (k : Int)), o7, o8], [], (zr τ 18 od))) (cf := (cod m6_readShape 13, [some (.inl 16), some (.inr 3), some (.inr st), some (.inl 103), some (.inr z), some (.inr nu), some (.inr (k : Int)), o7, o8], [], (zr τ 18 od))) rfl ⟨⟨by omega, by omega⟩, ⟨by omega, by omega⟩⟩ (fun _ => ?_) (fun hh => absurd (by omega) hh)
    refine ex_k 1 (P := none) (g := (cod m6_readShape 59, [some (.inl 16), some (.inr 3), some (.inr st), some (.inl 103), some (.inr z), some (.inr nu), some (.inr (k : Int)), o7, o8], [.inr z], (zr τ 18 od))) rfl trivial ?_
    exact ex_r rfl trivial rfl (rfl)
  | cons p ps ih =>
    intro k z nu od o7 o8 hd hpp hk hz0 hz1 hnu0 hnu3
    obtain ⟨hc1, hc2, hc3⟩ := chl (b := byS.getD 3 []) rfl hd
    have hp0 := hpp p (List.mem_cons_self)
    have hw := @wdt_in (τ 16 1) (τ 17) p z (by omega)
    have hcn := cnm_in ps
    have hps := fun q hq => hpp q (List.mem_cons_of_mem p hq)
    have hcc : cnm (p :: ps) = (if isn p then 1 else 0) + cnm ps := rfl
    rw [List.length_cons] at hk
    refine ex_k 3 (P := none) (g := (cod m6_readShape 12, [some (.inl 16), some (.inr 3), some (.inr st), some (.inl 103), some (.inr z), some (.inr nu), some (.inr (k : Int)), o7, o8], [.inr ((byS.getD 3 []).length : Int), .inr (k : Int)], (zr τ 18 od))) rfl trivial ?_
    refine ex_b (P := ((byS.getD 3 []).length : Int) ≤ (k : Int)) (ct := (cod m6_readShape 58, [some (.inl 16), some (.inr 3), some (.inr st), some (.inl 103), some (.inr z), some (.inr nu), some (.inr (k : Int)), o7, o8], [], (zr τ 18 od))) (cf := (cod m6_readShape 13, [some (.inl 16), some (.inr 3), some (.inr st), some (.inl 103), some (.inr z), some (.inr nu), some (.inr (k : Int)), o7, o8], [], (zr τ 18 od))) rfl ⟨⟨by omega, by omega⟩, ⟨by omega, by omega⟩⟩ (fun hh => absurd hh (by omega)) (fun _ => ?_)
    refine ex_k 3 (P := some (0 ≤ (k : Int) ∧ (k : Int) < ((byS.getD 3 []).length : Int))) (g := (cod m6_readShape 16, [some (.inl 16), some (.inr 3), some (.inr st), some (.inl 103), some (.inr z), some (.inr nu), some (.inr (k : Int)), o7, o8], [.inr (((byS.getD 3 []).getD (k : Int).toNat 0).toInt)], (zr τ 18 od))) rfl (by show 0 ≤ (k : Int) ∧ (k : Int) < ((byS.getD 3 []).length : Int); omega) ?_
    rw [show ((byS.getD 3 []).getD (k : Int).toNat 0).toInt = p from hc2]
    refine ex_k 4 (P := none) (g := (cod m6_readShape 20, [some (.inl 16), some (.inr 3), some (.inr st), some (.inl 103), some (.inr z), some (.inr nu), some (.inr (k : Int)), some (.inr p), o8], [.inr z, .inr p, .inl 16], (zr τ 18 od))) rfl trivial ?_
    refine ex_c (t_widthOf (τ := (zr τ 18 od)) (p := p) (z := z) (by omega) (by omega) hT) (is := cod m6_readShape 21) (L := [some (.inl 16), some (.inr 3), some (.inr st), some (.inl 103), some (.inr z), some (.inr nu), some (.inr (k : Int)), some (.inr p), o8]) (st := []) rfl rfl rfl ?_
    show Ex _ _ (cod m6_readShape 21, [some (.inl 16), some (.inr 3), some (.inr st), some (.inl 103), some (.inr z), some (.inr nu), some (.inr (k : Int)), some (.inr p), o8], [.inr (wdt ((τ 16) 1) (τ 17) p z)], (zr τ 18 od)) _ _
    refine ex_k 2 (P := none) (g := (cod m6_readShape 23, [some (.inl 16), some (.inr 3), some (.inr st), some (.inl 103), some (.inr z), some (.inr nu), some (.inr (k : Int)), some (.inr p), some (.inr (wdt ((τ 16) 1) (τ 17) p z))], [.inr (wdt ((τ 16) 1) (τ 17) p z)], (zr τ 18 od))) rfl trivial ?_
    refine ex_b (P := ¬ (wdt ((τ 16) 1) (τ 17) p z) = 0) (ct := (cod m6_readShape 28, [some (.inl 16), some (.inr 3), some (.inr st), some (.inl 103), some (.inr z), some (.inr nu), some (.inr (k : Int)), some (.inr p), some (.inr (wdt ((τ 16) 1) (τ 17) p z))], [], (zr τ 18 od))) (cf := (cod m6_readShape 24, [some (.inl 16), some (.inr 3), some (.inr st), some (.inl 103), some (.inr z), some (.inr nu), some (.inr (k : Int)), some (.inr p), some (.inr (wdt ((τ 16) 1) (τ 17) p z))], [], (zr τ 18 od))) rfl ⟨by omega, by omega⟩ (fun h1 => ?_) (fun h1 => ?_)
    · first
      | (exfalso; omega)
      | (
          refine ex_k 2 (P := none) (g := (cod m6_readShape 30, [some (.inl 16), some (.inr 3), some (.inr st), some (.inl 103), some (.inr z), some (.inr nu), some (.inr (k : Int)), some (.inr p), some (.inr (wdt ((τ 16) 1) (τ 17) p z))], [.inr 35, .inr p], (zr τ 18 od))) rfl trivial ?_
          refine ex_b (P := p = 35) (ct := (cod m6_readShape 37, [some (.inl 16), some (.inr 3), some (.inr st), some (.inl 103), some (.inr z), some (.inr nu), some (.inr (k : Int)), some (.inr p), some (.inr (wdt ((τ 16) 1) (τ 17) p z))], [], (zr τ 18 od))) (cf := (cod m6_readShape 31, [some (.inl 16), some (.inr 3), some (.inr st), some (.inl 103), some (.inr z), some (.inr nu), some (.inr (k : Int)), some (.inr p), some (.inr (wdt ((τ 16) 1) (τ 17) p z))], [], (zr τ 18 od))) rfl ⟨⟨by omega, by omega⟩, ⟨by decide, by decide⟩⟩ (fun h2 => ?_) (fun h2 => ?_)
          · first
            | (exfalso; omega)
            | (
                refine ex_k 5 (P := none) (g := (cod m6_readShape 42, [some (.inl 16), some (.inr 3), some (.inr st), some (.inl 103), some (.inr z), some (.inr (nu + 1)), some (.inr (k : Int)), some (.inr p), some (.inr (wdt ((τ 16) 1) (τ 17) p z))], [.inr 37, .inr p, .inr (nu + 1), .inl 16], (zr τ 18 od))) rfl trivial ?_
                refine ex_b (P := ¬ p = 37) (ct := (cod m6_readShape 47, [some (.inl 16), some (.inr 3), some (.inr st), some (.inl 103), some (.inr z), some (.inr (nu + 1)), some (.inr (k : Int)), some (.inr p), some (.inr (wdt ((τ 16) 1) (τ 17) p z))], [.inr (nu + 1), .inl 16], (zr τ 18 od))) (cf := (cod m6_readShape 43, [some (.inl 16), some (.inr 3), some (.inr st), some (.inl 103), some (.inr z), some (.inr (nu + 1)), some (.inr (k : Int)), some (.inr p), some (.inr (wdt ((τ 16) 1) (τ 17) p z))], [.inr (nu + 1), .inl 16], (zr τ 18 od))) rfl ⟨⟨by omega, by omega⟩, ⟨by decide, by decide⟩⟩ (fun h3 => ?_) (fun h3 => ?_)
                · first
                  | (exfalso; omega)
                  | (
                      refine ex_k 3 (P := none) (g := (cod m6_readShape 50, [some (.inl 16), some (.inr 3), some (.inr st), some (.inl 103), some (.inr z), some (.inr (nu + 1)), some (.inr (k : Int)), some (.inr p), some (.inr (wdt ((τ 16) 1) (τ 17) p z))], [.inr (wdt ((τ 16) 1) (τ 17) p z), .inr z, .inl 16, .inr (nu + 1), .inl 16], (zr τ 18 od))) rfl trivial ?_
                      refine ex_c (t_numberAt (τ := (zr τ 18 od)) (z := z) (w := wdt ((τ 16) 1) (τ 17) p z) (by omega) (by omega) hT) (is := cod m6_readShape 51) (L := [some (.inl 16), some (.inr 3), some (.inr st), some (.inl 103), some (.inr z), some (.inr (nu + 1)), some (.inr (k : Int)), some (.inr p), some (.inr (wdt ((τ 16) 1) (τ 17) p z))]) (st := [.inr (nu + 1), .inl 16]) rfl rfl rfl ?_
                      show Ex _ _ (cod m6_readShape 51, [some (.inl 16), some (.inr 3), some (.inr st), some (.inl 103), some (.inr z), some (.inr (nu + 1)), some (.inr (k : Int)), some (.inr p), some (.inr (wdt ((τ 16) 1) (τ 17) p z))], [.inr (nmb ((τ 16) 1) (τ 17) z (wdt ((τ 16) 1) (τ 17) p z)), .inr (nu + 1), .inl 16], (zr τ 18 od)) _ _
                      refine ex_c (t_setOrder (τ := (zr τ 18 od)) (c := nu + 1) (v := nmb ((τ 16) 1) (τ 17) z (wdt ((τ 16) 1) (τ 17) p z)) (by omega) hoc) (is := cod m6_readShape 52) (L := [some (.inl 16), some (.inr 3), some (.inr st), some (.inl 103), some (.inr z), some (.inr (nu + 1)), some (.inr (k : Int)), some (.inr p), some (.inr (wdt ((τ 16) 1) (τ 17) p z))]) (st := []) rfl rfl rfl ?_
                      show Ex _ _ (cod m6_readShape 52, [some (.inl 16), some (.inr 3), some (.inr st), some (.inl 103), some (.inr z), some (.inr (nu + 1)), some (.inr (k : Int)), some (.inr p), some (.inr (wdt ((τ 16) 1) (τ 17) p z))], [], (zr (zr τ 18 od) 18 (zu od ((τ 16) 3 * 4 + (nu + 1)).toNat (nmb ((τ 16) 1) (τ 17) z (wdt ((τ 16) 1) (τ 17) p z))))) _ _
                      rw [zr_zr]
                      refine ex_k 6 (P := none) (g := (cod m6_readShape 9, [some (.inl 16), some (.inr 3), some (.inr st), some (.inl 103), some (.inr (z + (wdt ((τ 16) 1) (τ 17) p z))), some (.inr (nu + 1)), some (.inr ((k : Int) + 1)), some (.inr p), some (.inr (wdt ((τ 16) 1) (τ 17) p z))], [], (zr τ 18 (zu od ((τ 16) 3 * 4 + (nu + 1)).toNat (nmb ((τ 16) 1) (τ 17) z (wdt ((τ 16) 1) (τ 17) p z)))))) rfl trivial ?_
                      have hnu4 : cnm (p :: ps) = 1 + cnm ps := by rw [hcc, if_pos (by unfold isn; omega)]
                      rw [res_n (by omega) (show isn p by unfold isn; omega), show vlu (τ 16 1) (τ 17) p z (wdt (τ 16 1) (τ 17) p z) = (nmb ((τ 16) 1) (τ 17) z (wdt ((τ 16) 1) (τ 17) p z)) from by unfold vlu; first | rw [if_pos (by omega)] | rw [if_neg (by omega)]]
                      exact ih (k + 1) _ _ _ _ _ hc3 hps (by omega) (by omega) (by omega) (by omega) (by omega))
                · first
                  | (exfalso; omega)
                  | (
                      refine ex_k 2 (P := none) (g := (cod m6_readShape 45, [some (.inl 16), some (.inr 3), some (.inr st), some (.inl 103), some (.inr z), some (.inr (nu + 1)), some (.inr (k : Int)), some (.inr p), some (.inr (wdt ((τ 16) 1) (τ 17) p z))], [.inr z, .inl 16, .inr (nu + 1), .inl 16], (zr τ 18 od))) rfl trivial ?_
                      refine ex_c (t_wayAt (τ := (zr τ 18 od)) (z := z) (by omega) hT) (is := cod m6_readShape 46) (L := [some (.inl 16), some (.inr 3), some (.inr st), some (.inl 103), some (.inr z), some (.inr (nu + 1)), some (.inr (k : Int)), some (.inr p), some (.inr (wdt ((τ 16) 1) (τ 17) p z))]) (st := [.inr (nu + 1), .inl 16]) rfl rfl rfl ?_
                      show Ex _ _ (cod m6_readShape 46, [some (.inl 16), some (.inr 3), some (.inr st), some (.inl 103), some (.inr z), some (.inr (nu + 1)), some (.inr (k : Int)), some (.inr p), some (.inr (wdt ((τ 16) 1) (τ 17) p z))], [.inr (if sg ((τ 16) 1) (τ 17) z = 43 then 1 else 0), .inr (nu + 1), .inl 16], (zr τ 18 od)) _ _
                      refine ex_k 1 (P := none) (g := (cod m6_readShape 51, [some (.inl 16), some (.inr 3), some (.inr st), some (.inl 103), some (.inr z), some (.inr (nu + 1)), some (.inr (k : Int)), some (.inr p), some (.inr (wdt ((τ 16) 1) (τ 17) p z))], [.inr (if sg ((τ 16) 1) (τ 17) z = 43 then 1 else 0), .inr (nu + 1), .inl 16], (zr τ 18 od))) rfl trivial ?_
                      refine ex_c (t_setOrder (τ := (zr τ 18 od)) (c := nu + 1) (v := if sg ((τ 16) 1) (τ 17) z = 43 then 1 else 0) (by omega) hoc) (is := cod m6_readShape 52) (L := [some (.inl 16), some (.inr 3), some (.inr st), some (.inl 103), some (.inr z), some (.inr (nu + 1)), some (.inr (k : Int)), some (.inr p), some (.inr (wdt ((τ 16) 1) (τ 17) p z))]) (st := []) rfl rfl rfl ?_
                      show Ex _ _ (cod m6_readShape 52, [some (.inl 16), some (.inr 3), some (.inr st), some (.inl 103), some (.inr z), some (.inr (nu + 1)), some (.inr (k : Int)), some (.inr p), some (.inr (wdt ((τ 16) 1) (τ 17) p z))], [], (zr (zr τ 18 od) 18 (zu od ((τ 16) 3 * 4 + (nu + 1)).toNat (if sg ((τ 16) 1) (τ 17) z = 43 then 1 else 0)))) _ _
                      rw [zr_zr]
                      refine ex_k 6 (P := none) (g := (cod m6_readShape 9, [some (.inl 16), some (.inr 3), some (.inr st), some (.inl 103), some (.inr (z + (wdt ((τ 16) 1) (τ 17) p z))), some (.inr (nu + 1)), some (.inr ((k : Int) + 1)), some (.inr p), some (.inr (wdt ((τ 16) 1) (τ 17) p z))], [], (zr τ 18 (zu od ((τ 16) 3 * 4 + (nu + 1)).toNat (if sg ((τ 16) 1) (τ 17) z = 43 then 1 else 0))))) rfl trivial ?_
                      have hnu4 : cnm (p :: ps) = 1 + cnm ps := by rw [hcc, if_pos (by unfold isn; omega)]
                      rw [res_n (by omega) (show isn p by unfold isn; omega), show vlu (τ 16 1) (τ 17) p z (wdt (τ 16 1) (τ 17) p z) = (if sg ((τ 16) 1) (τ 17) z = 43 then 1 else 0) from by unfold vlu; first | rw [if_pos (by omega)] | rw [if_neg (by omega)]]
                      exact ih (k + 1) _ _ _ _ _ hc3 hps (by omega) (by omega) (by omega) (by omega) (by omega)))
          · first
            | (exfalso; omega)
            | (
                refine ex_k 2 (P := none) (g := (cod m6_readShape 33, [some (.inl 16), some (.inr 3), some (.inr st), some (.inl 103), some (.inr z), some (.inr nu), some (.inr (k : Int)), some (.inr p), some (.inr (wdt ((τ 16) 1) (τ 17) p z))], [.inr 64, .inr p], (zr τ 18 od))) rfl trivial ?_
                refine ex_b (P := p = 64) (ct := (cod m6_readShape 37, [some (.inl 16), some (.inr 3), some (.inr st), some (.inl 103), some (.inr z), some (.inr nu), some (.inr (k : Int)), some (.inr p), some (.inr (wdt ((τ 16) 1) (τ 17) p z))], [], (zr τ 18 od))) (cf := (cod m6_readShape 34, [some (.inl 16), some (.inr 3), some (.inr st), some (.inl 103), some (.inr z), some (.inr nu), some (.inr (k : Int)), some (.inr p), some (.inr (wdt ((τ 16) 1) (τ 17) p z))], [], (zr τ 18 od))) rfl ⟨⟨by omega, by omega⟩, ⟨by decide, by decide⟩⟩ (fun h4 => ?_) (fun h4 => ?_)
                · first
                  | (exfalso; omega)
                  | (
                      refine ex_k 5 (P := none) (g := (cod m6_readShape 42, [some (.inl 16), some (.inr 3), some (.inr st), some (.inl 103), some (.inr z), some (.inr (nu + 1)), some (.inr (k : Int)), some (.inr p), some (.inr (wdt ((τ 16) 1) (τ 17) p z))], [.inr 37, .inr p, .inr (nu + 1), .inl 16], (zr τ 18 od))) rfl trivial ?_
                      refine ex_b (P := ¬ p = 37) (ct := (cod m6_readShape 47, [some (.inl 16), some (.inr 3), some (.inr st), some (.inl 103), some (.inr z), some (.inr (nu + 1)), some (.inr (k : Int)), some (.inr p), some (.inr (wdt ((τ 16) 1) (τ 17) p z))], [.inr (nu + 1), .inl 16], (zr τ 18 od))) (cf := (cod m6_readShape 43, [some (.inl 16), some (.inr 3), some (.inr st), some (.inl 103), some (.inr z), some (.inr (nu + 1)), some (.inr (k : Int)), some (.inr p), some (.inr (wdt ((τ 16) 1) (τ 17) p z))], [.inr (nu + 1), .inl 16], (zr τ 18 od))) rfl ⟨⟨by omega, by omega⟩, ⟨by decide, by decide⟩⟩ (fun h5 => ?_) (fun h5 => ?_)
                      · first
                        | (exfalso; omega)
                        | (
                            refine ex_k 3 (P := none) (g := (cod m6_readShape 50, [some (.inl 16), some (.inr 3), some (.inr st), some (.inl 103), some (.inr z), some (.inr (nu + 1)), some (.inr (k : Int)), some (.inr p), some (.inr (wdt ((τ 16) 1) (τ 17) p z))], [.inr (wdt ((τ 16) 1) (τ 17) p z), .inr z, .inl 16, .inr (nu + 1), .inl 16], (zr τ 18 od))) rfl trivial ?_
                            refine ex_c (t_numberAt (τ := (zr τ 18 od)) (z := z) (w := wdt ((τ 16) 1) (τ 17) p z) (by omega) (by omega) hT) (is := cod m6_readShape 51) (L := [some (.inl 16), some (.inr 3), some (.inr st), some (.inl 103), some (.inr z), some (.inr (nu + 1)), some (.inr (k : Int)), some (.inr p), some (.inr (wdt ((τ 16) 1) (τ 17) p z))]) (st := [.inr (nu + 1), .inl 16]) rfl rfl rfl ?_
                            show Ex _ _ (cod m6_readShape 51, [some (.inl 16), some (.inr 3), some (.inr st), some (.inl 103), some (.inr z), some (.inr (nu + 1)), some (.inr (k : Int)), some (.inr p), some (.inr (wdt ((τ 16) 1) (τ 17) p z))], [.inr (nmb ((τ 16) 1) (τ 17) z (wdt ((τ 16) 1) (τ 17) p z)), .inr (nu + 1), .inl 16], (zr τ 18 od)) _ _
                            refine ex_c (t_setOrder (τ := (zr τ 18 od)) (c := nu + 1) (v := nmb ((τ 16) 1) (τ 17) z (wdt ((τ 16) 1) (τ 17) p z)) (by omega) hoc) (is := cod m6_readShape 52) (L := [some (.inl 16), some (.inr 3), some (.inr st), some (.inl 103), some (.inr z), some (.inr (nu + 1)), some (.inr (k : Int)), some (.inr p), some (.inr (wdt ((τ 16) 1) (τ 17) p z))]) (st := []) rfl rfl rfl ?_
                            show Ex _ _ (cod m6_readShape 52, [some (.inl 16), some (.inr 3), some (.inr st), some (.inl 103), some (.inr z), some (.inr (nu + 1)), some (.inr (k : Int)), some (.inr p), some (.inr (wdt ((τ 16) 1) (τ 17) p z))], [], (zr (zr τ 18 od) 18 (zu od ((τ 16) 3 * 4 + (nu + 1)).toNat (nmb ((τ 16) 1) (τ 17) z (wdt ((τ 16) 1) (τ 17) p z))))) _ _
                            rw [zr_zr]
                            refine ex_k 6 (P := none) (g := (cod m6_readShape 9, [some (.inl 16), some (.inr 3), some (.inr st), some (.inl 103), some (.inr (z + (wdt ((τ 16) 1) (τ 17) p z))), some (.inr (nu + 1)), some (.inr ((k : Int) + 1)), some (.inr p), some (.inr (wdt ((τ 16) 1) (τ 17) p z))], [], (zr τ 18 (zu od ((τ 16) 3 * 4 + (nu + 1)).toNat (nmb ((τ 16) 1) (τ 17) z (wdt ((τ 16) 1) (τ 17) p z)))))) rfl trivial ?_
                            have hnu4 : cnm (p :: ps) = 1 + cnm ps := by rw [hcc, if_pos (by unfold isn; omega)]
                            rw [res_n (by omega) (show isn p by unfold isn; omega), show vlu (τ 16 1) (τ 17) p z (wdt (τ 16 1) (τ 17) p z) = (nmb ((τ 16) 1) (τ 17) z (wdt ((τ 16) 1) (τ 17) p z)) from by unfold vlu; first | rw [if_pos (by omega)] | rw [if_neg (by omega)]]
                            exact ih (k + 1) _ _ _ _ _ hc3 hps (by omega) (by omega) (by omega) (by omega) (by omega))
                      · first
                        | (exfalso; omega)
                        | (
                            refine ex_k 2 (P := none) (g := (cod m6_readShape 45, [some (.inl 16), some (.inr 3), some (.inr st), some (.inl 103), some (.inr z), some (.inr (nu + 1)), some (.inr (k : Int)), some (.inr p), some (.inr (wdt ((τ 16) 1) (τ 17) p z))], [.inr z, .inl 16, .inr (nu + 1), .inl 16], (zr τ 18 od))) rfl trivial ?_
                            refine ex_c (t_wayAt (τ := (zr τ 18 od)) (z := z) (by omega) hT) (is := cod m6_readShape 46) (L := [some (.inl 16), some (.inr 3), some (.inr st), some (.inl 103), some (.inr z), some (.inr (nu + 1)), some (.inr (k : Int)), some (.inr p), some (.inr (wdt ((τ 16) 1) (τ 17) p z))]) (st := [.inr (nu + 1), .inl 16]) rfl rfl rfl ?_
                            show Ex _ _ (cod m6_readShape 46, [some (.inl 16), some (.inr 3), some (.inr st), some (.inl 103), some (.inr z), some (.inr (nu + 1)), some (.inr (k : Int)), some (.inr p), some (.inr (wdt ((τ 16) 1) (τ 17) p z))], [.inr (if sg ((τ 16) 1) (τ 17) z = 43 then 1 else 0), .inr (nu + 1), .inl 16], (zr τ 18 od)) _ _
                            refine ex_k 1 (P := none) (g := (cod m6_readShape 51, [some (.inl 16), some (.inr 3), some (.inr st), some (.inl 103), some (.inr z), some (.inr (nu + 1)), some (.inr (k : Int)), some (.inr p), some (.inr (wdt ((τ 16) 1) (τ 17) p z))], [.inr (if sg ((τ 16) 1) (τ 17) z = 43 then 1 else 0), .inr (nu + 1), .inl 16], (zr τ 18 od))) rfl trivial ?_
                            refine ex_c (t_setOrder (τ := (zr τ 18 od)) (c := nu + 1) (v := if sg ((τ 16) 1) (τ 17) z = 43 then 1 else 0) (by omega) hoc) (is := cod m6_readShape 52) (L := [some (.inl 16), some (.inr 3), some (.inr st), some (.inl 103), some (.inr z), some (.inr (nu + 1)), some (.inr (k : Int)), some (.inr p), some (.inr (wdt ((τ 16) 1) (τ 17) p z))]) (st := []) rfl rfl rfl ?_
                            show Ex _ _ (cod m6_readShape 52, [some (.inl 16), some (.inr 3), some (.inr st), some (.inl 103), some (.inr z), some (.inr (nu + 1)), some (.inr (k : Int)), some (.inr p), some (.inr (wdt ((τ 16) 1) (τ 17) p z))], [], (zr (zr τ 18 od) 18 (zu od ((τ 16) 3 * 4 + (nu + 1)).toNat (if sg ((τ 16) 1) (τ 17) z = 43 then 1 else 0)))) _ _
                            rw [zr_zr]
                            refine ex_k 6 (P := none) (g := (cod m6_readShape 9, [some (.inl 16), some (.inr 3), some (.inr st), some (.inl 103), some (.inr (z + (wdt ((τ 16) 1) (τ 17) p z))), some (.inr (nu + 1)), some (.inr ((k : Int) + 1)), some (.inr p), some (.inr (wdt ((τ 16) 1) (τ 17) p z))], [], (zr τ 18 (zu od ((τ 16) 3 * 4 + (nu + 1)).toNat (if sg ((τ 16) 1) (τ 17) z = 43 then 1 else 0))))) rfl trivial ?_
                            have hnu4 : cnm (p :: ps) = 1 + cnm ps := by rw [hcc, if_pos (by unfold isn; omega)]
                            rw [res_n (by omega) (show isn p by unfold isn; omega), show vlu (τ 16 1) (τ 17) p z (wdt (τ 16 1) (τ 17) p z) = (if sg ((τ 16) 1) (τ 17) z = 43 then 1 else 0) from by unfold vlu; first | rw [if_pos (by omega)] | rw [if_neg (by omega)]]
                            exact ih (k + 1) _ _ _ _ _ hc3 hps (by omega) (by omega) (by omega) (by omega) (by omega)))
                · first
                  | (exfalso; omega)
                  | (
                      refine ex_k 2 (P := none) (g := (cod m6_readShape 36, [some (.inl 16), some (.inr 3), some (.inr st), some (.inl 103), some (.inr z), some (.inr nu), some (.inr (k : Int)), some (.inr p), some (.inr (wdt ((τ 16) 1) (τ 17) p z))], [.inr 37, .inr p], (zr τ 18 od))) rfl trivial ?_
                      refine ex_b (P := ¬ p = 37) (ct := (cod m6_readShape 52, [some (.inl 16), some (.inr 3), some (.inr st), some (.inl 103), some (.inr z), some (.inr nu), some (.inr (k : Int)), some (.inr p), some (.inr (wdt ((τ 16) 1) (τ 17) p z))], [], (zr τ 18 od))) (cf := (cod m6_readShape 37, [some (.inl 16), some (.inr 3), some (.inr st), some (.inl 103), some (.inr z), some (.inr nu), some (.inr (k : Int)), some (.inr p), some (.inr (wdt ((τ 16) 1) (τ 17) p z))], [], (zr τ 18 od))) rfl ⟨⟨by omega, by omega⟩, ⟨by decide, by decide⟩⟩ (fun h6 => ?_) (fun h6 => ?_)
                      · first
                        | (exfalso; omega)
                        | (
                            refine ex_k 6 (P := none) (g := (cod m6_readShape 9, [some (.inl 16), some (.inr 3), some (.inr st), some (.inl 103), some (.inr (z + (wdt ((τ 16) 1) (τ 17) p z))), some (.inr nu), some (.inr ((k : Int) + 1)), some (.inr p), some (.inr (wdt ((τ 16) 1) (τ 17) p z))], [], (zr τ 18 od))) rfl trivial ?_
                            have hnu4 : cnm (p :: ps) = 0 + cnm ps := by rw [hcc, if_neg (by unfold isn; omega)]
                            rw [res_f (by omega) (show ¬ isn p by unfold isn; omega)]
                            exact ih (k + 1) _ _ _ _ _ hc3 hps (by omega) (by omega) (by omega) (by omega) (by omega))
                      · first
                        | (exfalso; omega)
                        | (
                            refine ex_k 5 (P := none) (g := (cod m6_readShape 42, [some (.inl 16), some (.inr 3), some (.inr st), some (.inl 103), some (.inr z), some (.inr (nu + 1)), some (.inr (k : Int)), some (.inr p), some (.inr (wdt ((τ 16) 1) (τ 17) p z))], [.inr 37, .inr p, .inr (nu + 1), .inl 16], (zr τ 18 od))) rfl trivial ?_
                            refine ex_b (P := ¬ p = 37) (ct := (cod m6_readShape 47, [some (.inl 16), some (.inr 3), some (.inr st), some (.inl 103), some (.inr z), some (.inr (nu + 1)), some (.inr (k : Int)), some (.inr p), some (.inr (wdt ((τ 16) 1) (τ 17) p z))], [.inr (nu + 1), .inl 16], (zr τ 18 od))) (cf := (cod m6_readShape 43, [some (.inl 16), some (.inr 3), some (.inr st), some (.inl 103), some (.inr z), some (.inr (nu + 1)), some (.inr (k : Int)), some (.inr p), some (.inr (wdt ((τ 16) 1) (τ 17) p z))], [.inr (nu + 1), .inl 16], (zr τ 18 od))) rfl ⟨⟨by omega, by omega⟩, ⟨by decide, by decide⟩⟩ (fun h7 => ?_) (fun h7 => ?_)
                            · first
                              | (exfalso; omega)
                              | (
                                  refine ex_k 3 (P := none) (g := (cod m6_readShape 50, [some (.inl 16), some (.inr 3), some (.inr st), some (.inl 103), some (.inr z), some (.inr (nu + 1)), some (.inr (k : Int)), some (.inr p), some (.inr (wdt ((τ 16) 1) (τ 17) p z))], [.inr (wdt ((τ 16) 1) (τ 17) p z), .inr z, .inl 16, .inr (nu + 1), .inl 16], (zr τ 18 od))) rfl trivial ?_
                                  refine ex_c (t_numberAt (τ := (zr τ 18 od)) (z := z) (w := wdt ((τ 16) 1) (τ 17) p z) (by omega) (by omega) hT) (is := cod m6_readShape 51) (L := [some (.inl 16), some (.inr 3), some (.inr st), some (.inl 103), some (.inr z), some (.inr (nu + 1)), some (.inr (k : Int)), some (.inr p), some (.inr (wdt ((τ 16) 1) (τ 17) p z))]) (st := [.inr (nu + 1), .inl 16]) rfl rfl rfl ?_
                                  show Ex _ _ (cod m6_readShape 51, [some (.inl 16), some (.inr 3), some (.inr st), some (.inl 103), some (.inr z), some (.inr (nu + 1)), some (.inr (k : Int)), some (.inr p), some (.inr (wdt ((τ 16) 1) (τ 17) p z))], [.inr (nmb ((τ 16) 1) (τ 17) z (wdt ((τ 16) 1) (τ 17) p z)), .inr (nu + 1), .inl 16], (zr τ 18 od)) _ _
                                  refine ex_c (t_setOrder (τ := (zr τ 18 od)) (c := nu + 1) (v := nmb ((τ 16) 1) (τ 17) z (wdt ((τ 16) 1) (τ 17) p z)) (by omega) hoc) (is := cod m6_readShape 52) (L := [some (.inl 16), some (.inr 3), some (.inr st), some (.inl 103), some (.inr z), some (.inr (nu + 1)), some (.inr (k : Int)), some (.inr p), some (.inr (wdt ((τ 16) 1) (τ 17) p z))]) (st := []) rfl rfl rfl ?_
                                  show Ex _ _ (cod m6_readShape 52, [some (.inl 16), some (.inr 3), some (.inr st), some (.inl 103), some (.inr z), some (.inr (nu + 1)), some (.inr (k : Int)), some (.inr p), some (.inr (wdt ((τ 16) 1) (τ 17) p z))], [], (zr (zr τ 18 od) 18 (zu od ((τ 16) 3 * 4 + (nu + 1)).toNat (nmb ((τ 16) 1) (τ 17) z (wdt ((τ 16) 1) (τ 17) p z))))) _ _
                                  rw [zr_zr]
                                  refine ex_k 6 (P := none) (g := (cod m6_readShape 9, [some (.inl 16), some (.inr 3), some (.inr st), some (.inl 103), some (.inr (z + (wdt ((τ 16) 1) (τ 17) p z))), some (.inr (nu + 1)), some (.inr ((k : Int) + 1)), some (.inr p), some (.inr (wdt ((τ 16) 1) (τ 17) p z))], [], (zr τ 18 (zu od ((τ 16) 3 * 4 + (nu + 1)).toNat (nmb ((τ 16) 1) (τ 17) z (wdt ((τ 16) 1) (τ 17) p z)))))) rfl trivial ?_
                                  have hnu4 : cnm (p :: ps) = 1 + cnm ps := by rw [hcc, if_pos (by unfold isn; omega)]
                                  rw [res_n (by omega) (show isn p by unfold isn; omega), show vlu (τ 16 1) (τ 17) p z (wdt (τ 16 1) (τ 17) p z) = (nmb ((τ 16) 1) (τ 17) z (wdt ((τ 16) 1) (τ 17) p z)) from by unfold vlu; first | rw [if_pos (by omega)] | rw [if_neg (by omega)]]
                                  exact ih (k + 1) _ _ _ _ _ hc3 hps (by omega) (by omega) (by omega) (by omega) (by omega))
                            · first
                              | (exfalso; omega)
                              | (
                                  refine ex_k 2 (P := none) (g := (cod m6_readShape 45, [some (.inl 16), some (.inr 3), some (.inr st), some (.inl 103), some (.inr z), some (.inr (nu + 1)), some (.inr (k : Int)), some (.inr p), some (.inr (wdt ((τ 16) 1) (τ 17) p z))], [.inr z, .inl 16, .inr (nu + 1), .inl 16], (zr τ 18 od))) rfl trivial ?_
                                  refine ex_c (t_wayAt (τ := (zr τ 18 od)) (z := z) (by omega) hT) (is := cod m6_readShape 46) (L := [some (.inl 16), some (.inr 3), some (.inr st), some (.inl 103), some (.inr z), some (.inr (nu + 1)), some (.inr (k : Int)), some (.inr p), some (.inr (wdt ((τ 16) 1) (τ 17) p z))]) (st := [.inr (nu + 1), .inl 16]) rfl rfl rfl ?_
                                  show Ex _ _ (cod m6_readShape 46, [some (.inl 16), some (.inr 3), some (.inr st), some (.inl 103), some (.inr z), some (.inr (nu + 1)), some (.inr (k : Int)), some (.inr p), some (.inr (wdt ((τ 16) 1) (τ 17) p z))], [.inr (if sg ((τ 16) 1) (τ 17) z = 43 then 1 else 0), .inr (nu + 1), .inl 16], (zr τ 18 od)) _ _
                                  refine ex_k 1 (P := none) (g := (cod m6_readShape 51, [some (.inl 16), some (.inr 3), some (.inr st), some (.inl 103), some (.inr z), some (.inr (nu + 1)), some (.inr (k : Int)), some (.inr p), some (.inr (wdt ((τ 16) 1) (τ 17) p z))], [.inr (if sg ((τ 16) 1) (τ 17) z = 43 then 1 else 0), .inr (nu + 1), .inl 16], (zr τ 18 od))) rfl trivial ?_
                                  refine ex_c (t_setOrder (τ := (zr τ 18 od)) (c := nu + 1) (v := if sg ((τ 16) 1) (τ 17) z = 43 then 1 else 0) (by omega) hoc) (is := cod m6_readShape 52) (L := [some (.inl 16), some (.inr 3), some (.inr st), some (.inl 103), some (.inr z), some (.inr (nu + 1)), some (.inr (k : Int)), some (.inr p), some (.inr (wdt ((τ 16) 1) (τ 17) p z))]) (st := []) rfl rfl rfl ?_
                                  show Ex _ _ (cod m6_readShape 52, [some (.inl 16), some (.inr 3), some (.inr st), some (.inl 103), some (.inr z), some (.inr (nu + 1)), some (.inr (k : Int)), some (.inr p), some (.inr (wdt ((τ 16) 1) (τ 17) p z))], [], (zr (zr τ 18 od) 18 (zu od ((τ 16) 3 * 4 + (nu + 1)).toNat (if sg ((τ 16) 1) (τ 17) z = 43 then 1 else 0)))) _ _
                                  rw [zr_zr]
                                  refine ex_k 6 (P := none) (g := (cod m6_readShape 9, [some (.inl 16), some (.inr 3), some (.inr st), some (.inl 103), some (.inr (z + (wdt ((τ 16) 1) (τ 17) p z))), some (.inr (nu + 1)), some (.inr ((k : Int) + 1)), some (.inr p), some (.inr (wdt ((τ 16) 1) (τ 17) p z))], [], (zr τ 18 (zu od ((τ 16) 3 * 4 + (nu + 1)).toNat (if sg ((τ 16) 1) (τ 17) z = 43 then 1 else 0))))) rfl trivial ?_
                                  have hnu4 : cnm (p :: ps) = 1 + cnm ps := by rw [hcc, if_pos (by unfold isn; omega)]
                                  rw [res_n (by omega) (show isn p by unfold isn; omega), show vlu (τ 16 1) (τ 17) p z (wdt (τ 16 1) (τ 17) p z) = (if sg ((τ 16) 1) (τ 17) z = 43 then 1 else 0) from by unfold vlu; first | rw [if_pos (by omega)] | rw [if_neg (by omega)]]
                                  exact ih (k + 1) _ _ _ _ _ hc3 hps (by omega) (by omega) (by omega) (by omega) (by omega))))))
    · first
      | (exfalso; omega)
      | (
          refine ex_k 3 (P := some ((-1) = -1)) (g := (cod m6_readShape 27, [some (.inl 16), some (.inr 3), some (.inr st), some (.inl 103), some (.inr z), some (.inr nu), some (.inr (k : Int)), some (.inr p), some (.inr (wdt ((τ 16) 1) (τ 17) p z))], [.inr (-z - 1)], (zr τ 18 od))) rfl (by show (-1) = -1; omega) ?_
          exact ex_r rfl trivial rfl (by rw [show mtc (τ 16 1) (τ 17) (p :: ps) z = _ from if_pos (by omega)]; rfl))
theorem t_readShape_3 {z : Int} {τ : SZ} (hT : Tx τ) (hoc : 0 ≤ τ 16 3 ∧ τ 16 3 < 13) (hz : 0 ≤ z ∧ z ≤ τ 16 1) : RZ 4 m6_readShape [.inl 16, .inr 3, .inr z] τ (.inl (some (.inr (rsv (mtc (τ 16 1) (τ 17) [102, 111, 103, 32, 35, 32, 64, 32, 35] z))), zr τ 18 (ups (τ 18) (τ 16 3) 0 (mtc (τ 16 1) (τ 17) [102, 111, 103, 32, 35, 32, 64, 32, 35] z).2.2))) := by
  refine Ex.call ?_ rfl rfl
  show Ex _ _ (cod m6_readShape 0, [some (.inl 16), some (.inr 3), some (.inr z), none, none, none, none, none, none], [], τ) _ _
  refine ex_k 1 (P := none) (g := (cod m6_readShape 1, [some (.inl 16), some (.inr 3), some (.inr z), none, none, none, none, none, none], [.inr 3], τ)) rfl trivial ?_
  refine ex_c (t_shapeOf_3 (τ := τ) ) (is := cod m6_readShape 2) (L := [some (.inl 16), some (.inr 3), some (.inr z), none, none, none, none, none, none]) (st := []) rfl rfl rfl ?_
  show Ex _ _ (cod m6_readShape 2, [some (.inl 16), some (.inr 3), some (.inr z), none, none, none, none, none, none], [.inl 103], τ) _ _
  refine ex_k 7 (P := none) (g := (cod m6_readShape 9, [some (.inl 16), some (.inr 3), some (.inr z), some (.inl 103), some (.inr z), some (.inr 0), some (.inr 0), none, none], [], τ)) rfl trivial ?_
  have q := lp_shape_3 (st := z) (τ := τ) hT hoc [102, 111, 103, 32, 35, 32, 64, 32, 35] 0 z 0 (τ 18) none none rfl (by decide) rfl hz.1 hz.2 (by decide) (by decide)
  rw [zr_self] at q
  exact q
theorem lp_shape_4 {st : Int} {τ : SZ} (hT : Tx τ) (hoc : 0 ≤ τ 16 3 ∧ τ 16 3 < 13) : ∀ (ps : List Int) (k : Nat) (z nu : Int) (od : Nat → Int) (o7 o8 : Option VZ), List.drop k [109, 111, 118, 101, 32, 35, 32, 35, 37] = ps → (∀ p, p ∈ ps → 0 < p ∧ p < 1000) → k + ps.length = 9 → 0 ≤ z → z ≤ τ 16 1 → 0 ≤ nu → nu + cnm ps ≤ 3 → Ex 3 m6_readShape (cod m6_readShape 9, [some (.inl 16), some (.inr 4), some (.inr st), some (.inl 104), some (.inr z), some (.inr nu), some (.inr (k : Int)), o7, o8], [], (zr τ 18 od)) 0 (.inl (some (.inr (rsv (mtc (τ 16 1) (τ 17) ps z))), zr τ 18 (ups od (τ 16 3) nu (mtc (τ 16 1) (τ 17) ps z).2.2))) := by
  have hT1 := hT.1
  have hT2 := hT.2
  have hlen : ((byS.getD 4 []).length : Int) = 9 := rfl
  intro ps
  induction ps with
  | nil =>
    intro k z nu od o7 o8 hd hpp hk hz0 hz1 hnu0 hnu3
    rw [List.length_nil] at hk
    refine ex_k 3 (P := none) (g := (cod m6_readShape 12, [some (.inl 16), some (.inr 4), some (.inr st), some (.inl 104), some (.inr z), some (.inr nu), some (.inr (k : Int)), o7, o8], [.inr ((byS.getD 4 []).length : Int), .inr (k : Int)], (zr τ 18 od))) rfl trivial ?_
    refine ex_b (P := ((byS.getD 4 []).length : Int) ≤ (k : Int)) (ct := (cod m6_readShape 58, [some (.inl 16), some (.inr 4), some (.inr st), some (.inl 104), some (.inr z), some (.inr nu), some (.inr (k : Int)), o7, o8], [], (zr τ 18 od))) (cf := (cod m6_readShape 13, [some (.inl 16), some (.inr 4), some (.inr st), some (.inl 104), some (.inr z), some (.inr nu), some (.inr (k : Int)), o7, o8], [], (zr τ 18 od))) rfl ⟨⟨by omega, by omega⟩, ⟨by omega, by omega⟩⟩ (fun _ => ?_) (fun hh => absurd (by omega) hh)
    refine ex_k 1 (P := none) (g := (cod m6_readShape 59, [some (.inl 16), some (.inr 4), some (.inr st), some (.inl 104), some (.inr z), some (.inr nu), some (.inr (k : Int)), o7, o8], [.inr z], (zr τ 18 od))) rfl trivial ?_
    exact ex_r rfl trivial rfl (rfl)
  | cons p ps ih =>
    intro k z nu od o7 o8 hd hpp hk hz0 hz1 hnu0 hnu3
    obtain ⟨hc1, hc2, hc3⟩ := chl (b := byS.getD 4 []) rfl hd
    have hp0 := hpp p (List.mem_cons_self)
    have hw := @wdt_in (τ 16 1) (τ 17) p z (by omega)
    have hcn := cnm_in ps
    have hps := fun q hq => hpp q (List.mem_cons_of_mem p hq)
    have hcc : cnm (p :: ps) = (if isn p then 1 else 0) + cnm ps := rfl
    rw [List.length_cons] at hk
    refine ex_k 3 (P := none) (g := (cod m6_readShape 12, [some (.inl 16), some (.inr 4), some (.inr st), some (.inl 104), some (.inr z), some (.inr nu), some (.inr (k : Int)), o7, o8], [.inr ((byS.getD 4 []).length : Int), .inr (k : Int)], (zr τ 18 od))) rfl trivial ?_
    refine ex_b (P := ((byS.getD 4 []).length : Int) ≤ (k : Int)) (ct := (cod m6_readShape 58, [some (.inl 16), some (.inr 4), some (.inr st), some (.inl 104), some (.inr z), some (.inr nu), some (.inr (k : Int)), o7, o8], [], (zr τ 18 od))) (cf := (cod m6_readShape 13, [some (.inl 16), some (.inr 4), some (.inr st), some (.inl 104), some (.inr z), some (.inr nu), some (.inr (k : Int)), o7, o8], [], (zr τ 18 od))) rfl ⟨⟨by omega, by omega⟩, ⟨by omega, by omega⟩⟩ (fun hh => absurd hh (by omega)) (fun _ => ?_)
    refine ex_k 3 (P := some (0 ≤ (k : Int) ∧ (k : Int) < ((byS.getD 4 []).length : Int))) (g := (cod m6_readShape 16, [some (.inl 16), some (.inr 4), some (.inr st), some (.inl 104), some (.inr z), some (.inr nu), some (.inr (k : Int)), o7, o8], [.inr (((byS.getD 4 []).getD (k : Int).toNat 0).toInt)], (zr τ 18 od))) rfl (by show 0 ≤ (k : Int) ∧ (k : Int) < ((byS.getD 4 []).length : Int); omega) ?_
    rw [show ((byS.getD 4 []).getD (k : Int).toNat 0).toInt = p from hc2]
    refine ex_k 4 (P := none) (g := (cod m6_readShape 20, [some (.inl 16), some (.inr 4), some (.inr st), some (.inl 104), some (.inr z), some (.inr nu), some (.inr (k : Int)), some (.inr p), o8], [.inr z, .inr p, .inl 16], (zr τ 18 od))) rfl trivial ?_
    refine ex_c (t_widthOf (τ := (zr τ 18 od)) (p := p) (z := z) (by omega) (by omega) hT) (is := cod m6_readShape 21) (L := [some (.inl 16), some (.inr 4), some (.inr st), some (.inl 104), some (.inr z), some (.inr nu), some (.inr (k : Int)), some (.inr p), o8]) (st := []) rfl rfl rfl ?_
    show Ex _ _ (cod m6_readShape 21, [some (.inl 16), some (.inr 4), some (.inr st), some (.inl 104), some (.inr z), some (.inr nu), some (.inr (k : Int)), some (.inr p), o8], [.inr (wdt ((τ 16) 1) (τ 17) p z)], (zr τ 18 od)) _ _
    refine ex_k 2 (P := none) (g := (cod m6_readShape 23, [some (.inl 16), some (.inr 4), some (.inr st), some (.inl 104), some (.inr z), some (.inr nu), some (.inr (k : Int)), some (.inr p), some (.inr (wdt ((τ 16) 1) (τ 17) p z))], [.inr (wdt ((τ 16) 1) (τ 17) p z)], (zr τ 18 od))) rfl trivial ?_
    refine ex_b (P := ¬ (wdt ((τ 16) 1) (τ 17) p z) = 0) (ct := (cod m6_readShape 28, [some (.inl 16), some (.inr 4), some (.inr st), some (.inl 104), some (.inr z), some (.inr nu), some (.inr (k : Int)), some (.inr p), some (.inr (wdt ((τ 16) 1) (τ 17) p z))], [], (zr τ 18 od))) (cf := (cod m6_readShape 24, [some (.inl 16), some (.inr 4), some (.inr st), some (.inl 104), some (.inr z), some (.inr nu), some (.inr (k : Int)), some (.inr p), some (.inr (wdt ((τ 16) 1) (τ 17) p z))], [], (zr τ 18 od))) rfl ⟨by omega, by omega⟩ (fun h1 => ?_) (fun h1 => ?_)
    · first
      | (exfalso; omega)
      | (
          refine ex_k 2 (P := none) (g := (cod m6_readShape 30, [some (.inl 16), some (.inr 4), some (.inr st), some (.inl 104), some (.inr z), some (.inr nu), some (.inr (k : Int)), some (.inr p), some (.inr (wdt ((τ 16) 1) (τ 17) p z))], [.inr 35, .inr p], (zr τ 18 od))) rfl trivial ?_
          refine ex_b (P := p = 35) (ct := (cod m6_readShape 37, [some (.inl 16), some (.inr 4), some (.inr st), some (.inl 104), some (.inr z), some (.inr nu), some (.inr (k : Int)), some (.inr p), some (.inr (wdt ((τ 16) 1) (τ 17) p z))], [], (zr τ 18 od))) (cf := (cod m6_readShape 31, [some (.inl 16), some (.inr 4), some (.inr st), some (.inl 104), some (.inr z), some (.inr nu), some (.inr (k : Int)), some (.inr p), some (.inr (wdt ((τ 16) 1) (τ 17) p z))], [], (zr τ 18 od))) rfl ⟨⟨by omega, by omega⟩, ⟨by decide, by decide⟩⟩ (fun h2 => ?_) (fun h2 => ?_)
          · first
            | (exfalso; omega)
            | (
                refine ex_k 5 (P := none) (g := (cod m6_readShape 42, [some (.inl 16), some (.inr 4), some (.inr st), some (.inl 104), some (.inr z), some (.inr (nu + 1)), some (.inr (k : Int)), some (.inr p), some (.inr (wdt ((τ 16) 1) (τ 17) p z))], [.inr 37, .inr p, .inr (nu + 1), .inl 16], (zr τ 18 od))) rfl trivial ?_
                refine ex_b (P := ¬ p = 37) (ct := (cod m6_readShape 47, [some (.inl 16), some (.inr 4), some (.inr st), some (.inl 104), some (.inr z), some (.inr (nu + 1)), some (.inr (k : Int)), some (.inr p), some (.inr (wdt ((τ 16) 1) (τ 17) p z))], [.inr (nu + 1), .inl 16], (zr τ 18 od))) (cf := (cod m6_readShape 43, [some (.inl 16), some (.inr 4), some (.inr st), some (.inl 104), some (.inr z), some (.inr (nu + 1)), some (.inr (k : Int)), some (.inr p), some (.inr (wdt ((τ 16) 1) (τ 17) p z))], [.inr (nu + 1), .inl 16], (zr τ 18 od))) rfl ⟨⟨by omega, by omega⟩, ⟨by decide, by decide⟩⟩ (fun h3 => ?_) (fun h3 => ?_)
                · first
                  | (exfalso; omega)
                  | (
                      refine ex_k 3 (P := none) (g := (cod m6_readShape 50, [some (.inl 16), some (.inr 4), some (.inr st), some (.inl 104), some (.inr z), some (.inr (nu + 1)), some (.inr (k : Int)), some (.inr p), some (.inr (wdt ((τ 16) 1) (τ 17) p z))], [.inr (wdt ((τ 16) 1) (τ 17) p z), .inr z, .inl 16, .inr (nu + 1), .inl 16], (zr τ 18 od))) rfl trivial ?_
                      refine ex_c (t_numberAt (τ := (zr τ 18 od)) (z := z) (w := wdt ((τ 16) 1) (τ 17) p z) (by omega) (by omega) hT) (is := cod m6_readShape 51) (L := [some (.inl 16), some (.inr 4), some (.inr st), some (.inl 104), some (.inr z), some (.inr (nu + 1)), some (.inr (k : Int)), some (.inr p), some (.inr (wdt ((τ 16) 1) (τ 17) p z))]) (st := [.inr (nu + 1), .inl 16]) rfl rfl rfl ?_
                      show Ex _ _ (cod m6_readShape 51, [some (.inl 16), some (.inr 4), some (.inr st), some (.inl 104), some (.inr z), some (.inr (nu + 1)), some (.inr (k : Int)), some (.inr p), some (.inr (wdt ((τ 16) 1) (τ 17) p z))], [.inr (nmb ((τ 16) 1) (τ 17) z (wdt ((τ 16) 1) (τ 17) p z)), .inr (nu + 1), .inl 16], (zr τ 18 od)) _ _
                      refine ex_c (t_setOrder (τ := (zr τ 18 od)) (c := nu + 1) (v := nmb ((τ 16) 1) (τ 17) z (wdt ((τ 16) 1) (τ 17) p z)) (by omega) hoc) (is := cod m6_readShape 52) (L := [some (.inl 16), some (.inr 4), some (.inr st), some (.inl 104), some (.inr z), some (.inr (nu + 1)), some (.inr (k : Int)), some (.inr p), some (.inr (wdt ((τ 16) 1) (τ 17) p z))]) (st := []) rfl rfl rfl ?_
                      show Ex _ _ (cod m6_readShape 52, [some (.inl 16), some (.inr 4), some (.inr st), some (.inl 104), some (.inr z), some (.inr (nu + 1)), some (.inr (k : Int)), some (.inr p), some (.inr (wdt ((τ 16) 1) (τ 17) p z))], [], (zr (zr τ 18 od) 18 (zu od ((τ 16) 3 * 4 + (nu + 1)).toNat (nmb ((τ 16) 1) (τ 17) z (wdt ((τ 16) 1) (τ 17) p z))))) _ _
                      rw [zr_zr]
                      refine ex_k 6 (P := none) (g := (cod m6_readShape 9, [some (.inl 16), some (.inr 4), some (.inr st), some (.inl 104), some (.inr (z + (wdt ((τ 16) 1) (τ 17) p z))), some (.inr (nu + 1)), some (.inr ((k : Int) + 1)), some (.inr p), some (.inr (wdt ((τ 16) 1) (τ 17) p z))], [], (zr τ 18 (zu od ((τ 16) 3 * 4 + (nu + 1)).toNat (nmb ((τ 16) 1) (τ 17) z (wdt ((τ 16) 1) (τ 17) p z)))))) rfl trivial ?_
                      have hnu4 : cnm (p :: ps) = 1 + cnm ps := by rw [hcc, if_pos (by unfold isn; omega)]
                      rw [res_n (by omega) (show isn p by unfold isn; omega), show vlu (τ 16 1) (τ 17) p z (wdt (τ 16 1) (τ 17) p z) = (nmb ((τ 16) 1) (τ 17) z (wdt ((τ 16) 1) (τ 17) p z)) from by unfold vlu; first | rw [if_pos (by omega)] | rw [if_neg (by omega)]]
                      exact ih (k + 1) _ _ _ _ _ hc3 hps (by omega) (by omega) (by omega) (by omega) (by omega))
                · first
                  | (exfalso; omega)
                  | (
                      refine ex_k 2 (P := none) (g := (cod m6_readShape 45, [some (.inl 16), some (.inr 4), some (.inr st), some (.inl 104), some (.inr z), some (.inr (nu + 1)), some (.inr (k : Int)), some (.inr p), some (.inr (wdt ((τ 16) 1) (τ 17) p z))], [.inr z, .inl 16, .inr (nu + 1), .inl 16], (zr τ 18 od))) rfl trivial ?_
                      refine ex_c (t_wayAt (τ := (zr τ 18 od)) (z := z) (by omega) hT) (is := cod m6_readShape 46) (L := [some (.inl 16), some (.inr 4), some (.inr st), some (.inl 104), some (.inr z), some (.inr (nu + 1)), some (.inr (k : Int)), some (.inr p), some (.inr (wdt ((τ 16) 1) (τ 17) p z))]) (st := [.inr (nu + 1), .inl 16]) rfl rfl rfl ?_
                      show Ex _ _ (cod m6_readShape 46, [some (.inl 16), some (.inr 4), some (.inr st), some (.inl 104), some (.inr z), some (.inr (nu + 1)), some (.inr (k : Int)), some (.inr p), some (.inr (wdt ((τ 16) 1) (τ 17) p z))], [.inr (if sg ((τ 16) 1) (τ 17) z = 43 then 1 else 0), .inr (nu + 1), .inl 16], (zr τ 18 od)) _ _
                      refine ex_k 1 (P := none) (g := (cod m6_readShape 51, [some (.inl 16), some (.inr 4), some (.inr st), some (.inl 104), some (.inr z), some (.inr (nu + 1)), some (.inr (k : Int)), some (.inr p), some (.inr (wdt ((τ 16) 1) (τ 17) p z))], [.inr (if sg ((τ 16) 1) (τ 17) z = 43 then 1 else 0), .inr (nu + 1), .inl 16], (zr τ 18 od))) rfl trivial ?_
                      refine ex_c (t_setOrder (τ := (zr τ 18 od)) (c := nu + 1) (v := if sg ((τ 16) 1) (τ 17) z = 43 then 1 else 0) (by omega) hoc) (is := cod m6_readShape 52) (L := [some (.inl 16), some (.inr 4), some (.inr st), some (.inl 104), some (.inr z), some (.inr (nu + 1)), some (.inr (k : Int)), some (.inr p), some (.inr (wdt ((τ 16) 1) (τ 17) p z))]) (st := []) rfl rfl rfl ?_
                      show Ex _ _ (cod m6_readShape 52, [some (.inl 16), some (.inr 4), some (.inr st), some (.inl 104), some (.inr z), some (.inr (nu + 1)), some (.inr (k : Int)), some (.inr p), some (.inr (wdt ((τ 16) 1) (τ 17) p z))], [], (zr (zr τ 18 od) 18 (zu od ((τ 16) 3 * 4 + (nu + 1)).toNat (if sg ((τ 16) 1) (τ 17) z = 43 then 1 else 0)))) _ _
                      rw [zr_zr]
                      refine ex_k 6 (P := none) (g := (cod m6_readShape 9, [some (.inl 16), some (.inr 4), some (.inr st), some (.inl 104), some (.inr (z + (wdt ((τ 16) 1) (τ 17) p z))), some (.inr (nu + 1)), some (.inr ((k : Int) + 1)), some (.inr p), some (.inr (wdt ((τ 16) 1) (τ 17) p z))], [], (zr τ 18 (zu od ((τ 16) 3 * 4 + (nu + 1)).toNat (if sg ((τ 16) 1) (τ 17) z = 43 then 1 else 0))))) rfl trivial ?_
                      have hnu4 : cnm (p :: ps) = 1 + cnm ps := by rw [hcc, if_pos (by unfold isn; omega)]
                      rw [res_n (by omega) (show isn p by unfold isn; omega), show vlu (τ 16 1) (τ 17) p z (wdt (τ 16 1) (τ 17) p z) = (if sg ((τ 16) 1) (τ 17) z = 43 then 1 else 0) from by unfold vlu; first | rw [if_pos (by omega)] | rw [if_neg (by omega)]]
                      exact ih (k + 1) _ _ _ _ _ hc3 hps (by omega) (by omega) (by omega) (by omega) (by omega)))
          · first
            | (exfalso; omega)
            | (
                refine ex_k 2 (P := none) (g := (cod m6_readShape 33, [some (.inl 16), some (.inr 4), some (.inr st), some (.inl 104), some (.inr z), some (.inr nu), some (.inr (k : Int)), some (.inr p), some (.inr (wdt ((τ 16) 1) (τ 17) p z))], [.inr 64, .inr p], (zr τ 18 od))) rfl trivial ?_
                refine ex_b (P := p = 64) (ct := (cod m6_readShape 37, [some (.inl 16), some (.inr 4), some (.inr st), some (.inl 104), some (.inr z), some (.inr nu), some (.inr (k : Int)), some (.inr p), some (.inr (wdt ((τ 16) 1) (τ 17) p z))], [], (zr τ 18 od))) (cf := (cod m6_readShape 34, [some (.inl 16), some (.inr 4), some (.inr st), some (.inl 104), some (.inr z), some (.inr nu), some (.inr (k : Int)), some (.inr p), some (.inr (wdt ((τ 16) 1) (τ 17) p z))], [], (zr τ 18 od))) rfl ⟨⟨by omega, by omega⟩, ⟨by decide, by decide⟩⟩ (fun h4 => ?_) (fun h4 => ?_)
                · first
                  | (exfalso; omega)
                  | (
                      refine ex_k 5 (P := none) (g := (cod m6_readShape 42, [some (.inl 16), some (.inr 4), some (.inr st), some (.inl 104), some (.inr z), some (.inr (nu + 1)), some (.inr (k : Int)), some (.inr p), some (.inr (wdt ((τ 16) 1) (τ 17) p z))], [.inr 37, .inr p, .inr (nu + 1), .inl 16], (zr τ 18 od))) rfl trivial ?_
                      refine ex_b (P := ¬ p = 37) (ct := (cod m6_readShape 47, [some (.inl 16), some (.inr 4), some (.inr st), some (.inl 104), some (.inr z), some (.inr (nu + 1)), some (.inr (k : Int)), some (.inr p), some (.inr (wdt ((τ 16) 1) (τ 17) p z))], [.inr (nu + 1), .inl 16], (zr τ 18 od))) (cf := (cod m6_readShape 43, [some (.inl 16), some (.inr 4), some (.inr st), some (.inl 104), some (.inr z), some (.inr (nu + 1)), some (.inr (k : Int)), some (.inr p), some (.inr (wdt ((τ 16) 1) (τ 17) p z))], [.inr (nu + 1), .inl 16], (zr τ 18 od))) rfl ⟨⟨by omega, by omega⟩, ⟨by decide, by decide⟩⟩ (fun h5 => ?_) (fun h5 => ?_)
                      · first
                        | (exfalso; omega)
                        | (
                            refine ex_k 3 (P := none) (g := (cod m6_readShape 50, [some (.inl 16), some (.inr 4), some (.inr st), some (.inl 104), some (.inr z), some (.inr (nu + 1)), some (.inr (k : Int)), some (.inr p), some (.inr (wdt ((τ 16) 1) (τ 17) p z))], [.inr (wdt ((τ 16) 1) (τ 17) p z), .inr z, .inl 16, .inr (nu + 1), .inl 16], (zr τ 18 od))) rfl trivial ?_
                            refine ex_c (t_numberAt (τ := (zr τ 18 od)) (z := z) (w := wdt ((τ 16) 1) (τ 17) p z) (by omega) (by omega) hT) (is := cod m6_readShape 51) (L := [some (.inl 16), some (.inr 4), some (.inr st), some (.inl 104), some (.inr z), some (.inr (nu + 1)), some (.inr (k : Int)), some (.inr p), some (.inr (wdt ((τ 16) 1) (τ 17) p z))]) (st := [.inr (nu + 1), .inl 16]) rfl rfl rfl ?_
                            show Ex _ _ (cod m6_readShape 51, [some (.inl 16), some (.inr 4), some (.inr st), some (.inl 104), some (.inr z), some (.inr (nu + 1)), some (.inr (k : Int)), some (.inr p), some (.inr (wdt ((τ 16) 1) (τ 17) p z))], [.inr (nmb ((τ 16) 1) (τ 17) z (wdt ((τ 16) 1) (τ 17) p z)), .inr (nu + 1), .inl 16], (zr τ 18 od)) _ _
                            refine ex_c (t_setOrder (τ := (zr τ 18 od)) (c := nu + 1) (v := nmb ((τ 16) 1) (τ 17) z (wdt ((τ 16) 1) (τ 17) p z)) (by omega) hoc) (is := cod m6_readShape 52) (L := [some (.inl 16), some (.inr 4), some (.inr st), some (.inl 104), some (.inr z), some (.inr (nu + 1)), some (.inr (k : Int)), some (.inr p), some (.inr (wdt ((τ 16) 1) (τ 17) p z))]) (st := []) rfl rfl rfl ?_
                            show Ex _ _ (cod m6_readShape 52, [some (.inl 16), some (.inr 4), some (.inr st), some (.inl 104), some (.inr z), some (.inr (nu + 1)), some (.inr (k : Int)), some (.inr p), some (.inr (wdt ((τ 16) 1) (τ 17) p z))], [], (zr (zr τ 18 od) 18 (zu od ((τ 16) 3 * 4 + (nu + 1)).toNat (nmb ((τ 16) 1) (τ 17) z (wdt ((τ 16) 1) (τ 17) p z))))) _ _
                            rw [zr_zr]
                            refine ex_k 6 (P := none) (g := (cod m6_readShape 9, [some (.inl 16), some (.inr 4), some (.inr st), some (.inl 104), some (.inr (z + (wdt ((τ 16) 1) (τ 17) p z))), some (.inr (nu + 1)), some (.inr ((k : Int) + 1)), some (.inr p), some (.inr (wdt ((τ 16) 1) (τ 17) p z))], [], (zr τ 18 (zu od ((τ 16) 3 * 4 + (nu + 1)).toNat (nmb ((τ 16) 1) (τ 17) z (wdt ((τ 16) 1) (τ 17) p z)))))) rfl trivial ?_
                            have hnu4 : cnm (p :: ps) = 1 + cnm ps := by rw [hcc, if_pos (by unfold isn; omega)]
                            rw [res_n (by omega) (show isn p by unfold isn; omega), show vlu (τ 16 1) (τ 17) p z (wdt (τ 16 1) (τ 17) p z) = (nmb ((τ 16) 1) (τ 17) z (wdt ((τ 16) 1) (τ 17) p z)) from by unfold vlu; first | rw [if_pos (by omega)] | rw [if_neg (by omega)]]
                            exact ih (k + 1) _ _ _ _ _ hc3 hps (by omega) (by omega) (by omega) (by omega) (by omega))
                      · first
                        | (exfalso; omega)
                        | (
                            refine ex_k 2 (P := none) (g := (cod m6_readShape 45, [some (.inl 16), some (.inr 4), some (.inr st), some (.inl 104), some (.inr z), some (.inr (nu + 1)), some (.inr (k : Int)), some (.inr p), some (.inr (wdt ((τ 16) 1) (τ 17) p z))], [.inr z, .inl 16, .inr (nu + 1), .inl 16], (zr τ 18 od))) rfl trivial ?_
                            refine ex_c (t_wayAt (τ := (zr τ 18 od)) (z := z) (by omega) hT) (is := cod m6_readShape 46) (L := [some (.inl 16), some (.inr 4), some (.inr st), some (.inl 104), some (.inr z), some (.inr (nu + 1)), some (.inr (k : Int)), some (.inr p), some (.inr (wdt ((τ 16) 1) (τ 17) p z))]) (st := [.inr (nu + 1), .inl 16]) rfl rfl rfl ?_
                            show Ex _ _ (cod m6_readShape 46, [some (.inl 16), some (.inr 4), some (.inr st), some (.inl 104), some (.inr z), some (.inr (nu + 1)), some (.inr (k : Int)), some (.inr p), some (.inr (wdt ((τ 16) 1) (τ 17) p z))], [.inr (if sg ((τ 16) 1) (τ 17) z = 43 then 1 else 0), .inr (nu + 1), .inl 16], (zr τ 18 od)) _ _
                            refine ex_k 1 (P := none) (g := (cod m6_readShape 51, [some (.inl 16), some (.inr 4), some (.inr st), some (.inl 104), some (.inr z), some (.inr (nu + 1)), some (.inr (k : Int)), some (.inr p), some (.inr (wdt ((τ 16) 1) (τ 17) p z))], [.inr (if sg ((τ 16) 1) (τ 17) z = 43 then 1 else 0), .inr (nu + 1), .inl 16], (zr τ 18 od))) rfl trivial ?_
                            refine ex_c (t_setOrder (τ := (zr τ 18 od)) (c := nu + 1) (v := if sg ((τ 16) 1) (τ 17) z = 43 then 1 else 0) (by omega) hoc) (is := cod m6_readShape 52) (L := [some (.inl 16), some (.inr 4), some (.inr st), some (.inl 104), some (.inr z), some (.inr (nu + 1)), some (.inr (k : Int)), some (.inr p), some (.inr (wdt ((τ 16) 1) (τ 17) p z))]) (st := []) rfl rfl rfl ?_
                            show Ex _ _ (cod m6_readShape 52, [some (.inl 16), some (.inr 4), some (.inr st), some (.inl 104), some (.inr z), some (.inr (nu + 1)), some (.inr (k : Int)), some (.inr p), some (.inr (wdt ((τ 16) 1) (τ 17) p z))], [], (zr (zr τ 18 od) 18 (zu od ((τ 16) 3 * 4 + (nu + 1)).toNat (if sg ((τ 16) 1) (τ 17) z = 43 then 1 else 0)))) _ _
                            rw [zr_zr]
                            refine ex_k 6 (P := none) (g := (cod m6_readShape 9, [some (.inl 16), some (.inr 4), some (.inr st), some (.inl 104), some (.inr (z + (wdt ((τ 16) 1) (τ 17) p z))), some (.inr (nu + 1)), some (.inr ((k : Int) + 1)), some (.inr p), some (.inr (wdt ((τ 16) 1) (τ 17) p z))], [], (zr τ 18 (zu od ((τ 16) 3 * 4 + (nu + 1)).toNat (if sg ((τ 16) 1) (τ 17) z = 43 then 1 else 0))))) rfl trivial ?_
                            have hnu4 : cnm (p :: ps) = 1 + cnm ps := by rw [hcc, if_pos (by unfold isn; omega)]
                            rw [res_n (by omega) (show isn p by unfold isn; omega), show vlu (τ 16 1) (τ 17) p z (wdt (τ 16 1) (τ 17) p z) = (if sg ((τ 16) 1) (τ 17) z = 43 then 1 else 0) from by unfold vlu; first | rw [if_pos (by omega)] | rw [if_neg (by omega)]]
                            exact ih (k + 1) _ _ _ _ _ hc3 hps (by omega) (by omega) (by omega) (by omega) (by omega)))
                · first
                  | (exfalso; omega)
                  | (
                      refine ex_k 2 (P := none) (g := (cod m6_readShape 36, [some (.inl 16), some (.inr 4), some (.inr st), some (.inl 104), some (.inr z), some (.inr nu), some (.inr (k : Int)), some (.inr p), some (.inr (wdt ((τ 16) 1) (τ 17) p z))], [.inr 37, .inr p], (zr τ 18 od))) rfl trivial ?_
                      refine ex_b (P := ¬ p = 37) (ct := (cod m6_readShape 52, [some (.inl 16), some (.inr 4), some (.inr st), some (.inl 104), some (.inr z), some (.inr nu), some (.inr (k : Int)), some (.inr p), some (.inr (wdt ((τ 16) 1) (τ 17) p z))], [], (zr τ 18 od))) (cf := (cod m6_readShape 37, [some (.inl 16), some (.inr 4), some (.inr st), some (.inl 104), some (.inr z), some (.inr nu), some (.inr (k : Int)), some (.inr p), some (.inr (wdt ((τ 16) 1) (τ 17) p z))], [], (zr τ 18 od))) rfl ⟨⟨by omega, by omega⟩, ⟨by decide, by decide⟩⟩ (fun h6 => ?_) (fun h6 => ?_)
                      · first
                        | (exfalso; omega)
                        | (
                            refine ex_k 6 (P := none) (g := (cod m6_readShape 9, [some (.inl 16), some (.inr 4), some (.inr st), some (.inl 104), some (.inr (z + (wdt ((τ 16) 1) (τ 17) p z))), some (.inr nu), some (.inr ((k : Int) + 1)), some (.inr p), some (.inr (wdt ((τ 16) 1) (τ 17) p z))], [], (zr τ 18 od))) rfl trivial ?_
                            have hnu4 : cnm (p :: ps) = 0 + cnm ps := by rw [hcc, if_neg (by unfold isn; omega)]
                            rw [res_f (by omega) (show ¬ isn p by unfold isn; omega)]
                            exact ih (k + 1) _ _ _ _ _ hc3 hps (by omega) (by omega) (by omega) (by omega) (by omega))
                      · first
                        | (exfalso; omega)
                        | (
                            refine ex_k 5 (P := none) (g := (cod m6_readShape 42, [some (.inl 16), some (.inr 4), some (.inr st), some (.inl 104), some (.inr z), some (.inr (nu + 1)), some (.inr (k : Int)), some (.inr p), some (.inr (wdt ((τ 16) 1) (τ 17) p z))], [.inr 37, .inr p, .inr (nu + 1), .inl 16], (zr τ 18 od))) rfl trivial ?_
                            refine ex_b (P := ¬ p = 37) (ct := (cod m6_readShape 47, [some (.inl 16), some (.inr 4), some (.inr st), some (.inl 104), some (.inr z), some (.inr (nu + 1)), some (.inr (k : Int)), some (.inr p), some (.inr (wdt ((τ 16) 1) (τ 17) p z))], [.inr (nu + 1), .inl 16], (zr τ 18 od))) (cf := (cod m6_readShape 43, [some (.inl 16), some (.inr 4), some (.inr st), some (.inl 104), some (.inr z), some (.inr (nu + 1)), some (.inr (k : Int)), some (.inr p), some (.inr (wdt ((τ 16) 1) (τ 17) p z))], [.inr (nu + 1), .inl 16], (zr τ 18 od))) rfl ⟨⟨by omega, by omega⟩, ⟨by decide, by decide⟩⟩ (fun h7 => ?_) (fun h7 => ?_)
                            · first
                              | (exfalso; omega)
                              | (
                                  refine ex_k 3 (P := none) (g := (cod m6_readShape 50, [some (.inl 16), some (.inr 4), some (.inr st), some (.inl 104), some (.inr z), some (.inr (nu + 1)), some (.inr (k : Int)), some (.inr p), some (.inr (wdt ((τ 16) 1) (τ 17) p z))], [.inr (wdt ((τ 16) 1) (τ 17) p z), .inr z, .inl 16, .inr (nu + 1), .inl 16], (zr τ 18 od))) rfl trivial ?_
                                  refine ex_c (t_numberAt (τ := (zr τ 18 od)) (z := z) (w := wdt ((τ 16) 1) (τ 17) p z) (by omega) (by omega) hT) (is := cod m6_readShape 51) (L := [some (.inl 16), some (.inr 4), some (.inr st), some (.inl 104), some (.inr z), some (.inr (nu + 1)), some (.inr (k : Int)), some (.inr p), some (.inr (wdt ((τ 16) 1) (τ 17) p z))]) (st := [.inr (nu + 1), .inl 16]) rfl rfl rfl ?_
                                  show Ex _ _ (cod m6_readShape 51, [some (.inl 16), some (.inr 4), some (.inr st), some (.inl 104), some (.inr z), some (.inr (nu + 1)), some (.inr (k : Int)), some (.inr p), some (.inr (wdt ((τ 16) 1) (τ 17) p z))], [.inr (nmb ((τ 16) 1) (τ 17) z (wdt ((τ 16) 1) (τ 17) p z)), .inr (nu + 1), .inl 16], (zr τ 18 od)) _ _
                                  refine ex_c (t_setOrder (τ := (zr τ 18 od)) (c := nu + 1) (v := nmb ((τ 16) 1) (τ 17) z (wdt ((τ 16) 1) (τ 17) p z)) (by omega) hoc) (is := cod m6_readShape 52) (L := [some (.inl 16), some (.inr 4), some (.inr st), some (.inl 104), some (.inr z), some (.inr (nu + 1)), some (.inr (k : Int)), some (.inr p), some (.inr (wdt ((τ 16) 1) (τ 17) p z))]) (st := []) rfl rfl rfl ?_
                                  show Ex _ _ (cod m6_readShape 52, [some (.inl 16), some (.inr 4), some (.inr st), some (.inl 104), some (.inr z), some (.inr (nu + 1)), some (.inr (k : Int)), some (.inr p), some (.inr (wdt ((τ 16) 1) (τ 17) p z))], [], (zr (zr τ 18 od) 18 (zu od ((τ 16) 3 * 4 + (nu + 1)).toNat (nmb ((τ 16) 1) (τ 17) z (wdt ((τ 16) 1) (τ 17) p z))))) _ _
                                  rw [zr_zr]
                                  refine ex_k 6 (P := none) (g := (cod m6_readShape 9, [some (.inl 16), some (.inr 4), some (.inr st), some (.inl 104), some (.inr (z + (wdt ((τ 16) 1) (τ 17) p z))), some (.inr (nu + 1)), some (.inr ((k : Int) + 1)), some (.inr p), some (.inr (wdt ((τ 16) 1) (τ 17) p z))], [], (zr τ 18 (zu od ((τ 16) 3 * 4 + (nu + 1)).toNat (nmb ((τ 16) 1) (τ 17) z (wdt ((τ 16) 1) (τ 17) p z)))))) rfl trivial ?_
                                  have hnu4 : cnm (p :: ps) = 1 + cnm ps := by rw [hcc, if_pos (by unfold isn; omega)]
                                  rw [res_n (by omega) (show isn p by unfold isn; omega), show vlu (τ 16 1) (τ 17) p z (wdt (τ 16 1) (τ 17) p z) = (nmb ((τ 16) 1) (τ 17) z (wdt ((τ 16) 1) (τ 17) p z)) from by unfold vlu; first | rw [if_pos (by omega)] | rw [if_neg (by omega)]]
                                  exact ih (k + 1) _ _ _ _ _ hc3 hps (by omega) (by omega) (by omega) (by omega) (by omega))
                            · first
                              | (exfalso; omega)
                              | (
                                  refine ex_k 2 (P := none) (g := (cod m6_readShape 45, [some (.inl 16), some (.inr 4), some (.inr st), some (.inl 104), some (.inr z), some (.inr (nu + 1)), some (.inr (k : Int)), some (.inr p), some (.inr (wdt ((τ 16) 1) (τ 17) p z))], [.inr z, .inl 16, .inr (nu + 1), .inl 16], (zr τ 18 od))) rfl trivial ?_
                                  refine ex_c (t_wayAt (τ := (zr τ 18 od)) (z := z) (by omega) hT) (is := cod m6_readShape 46) (L := [some (.inl 16), some (.inr 4), some (.inr st), some (.inl 104), some (.inr z), some (.inr (nu + 1)), some (.inr (k : Int)), some (.inr p), some (.inr (wdt ((τ 16) 1) (τ 17) p z))]) (st := [.inr (nu + 1), .inl 16]) rfl rfl rfl ?_
                                  show Ex _ _ (cod m6_readShape 46, [some (.inl 16), some (.inr 4), some (.inr st), some (.inl 104), some (.inr z), some (.inr (nu + 1)), some (.inr (k : Int)), some (.inr p), some (.inr (wdt ((τ 16) 1) (τ 17) p z))], [.inr (if sg ((τ 16) 1) (τ 17) z = 43 then 1 else 0), .inr (nu + 1), .inl 16], (zr τ 18 od)) _ _
                                  refine ex_k 1 (P := none) (g := (cod m6_readShape 51, [some (.inl 16), some (.inr 4), some (.inr st), some (.inl 104), some (.inr z), some (.inr (nu + 1)), some (.inr (k : Int)), some (.inr p), some (.inr (wdt ((τ 16) 1) (τ 17) p z))], [.inr (if sg ((τ 16) 1) (τ 17) z = 43 then 1 else 0), .inr (nu + 1), .inl 16], (zr τ 18 od))) rfl trivial ?_
                                  refine ex_c (t_setOrder (τ := (zr τ 18 od)) (c := nu + 1) (v := if sg ((τ 16) 1) (τ 17) z = 43 then 1 else 0) (by omega) hoc) (is := cod m6_readShape 52) (L := [some (.inl 16), some (.inr 4), some (.inr st), some (.inl 104), some (.inr z), some (.inr (nu + 1)), some (.inr (k : Int)), some (.inr p), some (.inr (wdt ((τ 16) 1) (τ 17) p z))]) (st := []) rfl rfl rfl ?_
                                  show Ex _ _ (cod m6_readShape 52, [some (.inl 16), some (.inr 4), some (.inr st), some (.inl 104), some (.inr z), some (.inr (nu + 1)), some (.inr (k : Int)), some (.inr p), some (.inr (wdt ((τ 16) 1) (τ 17) p z))], [], (zr (zr τ 18 od) 18 (zu od ((τ 16) 3 * 4 + (nu + 1)).toNat (if sg ((τ 16) 1) (τ 17) z = 43 then 1 else 0)))) _ _
                                  rw [zr_zr]
                                  refine ex_k 6 (P := none) (g := (cod m6_readShape 9, [some (.inl 16), some (.inr 4), some (.inr st), some (.inl 104), some (.inr (z + (wdt ((τ 16) 1) (τ 17) p z))), some (.inr (nu + 1)), some (.inr ((k : Int) + 1)), some (.inr p), some (.inr (wdt ((τ 16) 1) (τ 17) p z))], [], (zr τ 18 (zu od ((τ 16) 3 * 4 + (nu + 1)).toNat (if sg ((τ 16) 1) (τ 17) z = 43 then 1 else 0))))) rfl trivial ?_
                                  have hnu4 : cnm (p :: ps) = 1 + cnm ps := by rw [hcc, if_pos (by unfold isn; omega)]
                                  rw [res_n (by omega) (show isn p by unfold isn; omega), show vlu (τ 16 1) (τ 17) p z (wdt (τ 16 1) (τ 17) p z) = (if sg ((τ 16) 1) (τ 17) z = 43 then 1 else 0) from by unfold vlu; first | rw [if_pos (by omega)] | rw [if_neg (by omega)]]
                                  exact ih (k + 1) _ _ _ _ _ hc3 hps (by omega) (by omega) (by omega) (by omega) (by omega))))))
    · first
      | (exfalso; omega)
      | (
          refine ex_k 3 (P := some ((-1) = -1)) (g := (cod m6_readShape 27, [some (.inl 16), some (.inr 4), some (.inr st), some (.inl 104), some (.inr z), some (.inr nu), some (.inr (k : Int)), some (.inr p), some (.inr (wdt ((τ 16) 1) (τ 17) p z))], [.inr (-z - 1)], (zr τ 18 od))) rfl (by show (-1) = -1; omega) ?_
          exact ex_r rfl trivial rfl (by rw [show mtc (τ 16 1) (τ 17) (p :: ps) z = _ from if_pos (by omega)]; rfl))
theorem t_readShape_4 {z : Int} {τ : SZ} (hT : Tx τ) (hoc : 0 ≤ τ 16 3 ∧ τ 16 3 < 13) (hz : 0 ≤ z ∧ z ≤ τ 16 1) : RZ 4 m6_readShape [.inl 16, .inr 4, .inr z] τ (.inl (some (.inr (rsv (mtc (τ 16 1) (τ 17) [109, 111, 118, 101, 32, 35, 32, 35, 37] z))), zr τ 18 (ups (τ 18) (τ 16 3) 0 (mtc (τ 16 1) (τ 17) [109, 111, 118, 101, 32, 35, 32, 35, 37] z).2.2))) := by
  refine Ex.call ?_ rfl rfl
  show Ex _ _ (cod m6_readShape 0, [some (.inl 16), some (.inr 4), some (.inr z), none, none, none, none, none, none], [], τ) _ _
  refine ex_k 1 (P := none) (g := (cod m6_readShape 1, [some (.inl 16), some (.inr 4), some (.inr z), none, none, none, none, none, none], [.inr 4], τ)) rfl trivial ?_
  refine ex_c (t_shapeOf_4 (τ := τ) ) (is := cod m6_readShape 2) (L := [some (.inl 16), some (.inr 4), some (.inr z), none, none, none, none, none, none]) (st := []) rfl rfl rfl ?_
  show Ex _ _ (cod m6_readShape 2, [some (.inl 16), some (.inr 4), some (.inr z), none, none, none, none, none, none], [.inl 104], τ) _ _
  refine ex_k 7 (P := none) (g := (cod m6_readShape 9, [some (.inl 16), some (.inr 4), some (.inr z), some (.inl 104), some (.inr z), some (.inr 0), some (.inr 0), none, none], [], τ)) rfl trivial ?_
  have q := lp_shape_4 (st := z) (τ := τ) hT hoc [109, 111, 118, 101, 32, 35, 32, 35, 37] 0 z 0 (τ 18) none none rfl (by decide) rfl hz.1 hz.2 (by decide) (by decide)
  rw [zr_self] at q
  exact q
theorem lp_shape_5 {st : Int} {τ : SZ} (hT : Tx τ) (hoc : 0 ≤ τ 16 3 ∧ τ 16 3 < 13) : ∀ (ps : List Int) (k : Nat) (z nu : Int) (od : Nat → Int) (o7 o8 : Option VZ), List.drop k [112, 97, 115, 115] = ps → (∀ p, p ∈ ps → 0 < p ∧ p < 1000) → k + ps.length = 4 → 0 ≤ z → z ≤ τ 16 1 → 0 ≤ nu → nu + cnm ps ≤ 3 → Ex 3 m6_readShape (cod m6_readShape 9, [some (.inl 16), some (.inr 5), some (.inr st), some (.inl 105), some (.inr z), some (.inr nu), some (.inr (k : Int)), o7, o8], [], (zr τ 18 od)) 0 (.inl (some (.inr (rsv (mtc (τ 16 1) (τ 17) ps z))), zr τ 18 (ups od (τ 16 3) nu (mtc (τ 16 1) (τ 17) ps z).2.2))) := by
  have hT1 := hT.1
  have hT2 := hT.2
  have hlen : ((byS.getD 5 []).length : Int) = 4 := rfl
  intro ps
  induction ps with
  | nil =>
    intro k z nu od o7 o8 hd hpp hk hz0 hz1 hnu0 hnu3
    rw [List.length_nil] at hk
    refine ex_k 3 (P := none) (g := (cod m6_readShape 12, [some (.inl 16), some (.inr 5), some (.inr st), some (.inl 105), some (.inr z), some (.inr nu), some (.inr (k : Int)), o7, o8], [.inr ((byS.getD 5 []).length : Int), .inr (k : Int)], (zr τ 18 od))) rfl trivial ?_
    refine ex_b (P := ((byS.getD 5 []).length : Int) ≤ (k : Int)) (ct := (cod m6_readShape 58, [some (.inl 16), some (.inr 5), some (.inr st), some (.inl 105), some (.inr z), some (.inr nu), some (.inr (k : Int)), o7, o8], [], (zr τ 18 od))) (cf := (cod m6_readShape 13, [some (.inl 16), some (.inr 5), some (.inr st), some (.inl 105), some (.inr z), some (.inr nu), some (.inr (k : Int)), o7, o8], [], (zr τ 18 od))) rfl ⟨⟨by omega, by omega⟩, ⟨by omega, by omega⟩⟩ (fun _ => ?_) (fun hh => absurd (by omega) hh)
    refine ex_k 1 (P := none) (g := (cod m6_readShape 59, [some (.inl 16), some (.inr 5), some (.inr st), some (.inl 105), some (.inr z), some (.inr nu), some (.inr (k : Int)), o7, o8], [.inr z], (zr τ 18 od))) rfl trivial ?_
    exact ex_r rfl trivial rfl (rfl)
  | cons p ps ih =>
    intro k z nu od o7 o8 hd hpp hk hz0 hz1 hnu0 hnu3
    obtain ⟨hc1, hc2, hc3⟩ := chl (b := byS.getD 5 []) rfl hd
    have hp0 := hpp p (List.mem_cons_self)
    have hw := @wdt_in (τ 16 1) (τ 17) p z (by omega)
    have hcn := cnm_in ps
    have hps := fun q hq => hpp q (List.mem_cons_of_mem p hq)
    have hcc : cnm (p :: ps) = (if isn p then 1 else 0) + cnm ps := rfl
    rw [List.length_cons] at hk
    refine ex_k 3 (P := none) (g := (cod m6_readShape 12, [some (.inl 16), some (.inr 5), some (.inr st), some (.inl 105), some (.inr z), some (.inr nu), some (.inr (k : Int)), o7, o8], [.inr ((byS.getD 5 []).length : Int), .inr (k : Int)], (zr τ 18 od))) rfl trivial ?_
    refine ex_b (P := ((byS.getD 5 []).length : Int) ≤ (k : Int)) (ct := (cod m6_readShape 58, [some (.inl 16), some (.inr 5), some (.inr st), some (.inl 105), some (.inr z), some (.inr nu), some (.inr (k : Int)), o7, o8], [], (zr τ 18 od))) (cf := (cod m6_readShape 13, [some (.inl 16), some (.inr 5), some (.inr st), some (.inl 105), some (.inr z), some (.inr nu), some (.inr (k : Int)), o7, o8], [], (zr τ 18 od))) rfl ⟨⟨by omega, by omega⟩, ⟨by omega, by omega⟩⟩ (fun hh => absurd hh (by omega)) (fun _ => ?_)
    refine ex_k 3 (P := some (0 ≤ (k : Int) ∧ (k : Int) < ((byS.getD 5 []).length : Int))) (g := (cod m6_readShape 16, [some (.inl 16), some (.inr 5), some (.inr st), some (.inl 105), some (.inr z), some (.inr nu), some (.inr (k : Int)), o7, o8], [.inr (((byS.getD 5 []).getD (k : Int).toNat 0).toInt)], (zr τ 18 od))) rfl (by show 0 ≤ (k : Int) ∧ (k : Int) < ((byS.getD 5 []).length : Int); omega) ?_
    rw [show ((byS.getD 5 []).getD (k : Int).toNat 0).toInt = p from hc2]
    refine ex_k 4 (P := none) (g := (cod m6_readShape 20, [some (.inl 16), some (.inr 5), some (.inr st), some (.inl 105), some (.inr z), some (.inr nu), some (.inr (k : Int)), some (.inr p), o8], [.inr z, .inr p, .inl 16], (zr τ 18 od))) rfl trivial ?_
    refine ex_c (t_widthOf (τ := (zr τ 18 od)) (p := p) (z := z) (by omega) (by omega) hT) (is := cod m6_readShape 21) (L := [some (.inl 16), some (.inr 5), some (.inr st), some (.inl 105), some (.inr z), some (.inr nu), some (.inr (k : Int)), some (.inr p), o8]) (st := []) rfl rfl rfl ?_
    show Ex _ _ (cod m6_readShape 21, [some (.inl 16), some (.inr 5), some (.inr st), some (.inl 105), some (.inr z), some (.inr nu), some (.inr (k : Int)), some (.inr p), o8], [.inr (wdt ((τ 16) 1) (τ 17) p z)], (zr τ 18 od)) _ _
    refine ex_k 2 (P := none) (g := (cod m6_readShape 23, [some (.inl 16), some (.inr 5), some (.inr st), some (.inl 105), some (.inr z), some (.inr nu), some (.inr (k : Int)), some (.inr p), some (.inr (wdt ((τ 16) 1) (τ 17) p z))], [.inr (wdt ((τ 16) 1) (τ 17) p z)], (zr τ 18 od))) rfl trivial ?_
    refine ex_b (P := ¬ (wdt ((τ 16) 1) (τ 17) p z) = 0) (ct := (cod m6_readShape 28, [some (.inl 16), some (.inr 5), some (.inr st), some (.inl 105), some (.inr z), some (.inr nu), some (.inr (k : Int)), some (.inr p), some (.inr (wdt ((τ 16) 1) (τ 17) p z))], [], (zr τ 18 od))) (cf := (cod m6_readShape 24, [some (.inl 16), some (.inr 5), some (.inr st), some (.inl 105), some (.inr z), some (.inr nu), some (.inr (k : Int)), some (.inr p), some (.inr (wdt ((τ 16) 1) (τ 17) p z))], [], (zr τ 18 od))) rfl ⟨by omega, by omega⟩ (fun h1 => ?_) (fun h1 => ?_)
    · first
      | (exfalso; omega)
      | (
          refine ex_k 2 (P := none) (g := (cod m6_readShape 30, [some (.inl 16), some (.inr 5), some (.inr st), some (.inl 105), some (.inr z), some (.inr nu), some (.inr (k : Int)), some (.inr p), some (.inr (wdt ((τ 16) 1) (τ 17) p z))], [.inr 35, .inr p], (zr τ 18 od))) rfl trivial ?_
          refine ex_b (P := p = 35) (ct := (cod m6_readShape 37, [some (.inl 16), some (.inr 5), some (.inr st), some (.inl 105), some (.inr z), some (.inr nu), some (.inr (k : Int)), some (.inr p), some (.inr (wdt ((τ 16) 1) (τ 17) p z))], [], (zr τ 18 od))) (cf := (cod m6_readShape 31, [some (.inl 16), some (.inr 5), some (.inr st), some (.inl 105), some (.inr z), some (.inr nu), some (.inr (k : Int)), some (.inr p), some (.inr (wdt ((τ 16) 1) (τ 17) p z))], [], (zr τ 18 od))) rfl ⟨⟨by omega, by omega⟩, ⟨by decide, by decide⟩⟩ (fun h2 => ?_) (fun h2 => ?_)
          · first
            | (exfalso; omega)
            | (
                refine ex_k 5 (P := none) (g := (cod m6_readShape 42, [some (.inl 16), some (.inr 5), some (.inr st), some (.inl 105), some (.inr z), some (.inr (nu + 1)), some (.inr (k : Int)), some (.inr p), some (.inr (wdt ((τ 16) 1) (τ 17) p z))], [.inr 37, .inr p, .inr (nu + 1), .inl 16], (zr τ 18 od))) rfl trivial ?_
                refine ex_b (P := ¬ p = 37) (ct := (cod m6_readShape 47, [some (.inl 16), some (.inr 5), some (.inr st), some (.inl 105), some (.inr z), some (.inr (nu + 1)), some (.inr (k : Int)), some (.inr p), some (.inr (wdt ((τ 16) 1) (τ 17) p z))], [.inr (nu + 1), .inl 16], (zr τ 18 od))) (cf := (cod m6_readShape 43, [some (.inl 16), some (.inr 5), some (.inr st), some (.inl 105), some (.inr z), some (.inr (nu + 1)), some (.inr (k : Int)), some (.inr p), some (.inr (wdt ((τ 16) 1) (τ 17) p z))], [.inr (nu + 1), .inl 16], (zr τ 18 od))) rfl ⟨⟨by omega, by omega⟩, ⟨by decide, by decide⟩⟩ (fun h3 => ?_) (fun h3 => ?_)
                · first
                  | (exfalso; omega)
                  | (
                      refine ex_k 3 (P := none) (g := (cod m6_readShape 50, [some (.inl 16), some (.inr 5), some (.inr st), some (.inl 105), some (.inr z), some (.inr (nu + 1)), some (.inr (k : Int)), some (.inr p), some (.inr (wdt ((τ 16) 1) (τ 17) p z))], [.inr (wdt ((τ 16) 1) (τ 17) p z), .inr z, .inl 16, .inr (nu + 1), .inl 16], (zr τ 18 od))) rfl trivial ?_
                      refine ex_c (t_numberAt (τ := (zr τ 18 od)) (z := z) (w := wdt ((τ 16) 1) (τ 17) p z) (by omega) (by omega) hT) (is := cod m6_readShape 51) (L := [some (.inl 16), some (.inr 5), some (.inr st), some (.inl 105), some (.inr z), some (.inr (nu + 1)), some (.inr (k : Int)), some (.inr p), some (.inr (wdt ((τ 16) 1) (τ 17) p z))]) (st := [.inr (nu + 1), .inl 16]) rfl rfl rfl ?_
                      show Ex _ _ (cod m6_readShape 51, [some (.inl 16), some (.inr 5), some (.inr st), some (.inl 105), some (.inr z), some (.inr (nu + 1)), some (.inr (k : Int)), some (.inr p), some (.inr (wdt ((τ 16) 1) (τ 17) p z))], [.inr (nmb ((τ 16) 1) (τ 17) z (wdt ((τ 16) 1) (τ 17) p z)), .inr (nu + 1), .inl 16], (zr τ 18 od)) _ _
                      refine ex_c (t_setOrder (τ := (zr τ 18 od)) (c := nu + 1) (v := nmb ((τ 16) 1) (τ 17) z (wdt ((τ 16) 1) (τ 17) p z)) (by omega) hoc) (is := cod m6_readShape 52) (L := [some (.inl 16), some (.inr 5), some (.inr st), some (.inl 105), some (.inr z), some (.inr (nu + 1)), some (.inr (k : Int)), some (.inr p), some (.inr (wdt ((τ 16) 1) (τ 17) p z))]) (st := []) rfl rfl rfl ?_
                      show Ex _ _ (cod m6_readShape 52, [some (.inl 16), some (.inr 5), some (.inr st), some (.inl 105), some (.inr z), some (.inr (nu + 1)), some (.inr (k : Int)), some (.inr p), some (.inr (wdt ((τ 16) 1) (τ 17) p z))], [], (zr (zr τ 18 od) 18 (zu od ((τ 16) 3 * 4 + (nu + 1)).toNat (nmb ((τ 16) 1) (τ 17) z (wdt ((τ 16) 1) (τ 17) p z))))) _ _
                      rw [zr_zr]
                      refine ex_k 6 (P := none) (g := (cod m6_readShape 9, [some (.inl 16), some (.inr 5), some (.inr st), some (.inl 105), some (.inr (z + (wdt ((τ 16) 1) (τ 17) p z))), some (.inr (nu + 1)), some (.inr ((k : Int) + 1)), some (.inr p), some (.inr (wdt ((τ 16) 1) (τ 17) p z))], [], (zr τ 18 (zu od ((τ 16) 3 * 4 + (nu + 1)).toNat (nmb ((τ 16) 1) (τ 17) z (wdt ((τ 16) 1) (τ 17) p z)))))) rfl trivial ?_
                      have hnu4 : cnm (p :: ps) = 1 + cnm ps := by rw [hcc, if_pos (by unfold isn; omega)]
                      rw [res_n (by omega) (show isn p by unfold isn; omega), show vlu (τ 16 1) (τ 17) p z (wdt (τ 16 1) (τ 17) p z) = (nmb ((τ 16) 1) (τ 17) z (wdt ((τ 16) 1) (τ 17) p z)) from by unfold vlu; first | rw [if_pos (by omega)] | rw [if_neg (by omega)]]
                      exact ih (k + 1) _ _ _ _ _ hc3 hps (by omega) (by omega) (by omega) (by omega) (by omega))
                · first
                  | (exfalso; omega)
                  | (
                      refine ex_k 2 (P := none) (g := (cod m6_readShape 45, [some (.inl 16), some (.inr 5), some (.inr st), some (.inl 105), some (.inr z), some (.inr (nu + 1)), some (.inr (k : Int)), some (.inr p), some (.inr (wdt ((τ 16) 1) (τ 17) p z))], [.inr z, .inl 16, .inr (nu + 1), .inl 16], (zr τ 18 od))) rfl trivial ?_
                      refine ex_c (t_wayAt (τ := (zr τ 18 od)) (z := z) (by omega) hT) (is := cod m6_readShape 46) (L := [some (.inl 16), some (.inr 5), some (.inr st), some (.inl 105), some (.inr z), some (.inr (nu + 1)), some (.inr (k : Int)), some (.inr p), some (.inr (wdt ((τ 16) 1) (τ 17) p z))]) (st := [.inr (nu + 1), .inl 16]) rfl rfl rfl ?_
                      show Ex _ _ (cod m6_readShape 46, [some (.inl 16), some (.inr 5), some (.inr st), some (.inl 105), some (.inr z), some (.inr (nu + 1)), some (.inr (k : Int)), some (.inr p), some (.inr (wdt ((τ 16) 1) (τ 17) p z))], [.inr (if sg ((τ 16) 1) (τ 17) z = 43 then 1 else 0), .inr (nu + 1), .inl 16], (zr τ 18 od)) _ _
                      refine ex_k 1 (P := none) (g := (cod m6_readShape 51, [some (.inl 16), some (.inr 5), some (.inr st), some (.inl 105), some (.inr z), some (.inr (nu + 1)), some (.inr (k : Int)), some (.inr p), some (.inr (wdt ((τ 16) 1) (τ 17) p z))], [.inr (if sg ((τ 16) 1) (τ 17) z = 43 then 1 else 0), .inr (nu + 1), .inl 16], (zr τ 18 od))) rfl trivial ?_
                      refine ex_c (t_setOrder (τ := (zr τ 18 od)) (c := nu + 1) (v := if sg ((τ 16) 1) (τ 17) z = 43 then 1 else 0) (by omega) hoc) (is := cod m6_readShape 52) (L := [some (.inl 16), some (.inr 5), some (.inr st), some (.inl 105), some (.inr z), some (.inr (nu + 1)), some (.inr (k : Int)), some (.inr p), some (.inr (wdt ((τ 16) 1) (τ 17) p z))]) (st := []) rfl rfl rfl ?_
                      show Ex _ _ (cod m6_readShape 52, [some (.inl 16), some (.inr 5), some (.inr st), some (.inl 105), some (.inr z), some (.inr (nu + 1)), some (.inr (k : Int)), some (.inr p), some (.inr (wdt ((τ 16) 1) (τ 17) p z))], [], (zr (zr τ 18 od) 18 (zu od ((τ 16) 3 * 4 + (nu + 1)).toNat (if sg ((τ 16) 1) (τ 17) z = 43 then 1 else 0)))) _ _
                      rw [zr_zr]
                      refine ex_k 6 (P := none) (g := (cod m6_readShape 9, [some (.inl 16), some (.inr 5), some (.inr st), some (.inl 105), some (.inr (z + (wdt ((τ 16) 1) (τ 17) p z))), some (.inr (nu + 1)), some (.inr ((k : Int) + 1)), some (.inr p), some (.inr (wdt ((τ 16) 1) (τ 17) p z))], [], (zr τ 18 (zu od ((τ 16) 3 * 4 + (nu + 1)).toNat (if sg ((τ 16) 1) (τ 17) z = 43 then 1 else 0))))) rfl trivial ?_
                      have hnu4 : cnm (p :: ps) = 1 + cnm ps := by rw [hcc, if_pos (by unfold isn; omega)]
                      rw [res_n (by omega) (show isn p by unfold isn; omega), show vlu (τ 16 1) (τ 17) p z (wdt (τ 16 1) (τ 17) p z) = (if sg ((τ 16) 1) (τ 17) z = 43 then 1 else 0) from by unfold vlu; first | rw [if_pos (by omega)] | rw [if_neg (by omega)]]
                      exact ih (k + 1) _ _ _ _ _ hc3 hps (by omega) (by omega) (by omega) (by omega) (by omega)))
          · first
            | (exfalso; omega)
            | (
                refine ex_k 2 (P := none) (g := (cod m6_readShape 33, [some (.inl 16), some (.inr 5), some (.inr st), some (.inl 105), some (.inr z), some (.inr nu), some (.inr (k : Int)), some (.inr p), some (.inr (wdt ((τ 16) 1) (τ 17) p z))], [.inr 64, .inr p], (zr τ 18 od))) rfl trivial ?_
                refine ex_b (P := p = 64) (ct := (cod m6_readShape 37, [some (.inl 16), some (.inr 5), some (.inr st), some (.inl 105), some (.inr z), some (.inr nu), some (.inr (k : Int)), some (.inr p), some (.inr (wdt ((τ 16) 1) (τ 17) p z))], [], (zr τ 18 od))) (cf := (cod m6_readShape 34, [some (.inl 16), some (.inr 5), some (.inr st), some (.inl 105), some (.inr z), some (.inr nu), some (.inr (k : Int)), some (.inr p), some (.inr (wdt ((τ 16) 1) (τ 17) p z))], [], (zr τ 18 od))) rfl ⟨⟨by omega, by omega⟩, ⟨by decide, by decide⟩⟩ (fun h4 => ?_) (fun h4 => ?_)
                · first
                  | (exfalso; omega)
                  | (
                      refine ex_k 5 (P := none) (g := (cod m6_readShape 42, [some (.inl 16), some (.inr 5), some (.inr st), some (.inl 105), some (.inr z), some (.inr (nu + 1)), some (.inr (k : Int)), some (.inr p), some (.inr (wdt ((τ 16) 1) (τ 17) p z))], [.inr 37, .inr p, .inr (nu + 1), .inl 16], (zr τ 18 od))) rfl trivial ?_
                      refine ex_b (P := ¬ p = 37) (ct := (cod m6_readShape 47, [some (.inl 16), some (.inr 5), some (.inr st), some (.inl 105), some (.inr z), some (.inr (nu + 1)), some (.inr (k : Int)), some (.inr p), some (.inr (wdt ((τ 16) 1) (τ 17) p z))], [.inr (nu + 1), .inl 16], (zr τ 18 od))) (cf := (cod m6_readShape 43, [some (.inl 16), some (.inr 5), some (.inr st), some (.inl 105), some (.inr z), some (.inr (nu + 1)), some (.inr (k : Int)), some (.inr p), some (.inr (wdt ((τ 16) 1) (τ 17) p z))], [.inr (nu + 1), .inl 16], (zr τ 18 od))) rfl ⟨⟨by omega, by omega⟩, ⟨by decide, by decide⟩⟩ (fun h5 => ?_) (fun h5 => ?_)
                      · first
                        | (exfalso; omega)
                        | (
                            refine ex_k 3 (P := none) (g := (cod m6_readShape 50, [some (.inl 16), some (.inr 5), some (.inr st), some (.inl 105), some (.inr z), some (.inr (nu + 1)), some (.inr (k : Int)), some (.inr p), some (.inr (wdt ((τ 16) 1) (τ 17) p z))], [.inr (wdt ((τ 16) 1) (τ 17) p z), .inr z, .inl 16, .inr (nu + 1), .inl 16], (zr τ 18 od))) rfl trivial ?_
                            refine ex_c (t_numberAt (τ := (zr τ 18 od)) (z := z) (w := wdt ((τ 16) 1) (τ 17) p z) (by omega) (by omega) hT) (is := cod m6_readShape 51) (L := [some (.inl 16), some (.inr 5), some (.inr st), some (.inl 105), some (.inr z), some (.inr (nu + 1)), some (.inr (k : Int)), some (.inr p), some (.inr (wdt ((τ 16) 1) (τ 17) p z))]) (st := [.inr (nu + 1), .inl 16]) rfl rfl rfl ?_
                            show Ex _ _ (cod m6_readShape 51, [some (.inl 16), some (.inr 5), some (.inr st), some (.inl 105), some (.inr z), some (.inr (nu + 1)), some (.inr (k : Int)), some (.inr p), some (.inr (wdt ((τ 16) 1) (τ 17) p z))], [.inr (nmb ((τ 16) 1) (τ 17) z (wdt ((τ 16) 1) (τ 17) p z)), .inr (nu + 1), .inl 16], (zr τ 18 od)) _ _
                            refine ex_c (t_setOrder (τ := (zr τ 18 od)) (c := nu + 1) (v := nmb ((τ 16) 1) (τ 17) z (wdt ((τ 16) 1) (τ 17) p z)) (by omega) hoc) (is := cod m6_readShape 52) (L := [some (.inl 16), some (.inr 5), some (.inr st), some (.inl 105), some (.inr z), some (.inr (nu + 1)), some (.inr (k : Int)), some (.inr p), some (.inr (wdt ((τ 16) 1) (τ 17) p z))]) (st := []) rfl rfl rfl ?_
                            show Ex _ _ (cod m6_readShape 52, [some (.inl 16), some (.inr 5), some (.inr st), some (.inl 105), some (.inr z), some (.inr (nu + 1)), some (.inr (k : Int)), some (.inr p), some (.inr (wdt ((τ 16) 1) (τ 17) p z))], [], (zr (zr τ 18 od) 18 (zu od ((τ 16) 3 * 4 + (nu + 1)).toNat (nmb ((τ 16) 1) (τ 17) z (wdt ((τ 16) 1) (τ 17) p z))))) _ _
                            rw [zr_zr]
                            refine ex_k 6 (P := none) (g := (cod m6_readShape 9, [some (.inl 16), some (.inr 5), some (.inr st), some (.inl 105), some (.inr (z + (wdt ((τ 16) 1) (τ 17) p z))), some (.inr (nu + 1)), some (.inr ((k : Int) + 1)), some (.inr p), some (.inr (wdt ((τ 16) 1) (τ 17) p z))], [], (zr τ 18 (zu od ((τ 16) 3 * 4 + (nu + 1)).toNat (nmb ((τ 16) 1) (τ 17) z (wdt ((τ 16) 1) (τ 17) p z)))))) rfl trivial ?_
                            have hnu4 : cnm (p :: ps) = 1 + cnm ps := by rw [hcc, if_pos (by unfold isn; omega)]
                            rw [res_n (by omega) (show isn p by unfold isn; omega), show vlu (τ 16 1) (τ 17) p z (wdt (τ 16 1) (τ 17) p z) = (nmb ((τ 16) 1) (τ 17) z (wdt ((τ 16) 1) (τ 17) p z)) from by unfold vlu; first | rw [if_pos (by omega)] | rw [if_neg (by omega)]]
                            exact ih (k + 1) _ _ _ _ _ hc3 hps (by omega) (by omega) (by omega) (by omega) (by omega))
                      · first
                        | (exfalso; omega)
                        | (
                            refine ex_k 2 (P := none) (g := (cod m6_readShape 45, [some (.inl 16), some (.inr 5), some (.inr st), some (.inl 105), some (.inr z), some (.inr (nu + 1)), some (.inr (k : Int)), some (.inr p), some (.inr (wdt ((τ 16) 1) (τ 17) p z))], [.inr z, .inl 16, .inr (nu + 1), .inl 16], (zr τ 18 od))) rfl trivial ?_
                            refine ex_c (t_wayAt (τ := (zr τ 18 od)) (z := z) (by omega) hT) (is := cod m6_readShape 46) (L := [some (.inl 16), some (.inr 5), some (.inr st), some (.inl 105), some (.inr z), some (.inr (nu + 1)), some (.inr (k : Int)), some (.inr p), some (.inr (wdt ((τ 16) 1) (τ 17) p z))]) (st := [.inr (nu + 1), .inl 16]) rfl rfl rfl ?_
                            show Ex _ _ (cod m6_readShape 46, [some (.inl 16), some (.inr 5), some (.inr st), some (.inl 105), some (.inr z), some (.inr (nu + 1)), some (.inr (k : Int)), some (.inr p), some (.inr (wdt ((τ 16) 1) (τ 17) p z))], [.inr (if sg ((τ 16) 1) (τ 17) z = 43 then 1 else 0), .inr (nu + 1), .inl 16], (zr τ 18 od)) _ _
                            refine ex_k 1 (P := none) (g := (cod m6_readShape 51, [some (.inl 16), some (.inr 5), some (.inr st), some (.inl 105), some (.inr z), some (.inr (nu + 1)), some (.inr (k : Int)), some (.inr p), some (.inr (wdt ((τ 16) 1) (τ 17) p z))], [.inr (if sg ((τ 16) 1) (τ 17) z = 43 then 1 else 0), .inr (nu + 1), .inl 16], (zr τ 18 od))) rfl trivial ?_
                            refine ex_c (t_setOrder (τ := (zr τ 18 od)) (c := nu + 1) (v := if sg ((τ 16) 1) (τ 17) z = 43 then 1 else 0) (by omega) hoc) (is := cod m6_readShape 52) (L := [some (.inl 16), some (.inr 5), some (.inr st), some (.inl 105), some (.inr z), some (.inr (nu + 1)), some (.inr (k : Int)), some (.inr p), some (.inr (wdt ((τ 16) 1) (τ 17) p z))]) (st := []) rfl rfl rfl ?_
                            show Ex _ _ (cod m6_readShape 52, [some (.inl 16), some (.inr 5), some (.inr st), some (.inl 105), some (.inr z), some (.inr (nu + 1)), some (.inr (k : Int)), some (.inr p), some (.inr (wdt ((τ 16) 1) (τ 17) p z))], [], (zr (zr τ 18 od) 18 (zu od ((τ 16) 3 * 4 + (nu + 1)).toNat (if sg ((τ 16) 1) (τ 17) z = 43 then 1 else 0)))) _ _
                            rw [zr_zr]
                            refine ex_k 6 (P := none) (g := (cod m6_readShape 9, [some (.inl 16), some (.inr 5), some (.inr st), some (.inl 105), some (.inr (z + (wdt ((τ 16) 1) (τ 17) p z))), some (.inr (nu + 1)), some (.inr ((k : Int) + 1)), some (.inr p), some (.inr (wdt ((τ 16) 1) (τ 17) p z))], [], (zr τ 18 (zu od ((τ 16) 3 * 4 + (nu + 1)).toNat (if sg ((τ 16) 1) (τ 17) z = 43 then 1 else 0))))) rfl trivial ?_
                            have hnu4 : cnm (p :: ps) = 1 + cnm ps := by rw [hcc, if_pos (by unfold isn; omega)]
                            rw [res_n (by omega) (show isn p by unfold isn; omega), show vlu (τ 16 1) (τ 17) p z (wdt (τ 16 1) (τ 17) p z) = (if sg ((τ 16) 1) (τ 17) z = 43 then 1 else 0) from by unfold vlu; first | rw [if_pos (by omega)] | rw [if_neg (by omega)]]
                            exact ih (k + 1) _ _ _ _ _ hc3 hps (by omega) (by omega) (by omega) (by omega) (by omega)))
                · first
                  | (exfalso; omega)
                  | (
                      refine ex_k 2 (P := none) (g := (cod m6_readShape 36, [some (.inl 16), some (.inr 5), some (.inr st), some (.inl 105), some (.inr z), some (.inr nu), some (.inr (k : Int)), some (.inr p), some (.inr (wdt ((τ 16) 1) (τ 17) p z))], [.inr 37, .inr p], (zr τ 18 od))) rfl trivial ?_
                      refine ex_b (P := ¬ p = 37) (ct := (cod m6_readShape 52, [some (.inl 16), some (.inr 5), some (.inr st), some (.inl 105), some (.inr z), some (.inr nu), some (.inr (k : Int)), some (.inr p), some (.inr (wdt ((τ 16) 1) (τ 17) p z))], [], (zr τ 18 od))) (cf := (cod m6_readShape 37, [some (.inl 16), some (.inr 5), some (.inr st), some (.inl 105), some (.inr z), some (.inr nu), some (.inr (k : Int)), some (.inr p), some (.inr (wdt ((τ 16) 1) (τ 17) p z))], [], (zr τ 18 od))) rfl ⟨⟨by omega, by omega⟩, ⟨by decide, by decide⟩⟩ (fun h6 => ?_) (fun h6 => ?_)
                      · first
                        | (exfalso; omega)
                        | (
                            refine ex_k 6 (P := none) (g := (cod m6_readShape 9, [some (.inl 16), some (.inr 5), some (.inr st), some (.inl 105), some (.inr (z + (wdt ((τ 16) 1) (τ 17) p z))), some (.inr nu), some (.inr ((k : Int) + 1)), some (.inr p), some (.inr (wdt ((τ 16) 1) (τ 17) p z))], [], (zr τ 18 od))) rfl trivial ?_
                            have hnu4 : cnm (p :: ps) = 0 + cnm ps := by rw [hcc, if_neg (by unfold isn; omega)]
                            rw [res_f (by omega) (show ¬ isn p by unfold isn; omega)]
                            exact ih (k + 1) _ _ _ _ _ hc3 hps (by omega) (by omega) (by omega) (by omega) (by omega))
                      · first
                        | (exfalso; omega)
                        | (
                            refine ex_k 5 (P := none) (g := (cod m6_readShape 42, [some (.inl 16), some (.inr 5), some (.inr st), some (.inl 105), some (.inr z), some (.inr (nu + 1)), some (.inr (k : Int)), some (.inr p), some (.inr (wdt ((τ 16) 1) (τ 17) p z))], [.inr 37, .inr p, .inr (nu + 1), .inl 16], (zr τ 18 od))) rfl trivial ?_
                            refine ex_b (P := ¬ p = 37) (ct := (cod m6_readShape 47, [some (.inl 16), some (.inr 5), some (.inr st), some (.inl 105), some (.inr z), some (.inr (nu + 1)), some (.inr (k : Int)), some (.inr p), some (.inr (wdt ((τ 16) 1) (τ 17) p z))], [.inr (nu + 1), .inl 16], (zr τ 18 od))) (cf := (cod m6_readShape 43, [some (.inl 16), some (.inr 5), some (.inr st), some (.inl 105), some (.inr z), some (.inr (nu + 1)), some (.inr (k : Int)), some (.inr p), some (.inr (wdt ((τ 16) 1) (τ 17) p z))], [.inr (nu + 1), .inl 16], (zr τ 18 od))) rfl ⟨⟨by omega, by omega⟩, ⟨by decide, by decide⟩⟩ (fun h7 => ?_) (fun h7 => ?_)
                            · first
                              | (exfalso; omega)
                              | (
                                  refine ex_k 3 (P := none) (g := (cod m6_readShape 50, [some (.inl 16), some (.inr 5), some (.inr st), some (.inl 105), some (.inr z), some (.inr (nu + 1)), some (.inr (k : Int)), some (.inr p), some (.inr (wdt ((τ 16) 1) (τ 17) p z))], [.inr (wdt ((τ 16) 1) (τ 17) p z), .inr z, .inl 16, .inr (nu + 1), .inl 16], (zr τ 18 od))) rfl trivial ?_
                                  refine ex_c (t_numberAt (τ := (zr τ 18 od)) (z := z) (w := wdt ((τ 16) 1) (τ 17) p z) (by omega) (by omega) hT) (is := cod m6_readShape 51) (L := [some (.inl 16), some (.inr 5), some (.inr st), some (.inl 105), some (.inr z), some (.inr (nu + 1)), some (.inr (k : Int)), some (.inr p), some (.inr (wdt ((τ 16) 1) (τ 17) p z))]) (st := [.inr (nu + 1), .inl 16]) rfl rfl rfl ?_
                                  show Ex _ _ (cod m6_readShape 51, [some (.inl 16), some (.inr 5), some (.inr st), some (.inl 105), some (.inr z), some (.inr (nu + 1)), some (.inr (k : Int)), some (.inr p), some (.inr (wdt ((τ 16) 1) (τ 17) p z))], [.inr (nmb ((τ 16) 1) (τ 17) z (wdt ((τ 16) 1) (τ 17) p z)), .inr (nu + 1), .inl 16], (zr τ 18 od)) _ _
                                  refine ex_c (t_setOrder (τ := (zr τ 18 od)) (c := nu + 1) (v := nmb ((τ 16) 1) (τ 17) z (wdt ((τ 16) 1) (τ 17) p z)) (by omega) hoc) (is := cod m6_readShape 52) (L := [some (.inl 16), some (.inr 5), some (.inr st), some (.inl 105), some (.inr z), some (.inr (nu + 1)), some (.inr (k : Int)), some (.inr p), some (.inr (wdt ((τ 16) 1) (τ 17) p z))]) (st := []) rfl rfl rfl ?_
                                  show Ex _ _ (cod m6_readShape 52, [some (.inl 16), some (.inr 5), some (.inr st), some (.inl 105), some (.inr z), some (.inr (nu + 1)), some (.inr (k : Int)), some (.inr p), some (.inr (wdt ((τ 16) 1) (τ 17) p z))], [], (zr (zr τ 18 od) 18 (zu od ((τ 16) 3 * 4 + (nu + 1)).toNat (nmb ((τ 16) 1) (τ 17) z (wdt ((τ 16) 1) (τ 17) p z))))) _ _
                                  rw [zr_zr]
                                  refine ex_k 6 (P := none) (g := (cod m6_readShape 9, [some (.inl 16), some (.inr 5), some (.inr st), some (.inl 105), some (.inr (z + (wdt ((τ 16) 1) (τ 17) p z))), some (.inr (nu + 1)), some (.inr ((k : Int) + 1)), some (.inr p), some (.inr (wdt ((τ 16) 1) (τ 17) p z))], [], (zr τ 18 (zu od ((τ 16) 3 * 4 + (nu + 1)).toNat (nmb ((τ 16) 1) (τ 17) z (wdt ((τ 16) 1) (τ 17) p z)))))) rfl trivial ?_
                                  have hnu4 : cnm (p :: ps) = 1 + cnm ps := by rw [hcc, if_pos (by unfold isn; omega)]
                                  rw [res_n (by omega) (show isn p by unfold isn; omega), show vlu (τ 16 1) (τ 17) p z (wdt (τ 16 1) (τ 17) p z) = (nmb ((τ 16) 1) (τ 17) z (wdt ((τ 16) 1) (τ 17) p z)) from by unfold vlu; first | rw [if_pos (by omega)] | rw [if_neg (by omega)]]
                                  exact ih (k + 1) _ _ _ _ _ hc3 hps (by omega) (by omega) (by omega) (by omega) (by omega))
                            · first
                              | (exfalso; omega)
                              | (
                                  refine ex_k 2 (P := none) (g := (cod m6_readShape 45, [some (.inl 16), some (.inr 5), some (.inr st), some (.inl 105), some (.inr z), some (.inr (nu + 1)), some (.inr (k : Int)), some (.inr p), some (.inr (wdt ((τ 16) 1) (τ 17) p z))], [.inr z, .inl 16, .inr (nu + 1), .inl 16], (zr τ 18 od))) rfl trivial ?_
                                  refine ex_c (t_wayAt (τ := (zr τ 18 od)) (z := z) (by omega) hT) (is := cod m6_readShape 46) (L := [some (.inl 16), some (.inr 5), some (.inr st), some (.inl 105), some (.inr z), some (.inr (nu + 1)), some (.inr (k : Int)), some (.inr p), some (.inr (wdt ((τ 16) 1) (τ 17) p z))]) (st := [.inr (nu + 1), .inl 16]) rfl rfl rfl ?_
                                  show Ex _ _ (cod m6_readShape 46, [some (.inl 16), some (.inr 5), some (.inr st), some (.inl 105), some (.inr z), some (.inr (nu + 1)), some (.inr (k : Int)), some (.inr p), some (.inr (wdt ((τ 16) 1) (τ 17) p z))], [.inr (if sg ((τ 16) 1) (τ 17) z = 43 then 1 else 0), .inr (nu + 1), .inl 16], (zr τ 18 od)) _ _
                                  refine ex_k 1 (P := none) (g := (cod m6_readShape 51, [some (.inl 16), some (.inr 5), some (.inr st), some (.inl 105), some (.inr z), some (.inr (nu + 1)), some (.inr (k : Int)), some (.inr p), some (.inr (wdt ((τ 16) 1) (τ 17) p z))], [.inr (if sg ((τ 16) 1) (τ 17) z = 43 then 1 else 0), .inr (nu + 1), .inl 16], (zr τ 18 od))) rfl trivial ?_
                                  refine ex_c (t_setOrder (τ := (zr τ 18 od)) (c := nu + 1) (v := if sg ((τ 16) 1) (τ 17) z = 43 then 1 else 0) (by omega) hoc) (is := cod m6_readShape 52) (L := [some (.inl 16), some (.inr 5), some (.inr st), some (.inl 105), some (.inr z), some (.inr (nu + 1)), some (.inr (k : Int)), some (.inr p), some (.inr (wdt ((τ 16) 1) (τ 17) p z))]) (st := []) rfl rfl rfl ?_
                                  show Ex _ _ (cod m6_readShape 52, [some (.inl 16), some (.inr 5), some (.inr st), some (.inl 105), some (.inr z), some (.inr (nu + 1)), some (.inr (k : Int)), some (.inr p), some (.inr (wdt ((τ 16) 1) (τ 17) p z))], [], (zr (zr τ 18 od) 18 (zu od ((τ 16) 3 * 4 + (nu + 1)).toNat (if sg ((τ 16) 1) (τ 17) z = 43 then 1 else 0)))) _ _
                                  rw [zr_zr]
                                  refine ex_k 6 (P := none) (g := (cod m6_readShape 9, [some (.inl 16), some (.inr 5), some (.inr st), some (.inl 105), some (.inr (z + (wdt ((τ 16) 1) (τ 17) p z))), some (.inr (nu + 1)), some (.inr ((k : Int) + 1)), some (.inr p), some (.inr (wdt ((τ 16) 1) (τ 17) p z))], [], (zr τ 18 (zu od ((τ 16) 3 * 4 + (nu + 1)).toNat (if sg ((τ 16) 1) (τ 17) z = 43 then 1 else 0))))) rfl trivial ?_
                                  have hnu4 : cnm (p :: ps) = 1 + cnm ps := by rw [hcc, if_pos (by unfold isn; omega)]
                                  rw [res_n (by omega) (show isn p by unfold isn; omega), show vlu (τ 16 1) (τ 17) p z (wdt (τ 16 1) (τ 17) p z) = (if sg ((τ 16) 1) (τ 17) z = 43 then 1 else 0) from by unfold vlu; first | rw [if_pos (by omega)] | rw [if_neg (by omega)]]
                                  exact ih (k + 1) _ _ _ _ _ hc3 hps (by omega) (by omega) (by omega) (by omega) (by omega))))))
    · first
      | (exfalso; omega)
      | (
          refine ex_k 3 (P := some ((-1) = -1)) (g := (cod m6_readShape 27, [some (.inl 16), some (.inr 5), some (.inr st), some (.inl 105), some (.inr z), some (.inr nu), some (.inr (k : Int)), some (.inr p), some (.inr (wdt ((τ 16) 1) (τ 17) p z))], [.inr (-z - 1)], (zr τ 18 od))) rfl (by show (-1) = -1; omega) ?_
          exact ex_r rfl trivial rfl (by rw [show mtc (τ 16 1) (τ 17) (p :: ps) z = _ from if_pos (by omega)]; rfl))
theorem t_readShape_5 {z : Int} {τ : SZ} (hT : Tx τ) (hoc : 0 ≤ τ 16 3 ∧ τ 16 3 < 13) (hz : 0 ≤ z ∧ z ≤ τ 16 1) : RZ 4 m6_readShape [.inl 16, .inr 5, .inr z] τ (.inl (some (.inr (rsv (mtc (τ 16 1) (τ 17) [112, 97, 115, 115] z))), zr τ 18 (ups (τ 18) (τ 16 3) 0 (mtc (τ 16 1) (τ 17) [112, 97, 115, 115] z).2.2))) := by
  refine Ex.call ?_ rfl rfl
  show Ex _ _ (cod m6_readShape 0, [some (.inl 16), some (.inr 5), some (.inr z), none, none, none, none, none, none], [], τ) _ _
  refine ex_k 1 (P := none) (g := (cod m6_readShape 1, [some (.inl 16), some (.inr 5), some (.inr z), none, none, none, none, none, none], [.inr 5], τ)) rfl trivial ?_
  refine ex_c (t_shapeOf_5 (τ := τ) ) (is := cod m6_readShape 2) (L := [some (.inl 16), some (.inr 5), some (.inr z), none, none, none, none, none, none]) (st := []) rfl rfl rfl ?_
  show Ex _ _ (cod m6_readShape 2, [some (.inl 16), some (.inr 5), some (.inr z), none, none, none, none, none, none], [.inl 105], τ) _ _
  refine ex_k 7 (P := none) (g := (cod m6_readShape 9, [some (.inl 16), some (.inr 5), some (.inr z), some (.inl 105), some (.inr z), some (.inr 0), some (.inr 0), none, none], [], τ)) rfl trivial ?_
  have q := lp_shape_5 (st := z) (τ := τ) hT hoc [112, 97, 115, 115] 0 z 0 (τ 18) none none rfl (by decide) rfl hz.1 hz.2 (by decide) (by decide)
  rw [zr_self] at q
  exact q
end TXT
