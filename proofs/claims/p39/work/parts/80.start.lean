/-! the law's start: what the tables and the premises say -/
section STA
variable {s : State} {args : Array Value}
def instN : List Nat := [3, 1, 3, 2, 3, 1, 5, 12, 4, 4]
theorem inst_in : ∀ c, c < 10 → Jvm.Cond.instantiable (cq c).1 (instN.getD c 0) ∈ lw_tbl := by decide +kernel
theorem uw_in : ∀ c, c < 10 → ∀ k, k < (cq c).2.2 → u_lay (cq c).1 (cq c).2.1 k ∈ lw_tbl := by decide +kernel
theorem uw_all {c : Nat} (h : c < 10) : ∀ w ∈ u_ws (cq c).1 (cq c).2.1 (cq c).2.2, w ∈ lw_tbl := by
  intro w hw
  obtain ⟨k, hk, rfl⟩ := List.mem_map.mp hw
  exact uw_in c h k (List.mem_range.mp hk)
theorem cq_get10 {c : Nat} (h : c < 10) : cls9[c]? = some (cq c) := by
  have : ∀ c, c < 10 → cls9[c]? = some (cq c) := by
    intro c h
    match c, h with
    | 0, _ => rfl
    | 1, _ => rfl
    | 2, _ => rfl
    | 3, _ => rfl
    | 4, _ => rfl
    | 5, _ => rfl
    | 6, _ => rfl
    | 7, _ => rfl
    | 8, _ => rfl
    | 9, _ => rfl
    | c + 10, h => exact absurd h (by omega)
  exact this c h
theorem arr_in : ∀ ty ∈ [FieldType.int, .char, .long, .boolean, .byte], Jvm.Cond.arrayClass ty ∈ lw_tbl := by decide +kernel
theorem TS_sub {w : Jvm.Cond} (h : w ∈ TS) : w ∈ lw_tbl := (List.mem_filter.mp h).1
theorem arr_one {ty : FieldType} (h : (Jvm.Cond.arrayClass ty).before args s = true) (hp : ∀ C, ty ≠ .object C) : ∃ cA : ClassId, ArrOfT s cA ty ∧ va_RA s cA ty := by
  obtain ⟨cA, kA, comp, h1, h2, h3⟩ := Cond.arrayClass_spec h
  refine ⟨cA, fun n z => ⟨fun k h => (by cases h), kA, h2, comp, h3⟩, ?_⟩
  cases ty with
  | object C => exact absurd rfl (hp C)
  | _ => exact h1
theorem start_K (hts : ∀ w ∈ lw_tbl, w.before args s = true) : ∃ (D : va_G) (cA : Nat → ClassId), va_K D cls9 (tyL cA) s := by
  have h : ∀ k : Nat, ∃ q : ClassId × (Nat → Nat), k < 10 → u_Kn s (cq k).1 (cq k).2.1 (cq k).2.2 q.1 q.2 := by
    intro k
    by_cases hk : k < 10
    · obtain ⟨a, b, h⟩ := u_known (C := (cq k).1) (T := (cq k).2.1) (N := (cq k).2.2) (n := instN.getD k 0) hts (uw_all hk) (hts _ (inst_in k hk))
      exact ⟨(a, b), fun _ => h⟩
    · exact ⟨(0, fun _ => 0), fun h => absurd h hk⟩
  obtain ⟨f, hf⟩ := Classical.axiomOfChoice h
  obtain ⟨c0, a0, b0⟩ := arr_one (hts _ (arr_in .int (by decide))) (fun _ h => by cases h)
  obtain ⟨c1, a1, b1⟩ := arr_one (hts _ (arr_in .char (by decide))) (fun _ h => by cases h)
  obtain ⟨c2, a2, b2⟩ := arr_one (hts _ (arr_in .long (by decide))) (fun _ h => by cases h)
  obtain ⟨c3, a3, b3⟩ := arr_one (hts _ (arr_in .boolean (by decide))) (fun _ h => by cases h)
  obtain ⟨c4, a4, b4⟩ := arr_one (hts _ (arr_in .byte (by decide))) (fun _ h => by cases h)
  refine ⟨(fun k => (f k).1, fun k => (f k).2), fun k => if k = 0 then c0 else if k = 1 then c1 else if k = 2 then c2 else if k = 3 then c3 else c4, fun c q hq => ?_, fun k q hk => ?_⟩
  · have hc : c < 10 := (List.getElem?_eq_some_iff.mp hq).1
    cases hq.symm.trans (cq_get10 hc)
    exact hf c hc
  · match k, hk with
    | 0, hk => cases hk; exact ⟨a0, b0⟩
    | 1, hk => cases hk; exact ⟨a1, b1⟩
    | 2, hk => cases hk; exact ⟨a2, b2⟩
    | 3, hk => cases hk; exact ⟨a3, b3⟩
    | 4, hk => cases hk; exact ⟨a4, b4⟩
    | k + 5, hk => simp at hk
abbrev gvn : Jvm.Cond := .and given_1 narrow_1
theorem nc_in : ∀ E ∈ EX6, ∀ N ∈ EX5, E ≠ N → Jvm.Cond.not (.castable E N) ∈ flatC gvn := by decide +kernel
theorem start_NC (hg : gvn.before args s = true) : NC s := fun E hE N hN hne => va_Nc.of (flat_of_before _ hg _ (nc_in E hE N hN hne))
def tmL : List (String × Nat) := [(RX6, 72), (RX6, 74), (RX6, 76), (RX6, 78), (RX6, 80), (RX6, 82), (RL, 251), (RL, 259), (RL, 261), (RL, 279), (RL, 281), (RL, 297), (RL, 302), (RL, 304), (RL, 306), (RL, 308), (RL, 310), (RL, 312), (RL, 314)]
def tmS (i : Nat) : Term := .string (tmL.getD i ("", 0)).1 (tmL.getD i ("", 0)).2
/-- words that stand in a list in this order -/
def sbq : List Jvm.Cond → List Jvm.Cond → Bool
  | _, [] => false
  | [], _ :: _ => true
  | w :: ws, x :: xs => if w = x then (match ws with | [] => true | v :: vs => sbq (v :: vs) xs) else sbq (w :: ws) xs
theorem sbq_mem : ∀ {l ws : List Jvm.Cond}, sbq ws l = true → ∀ w ∈ ws, w ∈ l
  | [], [], h, w, hw => absurd hw (by simp)
  | [], v :: vs, h, w, hw => Bool.noConfusion (show false = true from h)
  | x :: xs, [], h, w, hw => absurd hw (by simp)
  | x :: xs, w :: ws, h, v, hv => by
    unfold sbq at h
    by_cases e : w = x
    · rw [if_pos e] at h
      rcases List.mem_cons.mp hv with rfl | hv
      · rw [e]; exact List.mem_cons_self
      · match ws, h, hv with
        | [], _, hv => exact absurd hv (by simp)
        | y :: ys, h, hv => exact List.mem_cons_of_mem _ (sbq_mem h v hv)
    · rw [if_neg e] at h
      exact List.mem_cons_of_mem _ (sbq_mem h v hv)
def ORD : List Nat := [6, 7, 8, 9, 10, 11, 0, 1, 2, 3, 4, 5, 12, 13, 14, 15, 16, 17, 18]
theorem ORD_all : ∀ i, i < 19 → i ∈ ORD := by decide
theorem s_ex_b : sbq (ORD.map (fun i => Jvm.Cond.exactly (tmS i) "java/lang/String")) (flatC gvn) = true := by decide +kernel
theorem s_ex : ∀ i, i < 19 → Jvm.Cond.exactly (tmS i) "java/lang/String" ∈ flatC gvn := fun i hi => sbq_mem s_ex_b _ (List.mem_map.mpr ⟨i, ORD_all i hi, rfl⟩)
theorem s_co_b : sbq (ORD.map (fun i => Jvm.Cond.eq (.field (tmS i) "java/lang/String" "coder" "B") (.int 0))) (flatC gvn) = true := by decide +kernel
theorem s_co : ∀ i, i < 19 → Jvm.Cond.eq (.field (tmS i) "java/lang/String" "coder" "B") (.int 0) ∈ flatC gvn := fun i hi => sbq_mem s_co_b _ (List.mem_map.mpr ⟨i, ORD_all i hi, rfl⟩)
theorem s_ar_b : sbq (ORD.map (fun i => Jvm.Cond.arrayOf (.field (tmS i) "java/lang/String" "value" "[B") .byte)) (flatC gvn) = true := by decide +kernel
theorem s_ar : ∀ i, i < 19 → Jvm.Cond.arrayOf (.field (tmS i) "java/lang/String" "value" "[B") .byte ∈ flatC gvn := fun i hi => sbq_mem s_ar_b _ (List.mem_map.mpr ⟨i, ORD_all i hi, rfl⟩)
theorem s_le_b : sbq (ORD.map (fun i => Jvm.Cond.eq (.length (.field (tmS i) "java/lang/String" "value" "[B")) (.int (Int32.ofNat (lnS.getD i 0))))) (flatC gvn) = true := by decide +kernel
theorem s_le : ∀ i, i < 19 → Jvm.Cond.eq (.length (.field (tmS i) "java/lang/String" "value" "[B")) (.int (Int32.ofNat (lnS.getD i 0))) ∈ flatC gvn := fun i hi => sbq_mem s_le_b _ (List.mem_map.mpr ⟨i, ORD_all i hi, rfl⟩)
theorem s_el_0_b : sbq ((List.range 11).map (fun j => Jvm.Cond.eq (.elem (.field (tmS 0) "java/lang/String" "value" "[B") (.int (Int32.ofNat j))) (.int ((byS.getD 0 []).getD j 0)))) (flatC gvn) = true := by decide +kernel
theorem s_el_0 : ∀ j, j < 11 → Jvm.Cond.eq (.elem (.field (tmS 0) "java/lang/String" "value" "[B") (.int (Int32.ofNat j))) (.int ((byS.getD 0 []).getD j 0)) ∈ flatC gvn := fun j hj => sbq_mem s_el_0_b _ (List.mem_map.mpr ⟨j, List.mem_range.mpr hj, rfl⟩)
theorem s_el_1_b : sbq ((List.range 7).map (fun j => Jvm.Cond.eq (.elem (.field (tmS 1) "java/lang/String" "value" "[B") (.int (Int32.ofNat j))) (.int ((byS.getD 1 []).getD j 0)))) (flatC gvn) = true := by decide +kernel
theorem s_el_1 : ∀ j, j < 7 → Jvm.Cond.eq (.elem (.field (tmS 1) "java/lang/String" "value" "[B") (.int (Int32.ofNat j))) (.int ((byS.getD 1 []).getD j 0)) ∈ flatC gvn := fun j hj => sbq_mem s_el_1_b _ (List.mem_map.mpr ⟨j, List.mem_range.mpr hj, rfl⟩)
theorem s_el_2_b : sbq ((List.range 10).map (fun j => Jvm.Cond.eq (.elem (.field (tmS 2) "java/lang/String" "value" "[B") (.int (Int32.ofNat j))) (.int ((byS.getD 2 []).getD j 0)))) (flatC gvn) = true := by decide +kernel
theorem s_el_2 : ∀ j, j < 10 → Jvm.Cond.eq (.elem (.field (tmS 2) "java/lang/String" "value" "[B") (.int (Int32.ofNat j))) (.int ((byS.getD 2 []).getD j 0)) ∈ flatC gvn := fun j hj => sbq_mem s_el_2_b _ (List.mem_map.mpr ⟨j, List.mem_range.mpr hj, rfl⟩)
theorem s_el_3_b : sbq ((List.range 9).map (fun j => Jvm.Cond.eq (.elem (.field (tmS 3) "java/lang/String" "value" "[B") (.int (Int32.ofNat j))) (.int ((byS.getD 3 []).getD j 0)))) (flatC gvn) = true := by decide +kernel
theorem s_el_3 : ∀ j, j < 9 → Jvm.Cond.eq (.elem (.field (tmS 3) "java/lang/String" "value" "[B") (.int (Int32.ofNat j))) (.int ((byS.getD 3 []).getD j 0)) ∈ flatC gvn := fun j hj => sbq_mem s_el_3_b _ (List.mem_map.mpr ⟨j, List.mem_range.mpr hj, rfl⟩)
theorem s_el_4_b : sbq ((List.range 9).map (fun j => Jvm.Cond.eq (.elem (.field (tmS 4) "java/lang/String" "value" "[B") (.int (Int32.ofNat j))) (.int ((byS.getD 4 []).getD j 0)))) (flatC gvn) = true := by decide +kernel
theorem s_el_4 : ∀ j, j < 9 → Jvm.Cond.eq (.elem (.field (tmS 4) "java/lang/String" "value" "[B") (.int (Int32.ofNat j))) (.int ((byS.getD 4 []).getD j 0)) ∈ flatC gvn := fun j hj => sbq_mem s_el_4_b _ (List.mem_map.mpr ⟨j, List.mem_range.mpr hj, rfl⟩)
theorem s_el_5_b : sbq ((List.range 4).map (fun j => Jvm.Cond.eq (.elem (.field (tmS 5) "java/lang/String" "value" "[B") (.int (Int32.ofNat j))) (.int ((byS.getD 5 []).getD j 0)))) (flatC gvn) = true := by decide +kernel
theorem s_el_5 : ∀ j, j < 4 → Jvm.Cond.eq (.elem (.field (tmS 5) "java/lang/String" "value" "[B") (.int (Int32.ofNat j))) (.int ((byS.getD 5 []).getD j 0)) ∈ flatC gvn := fun j hj => sbq_mem s_el_5_b _ (List.mem_map.mpr ⟨j, List.mem_range.mpr hj, rfl⟩)
theorem s_el_6 : ∀ j, j < 0 → Jvm.Cond.eq (.elem (.field (tmS 6) "java/lang/String" "value" "[B") (.int (Int32.ofNat j))) (.int ((byS.getD 6 []).getD j 0)) ∈ flatC gvn := fun j hj => absurd hj (Nat.not_lt_zero j)
theorem s_el_7_b : sbq ((List.range 8).map (fun j => Jvm.Cond.eq (.elem (.field (tmS 7) "java/lang/String" "value" "[B") (.int (Int32.ofNat j))) (.int ((byS.getD 7 []).getD j 0)))) (flatC gvn) = true := by decide +kernel
theorem s_el_7 : ∀ j, j < 8 → Jvm.Cond.eq (.elem (.field (tmS 7) "java/lang/String" "value" "[B") (.int (Int32.ofNat j))) (.int ((byS.getD 7 []).getD j 0)) ∈ flatC gvn := fun j hj => sbq_mem s_el_7_b _ (List.mem_map.mpr ⟨j, List.mem_range.mpr hj, rfl⟩)
theorem s_el_8_b : sbq ((List.range 8).map (fun j => Jvm.Cond.eq (.elem (.field (tmS 8) "java/lang/String" "value" "[B") (.int (Int32.ofNat j))) (.int ((byS.getD 8 []).getD j 0)))) (flatC gvn) = true := by decide +kernel
theorem s_el_8 : ∀ j, j < 8 → Jvm.Cond.eq (.elem (.field (tmS 8) "java/lang/String" "value" "[B") (.int (Int32.ofNat j))) (.int ((byS.getD 8 []).getD j 0)) ∈ flatC gvn := fun j hj => sbq_mem s_el_8_b _ (List.mem_map.mpr ⟨j, List.mem_range.mpr hj, rfl⟩)
theorem s_el_9_b : sbq ((List.range 1).map (fun j => Jvm.Cond.eq (.elem (.field (tmS 9) "java/lang/String" "value" "[B") (.int (Int32.ofNat j))) (.int ((byS.getD 9 []).getD j 0)))) (flatC gvn) = true := by decide +kernel
theorem s_el_9 : ∀ j, j < 1 → Jvm.Cond.eq (.elem (.field (tmS 9) "java/lang/String" "value" "[B") (.int (Int32.ofNat j))) (.int ((byS.getD 9 []).getD j 0)) ∈ flatC gvn := fun j hj => sbq_mem s_el_9_b _ (List.mem_map.mpr ⟨j, List.mem_range.mpr hj, rfl⟩)
theorem s_el_10_b : sbq ((List.range 1).map (fun j => Jvm.Cond.eq (.elem (.field (tmS 10) "java/lang/String" "value" "[B") (.int (Int32.ofNat j))) (.int ((byS.getD 10 []).getD j 0)))) (flatC gvn) = true := by decide +kernel
theorem s_el_10 : ∀ j, j < 1 → Jvm.Cond.eq (.elem (.field (tmS 10) "java/lang/String" "value" "[B") (.int (Int32.ofNat j))) (.int ((byS.getD 10 []).getD j 0)) ∈ flatC gvn := fun j hj => sbq_mem s_el_10_b _ (List.mem_map.mpr ⟨j, List.mem_range.mpr hj, rfl⟩)
theorem s_el_11_b : sbq ((List.range 14).map (fun j => Jvm.Cond.eq (.elem (.field (tmS 11) "java/lang/String" "value" "[B") (.int (Int32.ofNat j))) (.int ((byS.getD 11 []).getD j 0)))) (flatC gvn) = true := by decide +kernel
theorem s_el_11 : ∀ j, j < 14 → Jvm.Cond.eq (.elem (.field (tmS 11) "java/lang/String" "value" "[B") (.int (Int32.ofNat j))) (.int ((byS.getD 11 []).getD j 0)) ∈ flatC gvn := fun j hj => sbq_mem s_el_11_b _ (List.mem_map.mpr ⟨j, List.mem_range.mpr hj, rfl⟩)
theorem s_el_12_b : sbq ((List.range 5).map (fun j => Jvm.Cond.eq (.elem (.field (tmS 12) "java/lang/String" "value" "[B") (.int (Int32.ofNat j))) (.int ((byS.getD 12 []).getD j 0)))) (flatC gvn) = true := by decide +kernel
theorem s_el_12 : ∀ j, j < 5 → Jvm.Cond.eq (.elem (.field (tmS 12) "java/lang/String" "value" "[B") (.int (Int32.ofNat j))) (.int ((byS.getD 12 []).getD j 0)) ∈ flatC gvn := fun j hj => sbq_mem s_el_12_b _ (List.mem_map.mpr ⟨j, List.mem_range.mpr hj, rfl⟩)
theorem s_el_13_b : sbq ((List.range 1).map (fun j => Jvm.Cond.eq (.elem (.field (tmS 13) "java/lang/String" "value" "[B") (.int (Int32.ofNat j))) (.int ((byS.getD 13 []).getD j 0)))) (flatC gvn) = true := by decide +kernel
theorem s_el_13 : ∀ j, j < 1 → Jvm.Cond.eq (.elem (.field (tmS 13) "java/lang/String" "value" "[B") (.int (Int32.ofNat j))) (.int ((byS.getD 13 []).getD j 0)) ∈ flatC gvn := fun j hj => sbq_mem s_el_13_b _ (List.mem_map.mpr ⟨j, List.mem_range.mpr hj, rfl⟩)
theorem s_el_14_b : sbq ((List.range 1).map (fun j => Jvm.Cond.eq (.elem (.field (tmS 14) "java/lang/String" "value" "[B") (.int (Int32.ofNat j))) (.int ((byS.getD 14 []).getD j 0)))) (flatC gvn) = true := by decide +kernel
theorem s_el_14 : ∀ j, j < 1 → Jvm.Cond.eq (.elem (.field (tmS 14) "java/lang/String" "value" "[B") (.int (Int32.ofNat j))) (.int ((byS.getD 14 []).getD j 0)) ∈ flatC gvn := fun j hj => sbq_mem s_el_14_b _ (List.mem_map.mpr ⟨j, List.mem_range.mpr hj, rfl⟩)
theorem s_el_15_b : sbq ((List.range 1).map (fun j => Jvm.Cond.eq (.elem (.field (tmS 15) "java/lang/String" "value" "[B") (.int (Int32.ofNat j))) (.int ((byS.getD 15 []).getD j 0)))) (flatC gvn) = true := by decide +kernel
theorem s_el_15 : ∀ j, j < 1 → Jvm.Cond.eq (.elem (.field (tmS 15) "java/lang/String" "value" "[B") (.int (Int32.ofNat j))) (.int ((byS.getD 15 []).getD j 0)) ∈ flatC gvn := fun j hj => sbq_mem s_el_15_b _ (List.mem_map.mpr ⟨j, List.mem_range.mpr hj, rfl⟩)
theorem s_el_16_b : sbq ((List.range 7).map (fun j => Jvm.Cond.eq (.elem (.field (tmS 16) "java/lang/String" "value" "[B") (.int (Int32.ofNat j))) (.int ((byS.getD 16 []).getD j 0)))) (flatC gvn) = true := by decide +kernel
theorem s_el_16 : ∀ j, j < 7 → Jvm.Cond.eq (.elem (.field (tmS 16) "java/lang/String" "value" "[B") (.int (Int32.ofNat j))) (.int ((byS.getD 16 []).getD j 0)) ∈ flatC gvn := fun j hj => sbq_mem s_el_16_b _ (List.mem_map.mpr ⟨j, List.mem_range.mpr hj, rfl⟩)
theorem s_el_17_b : sbq ((List.range 2).map (fun j => Jvm.Cond.eq (.elem (.field (tmS 17) "java/lang/String" "value" "[B") (.int (Int32.ofNat j))) (.int ((byS.getD 17 []).getD j 0)))) (flatC gvn) = true := by decide +kernel
theorem s_el_17 : ∀ j, j < 2 → Jvm.Cond.eq (.elem (.field (tmS 17) "java/lang/String" "value" "[B") (.int (Int32.ofNat j))) (.int ((byS.getD 17 []).getD j 0)) ∈ flatC gvn := fun j hj => sbq_mem s_el_17_b _ (List.mem_map.mpr ⟨j, List.mem_range.mpr hj, rfl⟩)
theorem s_el_18_b : sbq ((List.range 7).map (fun j => Jvm.Cond.eq (.elem (.field (tmS 18) "java/lang/String" "value" "[B") (.int (Int32.ofNat j))) (.int ((byS.getD 18 []).getD j 0)))) (flatC gvn) = true := by decide +kernel
theorem s_el_18 : ∀ j, j < 7 → Jvm.Cond.eq (.elem (.field (tmS 18) "java/lang/String" "value" "[B") (.int (Int32.ofNat j))) (.int ((byS.getD 18 []).getD j 0)) ∈ flatC gvn := fun j hj => sbq_mem s_el_18_b _ (List.mem_map.mpr ⟨j, List.mem_range.mpr hj, rfl⟩)
theorem s_el : ∀ i, i < 19 → ∀ j, j < lnS.getD i 0 → Jvm.Cond.eq (.elem (.field (tmS i) "java/lang/String" "value" "[B") (.int (Int32.ofNat j))) (.int ((byS.getD i []).getD j 0)) ∈ flatC gvn := by
  intro i hi
  match i, hi with
  | 0, _ => exact s_el_0
  | 1, _ => exact s_el_1
  | 2, _ => exact s_el_2
  | 3, _ => exact s_el_3
  | 4, _ => exact s_el_4
  | 5, _ => exact s_el_5
  | 6, _ => exact s_el_6
  | 7, _ => exact s_el_7
  | 8, _ => exact s_el_8
  | 9, _ => exact s_el_9
  | 10, _ => exact s_el_10
  | 11, _ => exact s_el_11
  | 12, _ => exact s_el_12
  | 13, _ => exact s_el_13
  | 14, _ => exact s_el_14
  | 15, _ => exact s_el_15
  | 16, _ => exact s_el_16
  | 17, _ => exact s_el_17
  | 18, _ => exact s_el_18
  | i + 19, hi => exact absurd hi (by omega)
def NEP : List (Nat × Nat) := [(6, 7), (6, 8), (7, 8), (6, 9), (7, 9), (8, 9), (6, 10), (7, 10), (8, 10), (9, 10), (6, 11), (7, 11), (8, 11), (9, 11), (10, 11), (6, 0), (7, 0), (8, 0), (9, 0), (10, 0), (11, 0), (6, 1), (7, 1), (8, 1), (9, 1), (10, 1), (11, 1), (0, 1), (6, 2), (7, 2), (8, 2), (9, 2), (10, 2), (11, 2), (0, 2), (1, 2), (6, 3), (7, 3), (8, 3), (9, 3), (10, 3), (11, 3), (0, 3), (1, 3), (2, 3), (6, 4), (7, 4), (8, 4), (9, 4), (10, 4), (11, 4), (0, 4), (1, 4), (2, 4), (3, 4), (6, 5), (7, 5), (8, 5), (9, 5), (10, 5), (11, 5), (0, 5), (1, 5), (2, 5), (3, 5), (4, 5), (6, 12), (7, 12), (8, 12), (9, 12), (10, 12), (11, 12), (0, 12), (1, 12), (2, 12), (3, 12), (4, 12), (5, 12), (6, 13), (7, 13), (8, 13), (9, 13), (10, 13), (11, 13), (0, 13), (1, 13), (2, 13), (3, 13), (4, 13), (5, 13), (12, 13), (6, 14), (7, 14), (8, 14), (9, 14), (10, 14), (11, 14), (0, 14), (1, 14), (2, 14), (3, 14), (4, 14), (5, 14), (12, 14), (13, 14), (6, 15), (7, 15), (8, 15), (9, 15), (10, 15), (11, 15), (0, 15), (1, 15), (2, 15), (3, 15), (4, 15), (5, 15), (12, 15), (13, 15), (14, 15), (6, 16), (7, 16), (8, 16), (9, 16), (10, 16), (11, 16), (0, 16), (1, 16), (2, 16), (3, 16), (4, 16), (5, 16), (12, 16), (13, 16), (14, 16), (15, 16), (6, 17), (7, 17), (8, 17), (9, 17), (10, 17), (11, 17), (0, 17), (1, 17), (2, 17), (3, 17), (4, 17), (5, 17), (12, 17), (13, 17), (14, 17), (15, 17), (16, 17), (6, 18), (7, 18), (8, 18), (9, 18), (10, 18), (11, 18), (0, 18), (1, 18), (2, 18), (3, 18), (4, 18), (5, 18), (12, 18), (13, 18), (14, 18), (15, 18), (16, 18), (17, 18)]
theorem s_ne_b : sbq (NEP.map (fun q => Jvm.Cond.not (.eq (tmS q.1) (tmS q.2)))) (flatC gvn) = true := by decide +kernel
theorem NEP_b : (List.range 19).all (fun i => (List.range 19).all (fun j => decide (i = j) || (NEP.contains (i, j) || NEP.contains (j, i)))) = true := by decide +kernel
theorem NEP_all : ∀ i, i < 19 → ∀ j, j < 19 → i ≠ j → (i, j) ∈ NEP ∨ (j, i) ∈ NEP := by
  intro i hi j hj h
  have q := List.all_eq_true.mp (List.all_eq_true.mp NEP_b i (List.mem_range.mpr hi)) j (List.mem_range.mpr hj)
  simp only [Bool.or_eq_true, decide_eq_true_eq] at q
  rcases q with q | q | q
  · exact absurd q h
  · exact Or.inl (List.contains_iff_mem.mp q)
  · exact Or.inr (List.contains_iff_mem.mp q)
theorem s_ne : ∀ i, i < 19 → ∀ j, j < 19 → i ≠ j → Jvm.Cond.not (.eq (tmS i) (tmS j)) ∈ flatC gvn ∨ Jvm.Cond.not (.eq (tmS j) (tmS i)) ∈ flatC gvn := fun i hi j hj h => (NEP_all i hi j hj h).elim (fun q => Or.inl (sbq_mem s_ne_b _ (List.mem_map.mpr ⟨_, q, rfl⟩))) (fun q => Or.inr (sbq_mem s_ne_b _ (List.mem_map.mpr ⟨_, q, rfl⟩)))
theorem s_z : ∀ w ∈ [Jvm.Cond.isRef (.static "java/lang/Throwable" "UNASSIGNED_STACK" "[Ljava/lang/StackTraceElement;"), .isRef (.static "java/lang/Throwable" "SUPPRESSED_SENTINEL" "Ljava/util/List;"), .eq (.static "java/lang/String" "COMPACT_STRINGS" "Z") (.int 1), .isRef (.static "jdk/internal/util/Preconditions" "SIOOBE_FORMATTER" "Ljava/util/function/BiFunction;")], w ∈ flatC gvn := by decide +kernel
theorem s_t : ∀ w ∈ [Jvm.Cond.laysStatic "java/lang/Throwable" "UNASSIGNED_STACK" "[Ljava/lang/StackTraceElement;", .laysStatic "java/lang/Throwable" "SUPPRESSED_SENTINEL" "Ljava/util/List;", .laysStatic "java/lang/String" "COMPACT_STRINGS" "Z", .laysStatic "jdk/internal/util/Preconditions" "SIOOBE_FORMATTER" "Ljava/util/function/BiFunction;", .initialized "java/lang/Throwable", .initialized "java/lang/String", .initialized "jdk/internal/util/Preconditions", .laysStatic "java/lang/Integer" "DigitTens" "[B", .laysStatic "java/lang/Integer" "DigitOnes" "[B", .initialized "java/lang/Integer"], w ∈ lw_tbl := by decide +kernel
theorem s_rf : ∀ c, c < 9 → ∀ e ∈ LTL.getD c [], Jvm.Cond.stringRef (cq c).1 e.1 (STT.getD e.2 "") ∈ lw_tbl := by decide +kernel
theorem s_tm : ∀ c, c < 9 → ∀ e ∈ LTL.getD c [], e.2 < 19 ∧ ((tmL.getD e.2 ("", 0)) = ((cq c).1, e.1)) := by decide +kernel
theorem s_rl : ∀ e ∈ lawS, Jvm.Cond.stringRef RL e.1 (STT.getD e.2 "") ∈ lw_tbl ∧ e.2 < 19 ∧ ((tmL.getD e.2 ("", 0)) = (RL, e.1)) := by decide +kernel
def tdgT : Term := .static "java/lang/Integer" "DigitTens" "[B"
theorem s_dgT : [Jvm.Cond.arrayOf tdgT .byte, .eq (.length tdgT) (.int (Int32.ofNat 100))].all (fun w => decide (w ∈ flatC gvn)) = true := by decide +kernel
theorem s_dgT_b : sbq ((List.range 100).map (fun j => Jvm.Cond.eq (.elem tdgT (.int (Int32.ofNat j))) (.int (Int32.ofNat (48 + j / 10))))) (flatC gvn) = true := by decide +kernel
theorem s_dgT_all : ∀ j, j < 100 → Jvm.Cond.eq (.elem tdgT (.int (Int32.ofNat j))) (.int (Int32.ofNat (48 + j / 10))) ∈ flatC gvn := fun j hj => sbq_mem s_dgT_b _ (List.mem_map.mpr ⟨j, List.mem_range.mpr hj, rfl⟩)
def tdgO : Term := .static "java/lang/Integer" "DigitOnes" "[B"
theorem s_dgO : [Jvm.Cond.arrayOf tdgO .byte, .eq (.length tdgO) (.int (Int32.ofNat 100))].all (fun w => decide (w ∈ flatC gvn)) = true := by decide +kernel
theorem s_dgO_b : sbq ((List.range 100).map (fun j => Jvm.Cond.eq (.elem tdgO (.int (Int32.ofNat j))) (.int (Int32.ofNat (48 + j % 10))))) (flatC gvn) = true := by decide +kernel
theorem s_dgO_all : ∀ j, j < 100 → Jvm.Cond.eq (.elem tdgO (.int (Int32.ofNat j))) (.int (Int32.ofNat (48 + j % 10))) ∈ flatC gvn := fun j hj => sbq_mem s_dgO_b _ (List.mem_map.mpr ⟨j, List.mem_range.mpr hj, rfl⟩)
theorem prb_in : ∀ y ∈ PRB, (y.cls ≠ "java/lang/invoke/MethodHandle" ∧ y.cls ≠ "java/lang/invoke/VarHandle") ∧ Jvm.Cond.instantiable RX9b 4 ∈ lw_tbl ∧ Jvm.Cond.privateMethod y ∈ lw_tbl ∧ Jvm.Cond.instanceMethod y ∈ lw_tbl ∧ Jvm.Cond.sameMethod y.cls y.cls y.name y.desc ∈ lw_tbl := by decide +kernel
theorem start_WX {b L : Nat} {xs : Nat → Int32} (hL : L ≤ 260) (hX : va_X b L xs s s.heap) (hbl : b < s.heap.size) (hts : ∀ w ∈ lw_tbl, w.before args s = true) (hg : gvn.before args s = true) : ∃ ad adV : Nat → Nat, WX (fun q => s.heap.size ≤ q) ad adV s s.heap ∧ JX (fun q => s.heap.size ≤ q) ad s s.heap ∧ ad 99 = b := by
  have hs := flat_of_before _ hg
  have hA : ∀ a : Nat, a < s.heap.size → ¬ s.heap.size ≤ a := fun a h => Nat.not_le.mpr h
  obtain ⟨adK, adV, hS, hE⟩ := vk_Sof (args := args) (s := s) (N := 19) (tm := tmS) (len := lnS) (byt := byS) (A := fun q => s.heap.size ≤ q) (by decide +kernel) (fun i hi => hs _ (s_ex i hi)) (fun i hi => hs _ (s_co i hi)) (fun i hi => hs _ (s_ar i hi)) (fun i hi => hs _ (s_le i hi)) (fun i hi j hj => hs _ (s_el i hi j hj))
    (fun i j hi hj hij => (s_ne i hi j hj hij).elim (fun h => Or.inl (hs _ h)) (fun h => Or.inr (hs _ h))) hA
  have e0 : (fun i => (fun k => if k = 99 then b else adK (k - 100)) (100 + i)) = adK := funext fun i => by
    show (if 100 + i = 99 then b else adK (100 + i - 100)) = adK i
    rw [if_neg (by omega), Nat.add_sub_cancel_left]
  have e1 : ∀ i, (fun k => if k = 99 then b else adK (k - 100)) (100 + i) = adK i := fun i => congrFun e0 i
  refine ⟨fun k => if k = 99 then b else adK (k - 100), adV, ⟨⟨vx_Zqof (hts _ (s_t _ (by decide +kernel))) (hts _ (s_t _ (by decide +kernel))) (hs _ (s_z _ (by decide +kernel))) hA, vx_Zqof (hts _ (s_t _ (by decide +kernel))) (hts _ (s_t _ (by decide +kernel))) (hs _ (s_z _ (by decide +kernel))) hA⟩, fun w hw hr => va_Nw.of (wrm_tab hr) (hts w hw), ⟨by rw [e0]; exact hS, fun c ix q hc hq => ?_⟩,
    va_Zof (hts _ (s_t _ (by decide +kernel))) (hts _ (s_t _ (by decide +kernel))) (va_eqt (hs _ (s_z (.eq (.static "java/lang/String" "COMPACT_STRINGS" "Z") (.int 1)) (by decide +kernel)))) hA, va_Zqof (hts _ (s_t _ (by decide +kernel))) (hts _ (s_t _ (by decide +kernel))) (hs _ (s_z _ (by decide +kernel))) hA⟩, ⟨⟨fun e he => ?_, fun y hy => word_at (State.WarmedH.refl s) (Or.inl rfl) (sel_priv (n := 4) (prb_in y hy).1 (hts _ (prb_in y hy).2.1) (hts _ (prb_in y hy).2.2.1) (hts _ (prb_in y hy).2.2.2.1) (hts _ (prb_in y hy).2.2.2.2))⟩, ?_, ?_, L, xs, hL, ?_, ?_, ?_⟩, rfl⟩
  · have hm := lkp_mem hq
    have h1 := hts _ (s_rf c hc _ hm)
    obtain ⟨h12, h2⟩ := s_tm c hc _ hm
    rw [e1]
    refine vk_R.of h1 ?_
    have h3 := hE q h12
    unfold tmS at h3
    rw [h2] at h3
    exact h3
  · obtain ⟨h1, h12, h2⟩ := s_rl e he
    rw [e1]
    refine vk_R.of (hts _ h1) ?_
    have h3 := hE e.2 h12
    unfold tmS at h3
    rw [h2] at h3
    exact h3
  · have q := List.all_eq_true.mp s_dgT
    obtain ⟨t, ht, hT⟩ := va_Tof (tm := tdgT) (ty := .byte) (N := 100) (f := dgT) (by decide) (hs _ (of_decide_eq_true (q _ List.mem_cons_self))) (va_eqt (hs _ (of_decide_eq_true (q _ (List.mem_cons_of_mem _ List.mem_cons_self))))) (fun j hj => va_eqt (hs _ (s_dgT_all j hj))) hA
    exact ⟨t, va_Zof (hts _ (s_t _ (by decide +kernel))) (hts _ (s_t _ (by decide +kernel))) ht hA, hT⟩
  · have q := List.all_eq_true.mp s_dgO
    obtain ⟨t, ht, hT⟩ := va_Tof (tm := tdgO) (ty := .byte) (N := 100) (f := dgO) (by decide) (hs _ (of_decide_eq_true (q _ List.mem_cons_self))) (va_eqt (hs _ (of_decide_eq_true (q _ (List.mem_cons_of_mem _ List.mem_cons_self))))) (fun j hj => va_eqt (hs _ (s_dgO_all j hj))) hA
    exact ⟨t, va_Zof (hts _ (s_t _ (by decide +kernel))) (hts _ (s_t _ (by decide +kernel))) ht hA, hT⟩
  · exact hX
  · exact hbl
  · exact hA b hbl
end STA
