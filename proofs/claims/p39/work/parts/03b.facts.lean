/-! facts of the tables in the form in which they are used -/
section FCU
def lenOk : Instr → Nat → Bool
  | .iconst _, n | .iload_n _, n | .aload_n _, n | .istore_n _, n | .astore_n _, n | .iadd, n | .isub, n | .imul, n | .ixor, n | .idiv, n | .irem, n | .i2c, n | .dup, n | .dup2, n | .pop, n | .iaload, n | .caload, n | .iastore, n | .castore, n | .arraylength, n | .ireturn, n | .areturn, n | .return_, n => Nat.beq n 1
  | .bipush _, n | .iload _, n | .aload _, n | .istore _, n | .astore _, n | .ldc _, n => Nat.beq n 2
  | .sipush _, n | .iinc _ _, n | .getfield _, n | .putfield _, n | .goto _, n | .ifCond _ _, n | .if_icmp _ _, n | .invokevirtual _, n | .invokestatic _, n => Nat.beq n 3
  | _, _ => true
theorem lenOk_all : KL.all (fun g => g.all (fun k => k.all (fun e => lenOk e.2.1 e.2.2) && chn k)) = true := by decide +kernel
theorem ty_all : (List.range 9).all (fun c => (List.range (cq c).2.2).all (fun k => (parseFieldDescriptor ((cq c).2.1 k).2.2.1).isSome)) = true := by decide +kernel
theorem nm_all : (List.range 9).all (fun c => decide (∀ a, a < (cq c).2.2 → ∀ b, b < (cq c).2.2 → a ≠ b → ((cq c).2.1 a).2.1 ≠ ((cq c).2.1 b).2.1)) = true := by decide +kernel
theorem sz_all : (List.range 136).all (fun i => Nat.blt (i / 16) MTL.length && Nat.blt (i % 16) (MTL.getD (i / 16) []).length && Nat.blt (i / 16) KL.length && Nat.blt (i % 16) (KL.getD (i / 16) []).length) = true := by decide +kernel
theorem cq_get {c : Nat} (h : c < 9) : cls9[c]? = some (cq c) := by
  have : ∀ c, c < 9 → cls9[c]? = some (cq c) := by
    intro c h
    match c, h with
    | 0, _ => rfl
    | 1, _ => rfl
    | 2, _ => rfl
    | 3, _ => rfl
    | 4, _ => rfl
    | 5, _ => rfl
    | 6, _ => rfl
    | 7, _ => rfl
    | 8, _ => rfl
  exact this c h
theorem getD_mem {α : Type} {l : List α} {i : Nat} {d : α} (h : i < l.length) : l.getD i d ∈ l := by
  rw [List.getD_eq_getElem?_getD, List.getElem?_eq_getElem h]
  exact List.getElem_mem h
theorem mt_in {i : Nat} (hi : i < NM) : mt i ∈ MTL.getD (i / 16) [] ∧ MTL.getD (i / 16) [] ∈ MTL ∧ mK i ∈ KL.getD (i / 16) [] ∧ KL.getD (i / 16) [] ∈ KL := by
  have h := rg_all sz_all hi
  simp only [Bool.and_eq_true, Nat.blt_eq] at h
  exact ⟨getD_mem h.1.1.2, getD_mem h.1.1.1, getD_mem h.2, getD_mem h.1.2⟩
theorem cw_all : ∀ g ∈ MTL, (∀ q ∈ g.map (fun m => Jvm.Cond.code m.1 m.2.1 m.2.2.1 m.2.2.2.1), q ∈ lw_tbl) ∧ g.all mchk = true := by
  have key : ∀ {g : List MTT} {ps : List Nat}, g.map (fun m => Jvm.Cond.code m.1 m.2.1 m.2.2.1 m.2.2.2.1) = ps.filterMap (fun i => lw_tbl[i]?) → ∀ q ∈ g.map (fun m => Jvm.Cond.code m.1 m.2.1 m.2.2.1 m.2.2.2.1), q ∈ lw_tbl := by
    intro g ps h q hq
    rw [h] at hq
    obtain ⟨i, -, hi⟩ := List.mem_filterMap.mp hq
    exact List.mem_of_getElem? hi
  exact List.forall_mem_cons.mpr ⟨⟨key cw_0, mc_0⟩, List.forall_mem_cons.mpr ⟨⟨key cw_1, mc_1⟩, List.forall_mem_cons.mpr ⟨⟨key cw_2, mc_2⟩, List.forall_mem_cons.mpr ⟨⟨key cw_3, mc_3⟩, List.forall_mem_cons.mpr ⟨⟨key cw_4, mc_4⟩, List.forall_mem_cons.mpr ⟨⟨key cw_5, mc_5⟩, List.forall_mem_cons.mpr ⟨⟨key cw_6, mc_6⟩, List.forall_mem_cons.mpr ⟨⟨key cw_7, mc_7⟩, List.forall_mem_cons.mpr ⟨⟨key cw_8, mc_8⟩, (fun _ h => nomatch h)⟩⟩⟩⟩⟩⟩⟩⟩⟩
theorem m_code {i : Nat} (hi : i < NM) : Jvm.Cond.code (mY i) (mB i) (mL i) (mR i) ∈ TS :=
  TS_mem ((cw_all _ (mt_in hi).2.1).1 _ (List.mem_map.mpr ⟨mt i, (mt_in hi).1, rfl⟩)) rfl
theorem m_fact {i : Nat} (hi : i < NM) : mC i < 9 ∧ (cq (mC i)).1 = (mY i).cls ∧ (parseMethodDescriptor (mY i).desc).map (fun d => d.parameters.length) = some (mN i) ∧ mL i ≤ 20 := by
  have h := List.all_eq_true.mp ((cw_all _ (mt_in hi).2.1).2) _ (mt_in hi).1
  simp only [mchk, Bool.and_eq_true, Nat.blt_eq, decide_eq_true_eq, Nat.ble_eq] at h
  exact ⟨h.1, h.2.1, h.2.2.1, h.2.2.2⟩
theorem k_fact {i : Nat} (hi : i < NM) : (∀ e ∈ mK i, lenOk e.2.1 e.2.2 = true) ∧ chn (mK i) = true := by
  have h := List.all_eq_true.mp (List.all_eq_true.mp lenOk_all _ (mt_in hi).2.2.2) _ (mt_in hi).2.2.1
  rw [Bool.and_eq_true] at h
  exact ⟨List.all_eq_true.mp h.1, h.2⟩
theorem hd_all : KL.all (fun g => g.all (fun k => match k with
  | [] => true
  | e :: _ => Nat.beq e.1 0)) = true := by decide +kernel
theorem k_hd {i : Nat} (hi : i < NM) {e : CI} {is : List CI} (h : mK i = e :: is) : e.1 = 0 := by
  have g := List.all_eq_true.mp (List.all_eq_true.mp hd_all _ (mt_in hi).2.2.2) _ (mt_in hi).2.2.1
  rw [h] at g
  exact Nat.eq_of_beq_eq_true g
theorem c_plain {c : Nat} (h : c < 9) : plainName (cq c).1 = true ∧ Jvm.Cond.initialized (cq c).1 ∈ TS ∧ ∀ k, k < (cq c).2.2 → u_lay (cq c).1 (cq c).2.1 k ∈ TS := by
  have g := rg_all ichk_all h
  simp only [ichk, Bool.and_eq_true, decide_eq_true_eq] at g
  refine ⟨g.2.1, TS_mem (List.mem_of_getElem? g.1) rfl, fun k hk => TS_mem (List.mem_of_getElem? (of_decide_eq_true (rg_all g.2.2 hk))) ?_⟩
  unfold u_lay
  split <;> rfl
theorem c_uws {c : Nat} (h : c < 9) : ∀ w ∈ u_ws (cq c).1 (cq c).2.1 (cq c).2.2, w ∈ TS := by
  intro w hw
  obtain ⟨k, hk, rfl⟩ := List.mem_map.mp hw
  exact (c_plain h).2.2 k (List.mem_range.mp hk)
theorem c_handle {c : Nat} (h : c < 9) : (cq c).1 ≠ "java/lang/invoke/MethodHandle" ∧ (cq c).1 ≠ "java/lang/invoke/VarHandle" := by
  have : (List.range 9).all (fun c => decide ((cq c).1 ≠ "java/lang/invoke/MethodHandle" ∧ (cq c).1 ≠ "java/lang/invoke/VarHandle")) = true := by decide +kernel
  exact of_decide_eq_true (rg_all this h)
def cty (c : Nat) (k : Nat) : FieldType := (parseFieldDescriptor ((cq c).2.1 k).2.2.1).getD .int
theorem c_ty {c : Nat} (h : c < 9) : ∀ k, k < (cq c).2.2 → parseFieldDescriptor ((cq c).2.1 k).2.2.1 = some (cty c k) := by
  intro k hk
  have g := rg_all (rg_all ty_all h) hk
  unfold cty
  cases e : parseFieldDescriptor ((cq c).2.1 k).2.2.1 with
  | none => rw [e] at g; cases g
  | some x => rfl
theorem c_nm {c : Nat} (h : c < 9) : ∀ a, a < (cq c).2.2 → ∀ b, b < (cq c).2.2 → a ≠ b → ((cq c).2.1 a).2.1 ≠ ((cq c).2.1 b).2.1 := of_decide_eq_true (rg_all nm_all h)
theorem sh_fact {a : Nat} {q : SHP} (h : SH[a]? = some q) : shk q = true := List.all_eq_true.mp shk_all q (List.mem_of_getElem? h)
end FCU
