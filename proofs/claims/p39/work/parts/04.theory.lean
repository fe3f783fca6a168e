/-! the small machine: a method's run over cells that hold ints, and its soundness: what a run answers, the method answers -/
section TH
def vv (ad : Nat → Nat) : VV → Value
  | .inl k => .ref (ad k)
  | .inr x => .int x
theorem vv_cat (ad : Nat → Nat) (v : VV) : (vv ad v).category = 1 := by cases v <;> rfl
theorem vv_sum (ad : Nat → Nat) : ∀ st : List VV, ((st.map (vv ad)).map fun v => v.category).sum = st.length
  | [] => rfl
  | v :: st => by
    rw [List.map_cons, List.map_cons, List.sum_cons, vv_cat, vv_sum ad st, List.length_cons]
    omega
def fv (fs : List (Option Nat)) (f : Nat → Int32) (j : Nat) : VV := match fs[j]? with
  | some (some k) => .inl k
  | _ => .inr (f j)
def ce (ad : Nat → Nat) (cA : Nat → ClassId) (f : Nat → Int32) : SHP → va_E
  | .inl (ci, fs) => .inr (ci, (List.range fs.length).map (fun j => vv ad (fv fs f j)))
  | .inr (t, n) => .inl (cA t, n, .inl f)
def wO (ad : Nat → Nat) (cA : Nat → ClassId) (σ : Sg) : va_W := (List.range SH.length).map (fun k => (ad k, ce ad cA (σ k) (SH.getD k (.inr (0, 0)))))
def sr (σ : Sg) (k : Nat) (f : Nat → Int32) : Sg := fun a => if a = k then f else σ a
theorem wO_get {ad : Nat → Nat} {cA : Nat → ClassId} {σ : Sg} {k : Nat} {q : SHP} (h : SH[k]? = some q) : (wO ad cA σ)[k]? = some (ad k, ce ad cA (σ k) q) := by
  have hk : k < SH.length := (List.getElem?_eq_some_iff.mp h).1
  unfold wO
  rw [List.getElem?_map, List.getElem?_range hk]
  show some (ad k, ce ad cA (σ k) (SH.getD k (.inr (0, 0)))) = _
  rw [List.getD_eq_getElem?_getD, h]
  rfl
theorem wO_len {ad : Nat → Nat} {cA : Nat → ClassId} {σ : Sg} : (wO ad cA σ).length = SH.length := by
  unfold wO
  rw [List.length_map, List.length_range]
theorem wO_set {ad : Nat → Nat} {cA : Nat → ClassId} {σ : Sg} {k : Nat} {q : SHP} {f : Nat → Int32} (h : SH[k]? = some q) : (wO ad cA σ).set k (ad k, ce ad cA f q) = wO ad cA (sr σ k f) := by
  have hk : k < SH.length := (List.getElem?_eq_some_iff.mp h).1
  refine List.ext_getElem? fun i => ?_
  by_cases e : i = k
  · subst e
    rw [List.getElem?_set_self (by rw [wO_len]; exact hk), wO_get h]
    simp [sr]
  · rw [List.getElem?_set_ne (Ne.symm e)]
    unfold wO
    rw [List.getElem?_map, List.getElem?_map]
    by_cases hi : i < SH.length
    · rw [List.getElem?_range hi]
      simp [sr, e]
    · rw [List.getElem?_eq_none (by simpa using hi)]
      rfl
theorem ce_put {ad : Nat → Nat} {fs : List (Option Nat)} {f : Nat → Int32} {j : Nat} {x : Int32} (h : fs[j]? = some none) :
    ((List.range fs.length).map (fun i => vv ad (fv fs f i))).set j (.int x) = (List.range fs.length).map (fun i => vv ad (fv fs (upd f j x) i)) := by
  have hj : j < fs.length := (List.getElem?_eq_some_iff.mp h).1
  refine List.ext_getElem? fun i => ?_
  by_cases e : i = j
  · subst e
    rw [List.getElem?_set_self (by simpa using hj), List.getElem?_map, List.getElem?_range hj]
    simp [fv, h, vv, upd]
  · rw [List.getElem?_set_ne (Ne.symm e), List.getElem?_map, List.getElem?_map]
    by_cases hi : i < fs.length
    · rw [List.getElem?_range hi]
      simp only [Option.map_some]
      congr 2
      unfold fv
      split
      · rfl
      · simp [upd, e]
    · rw [List.getElem?_eq_none (by simpa using hi)]
      rfl
theorem wO_D {ad : Nat → Nat} {cA : Nat → ClassId} {σ τ : Sg} {A : Nat → Prop} (h : va_D A (wO ad cA σ)) : va_D A (wO ad cA τ) := by
  have key : ∀ (i : Nat) (q : Nat × va_E), (wO ad cA τ)[i]? = some q → ∃ q', (wO ad cA σ)[i]? = some q' ∧ q'.1 = q.1 := by
    intro i q hq
    have hi : i < SH.length := by
      have := (List.getElem?_eq_some_iff.mp hq).1
      rw [wO_len] at this
      exact this
    have h0 : SH[i]? = some SH[i] := List.getElem?_eq_getElem hi
    rw [wO_get h0] at hq
    cases hq
    exact ⟨_, wO_get h0, rfl⟩
  refine ⟨fun i j p q hi hj e => ?_, fun i q hi => ?_⟩
  · obtain ⟨p', h1, e1⟩ := key i p hi
    obtain ⟨q', h2, e2⟩ := key j q hj
    exact h.1 i j p' q' h1 h2 (e1.trans (e.trans e2.symm))
  · obtain ⟨q', h1, e1⟩ := key i q hi
    rw [← e1]
    exact h.2 i q' h1
/-! ## the machine -/
def seek (pc : Nat) : List CI → List CI
  | [] => []
  | e :: l => cond (Nat.beq e.1 pc) (e :: l) (seek pc l)
abbrev FS : Type := List CI × List (Option VV) × List VV × Sg
abbrev RS : Type := (Option VV × Sg) ⊕ (String × Sg)
def ldI (L : List (Option VV)) (k : Nat) : Option VV := match L[k]? with
  | some (some (.inr x)) => some (.inr x)
  | _ => none
def ldA (L : List (Option VV)) (k : Nat) : Option VV := match L[k]? with
  | some (some (.inl x)) => some (.inl x)
  | _ => none
def stL (L : List (Option VV)) (k : Nat) (v : VV) : Option (List (Option VV)) := cond (Nat.blt k L.length) (some (L.set k (some v))) none
abbrev NXT : Type := Option (Option Prop × FS)
def psh (is : List CI) (L : List (Option VV)) (st : List VV) (σ : Sg) : Option VV → NXT
  | some v => some (none, is, L, v :: st, σ)
  | none => none
def lcl (is : List CI) (st : List VV) (σ : Sg) : Option (List (Option VV)) → NXT
  | some L => some (none, is, L, st, σ)
  | none => none
def bin (is : List CI) (L : List (Option VV)) (σ : Sg) (f : Int32 → Int32 → Int32) (P : Int32 → Option Prop) : List VV → NXT
  | .inr y :: .inr x :: st => some (P y, is, L, .inr (f x y) :: st, σ)
  | _ => none
def stI (is : List CI) (L : List (Option VV)) (σ : Sg) (k : Nat) : List VV → NXT
  | .inr x :: st => lcl is st σ (stL L k (.inr x))
  | _ => none
def stA (is : List CI) (L : List (Option VV)) (σ : Sg) (k : Nat) : List VV → NXT
  | .inl x :: st => lcl is st σ (stL L k (.inl x))
  | _ => none
def inc (is : List CI) (L : List (Option VV)) (st : List VV) (σ : Sg) (k : Nat) (n : Int) : NXT := match L[k]? with
  | some (some (.inr x)) => lcl is st σ (stL L k (.inr (x + Int32.ofInt n)))
  | _ => none
def aldS (t0 : Nat) (is : List CI) (L : List (Option VV)) (σ : Sg) : List VV → NXT
  | .inr x :: .inl a :: st => match SH[a]? with
    | some (.inr (t, n)) => cond (Nat.beq t t0) (some (some (vp_in x n), is, L, .inr (σ a x.toNatClampNeg) :: st, σ)) none
    | _ => none
  | _ => none
def astS (t0 : Nat) (is : List CI) (L : List (Option VV)) (σ : Sg) : List VV → NXT
  | .inr v :: .inr x :: .inl a :: st => match SH[a]? with
    | some (.inr (t, n)) => cond (Nat.beq t t0) (some (some (vp_in x n ∧ (t0 = 1 → vp_nar .char v = v)), is, L, st, sr σ a (upd (σ a) x.toNatClampNeg v))) none
    | _ => none
  | _ => none
def lenS (is : List CI) (L : List (Option VV)) (σ : Sg) : List VV → NXT
  | .inl a :: st => match SH[a]? with
    | some (.inr (_, n)) => some (none, is, L, .inr (Int32.ofNat n) :: st, σ)
    | _ => none
  | _ => none
def gfdS (f : Option (Nat × Nat × Bool × Nat)) (is : List CI) (L : List (Option VV)) (σ : Sg) : List VV → NXT
  | .inl a :: st => match f, SH[a]? with
    | some (ci, k, _), some (.inl (cj, fs)) => cond (Nat.beq ci cj && Nat.blt k fs.length) (some (none, is, L, fv fs (σ a) k :: st, σ)) none
    | _, _ => none
  | _ => none
def pfdS (f : Option (Nat × Nat × Bool × Nat)) (is : List CI) (L : List (Option VV)) (σ : Sg) : List VV → NXT
  | .inr x :: .inl a :: st => match f, SH[a]? with
    | some (ci, k, _), some (.inl (cj, fs)) => match fs[k]?, (PTL.getD ci []).getD k 2 with
      | some none, 0 => cond (Nat.beq ci cj) (some (none, is, L, st, sr σ a (upd (σ a) k x))) none
      | some none, 1 => cond (Nat.beq ci cj) (some (some (x = 0 ∨ x = 1), is, L, st, sr σ a (upd (σ a) k x))) none
      | _, _ => none
    | _, _ => none
  | _ => none
def cpyP (n0 n1 : Nat) (sp dp n : Int32) : Prop := ¬ sp < 0 ∧ ¬ dp < 0 ∧ ¬ n < 0 ∧ sp.toNatClampNeg + n.toNatClampNeg ≤ n0 ∧ dp.toNatClampNeg + n.toNatClampNeg ≤ n1
def cpyS (is : List CI) (L : List (Option VV)) (σ : Sg) : List VV → NXT
  | .inr n :: .inr dp :: .inl b :: .inr sp :: .inl a :: st => match SH[a]?, SH[b]? with
    | some (.inr (0, n0)), some (.inr (0, n1)) => cond (Nat.ble st.length 8) (some (some (cpyP n0 n1 sp dp n), is, L, st, sr σ b (va_cpy (σ a) (σ b) sp.toNatClampNeg dp.toNatClampNeg n.toNatClampNeg))) none
    | _, _ => none
  | _ => none
def mxmS (f : Int32 → Int32 → Int32) (is : List CI) (L : List (Option VV)) (σ : Sg) : List VV → NXT
  | .inr y :: .inr x :: st => cond (Nat.ble st.length 8) (some (none, is, L, .inr (f x y) :: st, σ)) none
  | _ => none
def sleS (is : List CI) (L : List (Option VV)) (σ : Sg) : List VV → NXT
  | .inl a :: st => cond (Nat.ble 100 a && Nat.blt a 119 && Nat.ble st.length 8) (some (none, is, L, .inr (Int32.ofNat (byS.getD (a - 100) []).length) :: st, σ)) none
  | _ => none
def schS (is : List CI) (L : List (Option VV)) (σ : Sg) : List VV → NXT
  | .inr x :: .inl a :: st => cond (Nat.ble 100 a && Nat.blt a 119 && Nat.ble st.length 8) (some (some (vp_in x (byS.getD (a - 100) []).length), is, L, .inr ((byS.getD (a - 100) []).getD x.toNatClampNeg 0) :: st, σ)) none
  | _ => none
def libS (k : Option (Nat × Nat)) (is : List CI) (L : List (Option VV)) (st : List VV) (σ : Sg) : NXT := match k with
  | some (0, _) => cpyS is L σ st
  | some (1, _) => mxmS (fun x y => if x < y then y else x) is L σ st
  | some (2, _) => mxmS (fun x y => if y < x then y else x) is L σ st
  | _ => none
def libV (k : Option (Nat × Nat)) (is : List CI) (L : List (Option VV)) (st : List VV) (σ : Sg) : NXT := match k with
  | some (3, _) => sleS is L σ st
  | some (4, _) => schS is L σ st
  | _ => none
def jmp (i : Nat) (z : Int) (L : List (Option VV)) (st : List VV) (σ : Sg) : NXT := match z with
  | .ofNat t => some (none, seek t (mK i), L, st, σ)
  | .negSucc _ => none
def swT (pc : Nat) (dflt lo hi : Int) (offs : Array Int) (x : Int32) : Option Int :=
  if x.toInt < lo ∨ hi < x.toInt then some ((pc : Int) + dflt) else match offs[(x.toInt - lo).toNat]? with
    | some off => some ((pc : Int) + off)
    | none => none
def swL (pc : Nat) (dflt : Int) (ps : Array (Int × Int)) (x : Int32) : Option Int := some ((pc : Int) + Op.lookupswitch.offset ps.toList dflt x.toInt)
def swS (i : Nat) (L : List (Option VV)) (σ : Sg) (f : Int32 → Option Int) : List VV → NXT
  | .inr x :: st => match f x with
    | some z => jmp i z L st σ
    | none => none
  | _ => none
/-- one instruction that neither branches, calls, returns nor throws; with what must hold for it -/
def nxI (i : Nat) (pc : Nat) (is : List CI) (L : List (Option VV)) (st : List VV) (σ : Sg) : Instr → NXT
  | .iconst n => some (none, is, L, .inr (Int32.ofInt n) :: st, σ)
  | .bipush n => some (none, is, L, .inr (Int8.ofInt n).toInt32 :: st, σ)
  | .sipush n => some (none, is, L, .inr (Int16.ofInt n).toInt32 :: st, σ)
  | .iload_n k => psh is L st σ (ldI L k)
  | .iload k => psh is L st σ (ldI L k)
  | .aload_n k => psh is L st σ (ldA L k)
  | .aload k => psh is L st σ (ldA L k)
  | .istore_n k => stI is L σ k st
  | .istore k => stI is L σ k st
  | .iinc k n => inc is L st σ k n
  | .iadd => bin is L σ (fun x y => x + y) (fun _ => none) st
  | .isub => bin is L σ (fun x y => x - y) (fun _ => none) st
  | .imul => bin is L σ (fun x y => x * y) (fun _ => none) st
  | .ixor => bin is L σ (fun x y => x ^^^ y) (fun _ => none) st
  | .idiv => bin is L σ (fun x y => x / y) (fun y => some (¬ y = 0)) st
  | .irem => bin is L σ (fun x y => x - x / y * y) (fun y => some (¬ y = 0)) st
  | .i2c => match st with
    | .inr x :: st => some (none, is, L, .inr (x.toUInt32 % 65536).toInt32 :: st, σ)
    | _ => none
  | .dup => match st with
    | v :: st => some (none, is, L, v :: v :: st, σ)
    | _ => none
  | .dup2 => match st with
    | v :: w :: st => some (none, is, L, v :: w :: v :: w :: st, σ)
    | _ => none
  | .pop => match st with
    | _ :: st => some (none, is, L, st, σ)
    | _ => none
  | .getfield x => gfdS (fT (mC i) x) is L σ st
  | .putfield x => pfdS (fT (mC i) x) is L σ st
  | .iaload => aldS 0 is L σ st
  | .caload => aldS 1 is L σ st
  | .iastore => astS 0 is L σ st
  | .castore => astS 1 is L σ st
  | .arraylength => lenS is L σ st
  | .goto off => jmp i ((pc : Int) + off) L st σ
  | .tableswitch d lo hi offs => swS i L σ (swT pc d lo hi offs) st
  | .lookupswitch d ps => cond ((ps.toList.zip (ps.toList.drop 1)).all (fun (a, next) => a.1 < next.1)) (swS i L σ (swL pc d ps) st) none
  | .invokestatic x => libS (sT (mC i) x) is L st σ
  | .invokevirtual x => libV (sT (mC i) x) is L st σ
  | .ldc x => psh is L st σ ((lT (mC i) x).map (fun q => .inl (100 + q)))
  | .astore_n k => stA is L σ k st
  | .astore k => stA is L σ k st
  | _ => none
def nx (i : Nat) : FS → NXT
  | ((pc, ins, _) :: is, L, st, σ) => nxI i pc is L st σ ins
  | _ => none
/-- a branch: its condition, where it goes -/
def brC : Jvm.ClassFile.Cond → Int32 → Int32 → Prop
  | .eq, x, y => x = y
  | .ne, x, y => ¬ x = y
  | .lt, x, y => x < y
  | .ge, x, y => y ≤ x
  | .gt, x, y => y < x
  | .le, x, y => x ≤ y
def br (i : Nat) : FS → Option (Prop × FS × FS)
  | ((pc, .ifCond c off, _) :: is, L, .inr x :: st, σ) => match (pc : Int) + off with
    | .ofNat t => some (brC c x 0, (seek t (mK i), L, st, σ), (is, L, st, σ))
    | .negSucc _ => none
  | ((pc, .if_icmp c off, _) :: is, L, .inr y :: .inr x :: st, σ) => match (pc : Int) + off with
    | .ofNat t => some (brC c x y, (seek t (mK i), L, st, σ), (is, L, st, σ))
    | .negSucc _ => none
  | _ => none
/-- a return -/
def fin : FS → Option (Option VV)
  | ((_, .ireturn, _) :: _, _, [.inr v], _) => some (some (.inr v))
  | ((_, .areturn, _) :: _, _, [.inl v], _) => some (some (.inl v))
  | ((_, .return_, _) :: _, _, [], _) => some none
  | _ => none
def retOk (ret : Option FieldType) : Option VV → Prop
  | none => ret = none
  | some (.inr v) => ∃ ty, ret = some ty ∧ narrow ty (.int v) = .int v
  | some (.inl _) => ∃ n, ret = some (.object n)
/-- a throw of a new exception -/
def thr (i : Nat) : FS → Option String
  | ((_, .new ik, 3) :: (_, .dup, 1) :: (_, .invokespecial ic, 3) :: (_, .athrow, 1) :: _, _, st, _) => match xT (mC i) ik with
    | some (jc, E, _) => cond (Nat.beq ic jc && Nat.ble st.length 8) (some E) none
    | none => none
  | _ => none
/-- a call: the method, its arguments, what stands behind it -/
def cll (i : Nat) : FS → Option (Nat × List VV × FS)
  | ((_, .invokevirtual x, _) :: is, L, st, σ) => match vT (mC i) x with
    | some (j, _) => match st.drop (mN j) with
      | .inl a :: rest => match SH[a]? with
        | some (.inl (ci, _)) => cond (Nat.beq ci (mC j) && (!(mS j) && (Nat.beq (st.take (mN j)).length (mN j) && Nat.ble rest.length 8))) (some (j, .inl a :: (st.take (mN j)).reverse, (is, L, rest, σ))) none
        | _ => none
      | _ => none
    | none => none
  | ((_, .invokestatic x, _) :: is, L, st, σ) => match vT (mC i) x with
    | some (j, _) => cond (mS j && (Nat.beq (st.take (mN j)).length (mN j) && Nat.ble (st.drop (mN j)).length 8)) (some (j, (st.take (mN j)).reverse, (is, L, st.drop (mN j), σ))) none
    | none => none
  | _ => none
def oP : Option Prop → Prop
  | none => True
  | some p => p
def oand : Option Prop → Option Prop → Option Prop
  | none, q => q
  | some p, none => some p
  | some p, some q => some (p ∧ q)
theorem oand_iff {p q : Option Prop} : oP (oand p q) ↔ oP p ∧ oP q := by cases p <;> cases q <;> simp [oand, oP]
def Run (cal : Nat → List VV → Sg → RS → Prop) (i : Nat) : Nat → FS → Nat → RS → Prop
  | 0, _, _, _ => False
  | n + 1, c, u, r =>
    (∃ P c', nx i c = some (P, c') ∧ oP P ∧ Run cal i n c' u r) ∨
    (∃ P ct cf, br i c = some (P, ct, cf) ∧ ((P ∧ Run cal i n ct u r) ∨ (¬ P ∧ Run cal i n cf u r))) ∨
    (∃ v, fin c = some v ∧ retOk (mR i) v ∧ u ≤ mX i ∧ r = .inl (v, c.2.2.2)) ∨
    (∃ E, thr i c = some E ∧ u + 1 ≤ mX i ∧ r = .inr (E, c.2.2.2)) ∨
    (∃ j as is L st σ, cll i c = some (j, as, (is, L, st, σ)) ∧ u + mX j ≤ mX i ∧ ∃ rj, cal j as σ rj ∧
      ((∃ v σ', rj = .inl (v, σ') ∧ Run cal i n (is, L, v.toList ++ st, σ') (u + mX j) r) ∨ (∃ E σ', rj = .inr (E, σ') ∧ r = .inr (E, σ'))))
def ini (i : Nat) (as : List VV) : List (Option VV) := as.map some ++ List.replicate (mL i - as.length) none
def RR : Nat → Nat → List VV → Sg → RS → Prop
  | 0, _, _, _, _ => False
  | d + 1, i, as, σ, r => i < NM ∧ as.length ≤ mL i ∧ ∃ n, Run (RR d) i n (mK i, ini i as, [], σ) 0 r
end TH
