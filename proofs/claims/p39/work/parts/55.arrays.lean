/-! the law's own arrays, beside the cells of the class -/
section ARR
variable {p : Program} {l : Launch} {e : Env} {R : Room} {s : State} {m : MethodId} {args : Array Value} {below : List Frame} {meth : Method} {c : Code} {H : Heap} {locs : List Loc} {cells slots : Nat} {Q : State → Prop}
variable {D : va_G} {A : Nat → Prop} {ad adV : Nat → Nat} {cA : Nat → ClassId} {bc : ByteArray} {nL pc n q k : Nat} {ls : Array Slot} {rest : List Value} {σ : Sg} {X : va_W} {g : Nat → Int} {z v : Int}
/-- an array of the law's: ints, booleans -/
def aI (cA : Nat → ClassId) (t n : Nat) (g : Nat → Int) : va_E := .inl (cA t, n, .inl (fun i => iI (g i)))
theorem upd_zu {g : Nat → Int} {a : Nat} {v : Int} : upd (fun i => iI (g i)) a (iI v) = fun i => iI (zu g a v i) := by
  funext i
  unfold upd zu
  split <;> rfl
theorem lx_iald (F : FL D A ad adV cA p l s m args c bc nL) (hw : WV D A s (wO ad cA σ ++ X) H locs) (hk : X[k]? = some (q, aI cA 0 n g)) (hz : 0 ≤ z ∧ z < (n : Int)) (hn : n < 2 ^ 31) (hd : decode bc pc = .ok (.iaload, 1))
    (kk : W p l e R s m args below meth c H locs cells slots Q (F0 m (pc + 1) ls (.int (iI (g z.toNat)) :: rest))) : W p l e R s m args below meth c H locs cells slots Q (F0 m pc ls (.int (iI z) :: .ref q :: rest)) := by
  obtain ⟨h1, h2⟩ := iI_in hz hn
  refine va_iald F.1 F.2.1 F.2.2.2.2.2.1 hw.1 (21 + k) 0 (wOX_get hk) rfl h1 hd ?_
  rw [h2]
  exact kk
theorem lx_zald (F : FL D A ad adV cA p l s m args c bc nL) (hw : WV D A s (wO ad cA σ ++ X) H locs) (hk : X[k]? = some (q, aI cA 3 n g)) (hz : 0 ≤ z ∧ z < (n : Int)) (hn : n < 2 ^ 31) (hd : decode bc pc = .ok (.baload, 1))
    (kk : W p l e R s m args below meth c H locs cells slots Q (F0 m (pc + 1) ls (.int (iI (g z.toNat)) :: rest))) : W p l e R s m args below meth c H locs cells slots Q (F0 m pc ls (.int (iI z) :: .ref q :: rest)) := by
  obtain ⟨h1, h2⟩ := iI_in hz hn
  refine va_zald F.1 F.2.1 F.2.2.2.2.2.1 hw.1 (21 + k) 3 (wOX_get hk) rfl h1 hd ?_
  rw [h2]
  exact kk
theorem lx_iast (F : FL D A ad adV cA p l s m args c bc nL) (hw : WV D A s (wO ad cA σ ++ X) H locs) (hk : X[k]? = some (q, aI cA 0 n g)) (hz : 0 ≤ z ∧ z < (n : Int)) (hn : n < 2 ^ 31) (hd : decode bc pc = .ok (.iastore, 1))
    (kk : ∀ (H1 : Heap) (locs1 : List Loc), WV D A s (wO ad cA σ ++ X.set k (q, aI cA 0 n (zu g z.toNat v))) H1 locs1 → W p l e R s m args below meth c H1 locs1 cells slots Q (F0 m (pc + 1) ls rest)) : W p l e R s m args below meth c H locs cells slots Q (F0 m pc ls (.int (iI v) :: .int (iI z) :: .ref q :: rest)) := by
  obtain ⟨h1, h2⟩ := iI_in hz hn
  refine va_iast F.1 F.2.1 F.2.2.2.2.2.1 hw.1 hw.2.1 hw.2.2 (21 + k) 0 (wOX_get hk) rfl h1 hd (fun H1 locs1 a1 a2 a3 => ?_)
  rw [wOX_set, h2, upd_zu] at a1 a2
  exact kk H1 locs1 ⟨a1, a2, a3⟩
theorem lx_zast (F : FL D A ad adV cA p l s m args c bc nL) (hw : WV D A s (wO ad cA σ ++ X) H locs) (hk : X[k]? = some (q, aI cA 3 n g)) (hz : 0 ≤ z ∧ z < (n : Int)) (hn : n < 2 ^ 31) (hv : v = 0 ∨ v = 1) (hd : decode bc pc = .ok (.bastore, 1))
    (kk : ∀ (H1 : Heap) (locs1 : List Loc), WV D A s (wO ad cA σ ++ X.set k (q, aI cA 3 n (zu g z.toNat v))) H1 locs1 → W p l e R s m args below meth c H1 locs1 cells slots Q (F0 m (pc + 1) ls rest)) : W p l e R s m args below meth c H locs cells slots Q (F0 m pc ls (.int (iI v) :: .int (iI z) :: .ref q :: rest)) := by
  obtain ⟨h1, h2⟩ := iI_in hz hn
  have hb : vp_nar .boolean (iI v) = iI v := by rcases hv with rfl | rfl <;> decide
  refine va_zast F.1 F.2.1 F.2.2.2.2.2.1 hw.1 hw.2.1 hw.2.2 (21 + k) 3 (wOX_get hk) rfl h1 hd (fun H1 locs1 a1 a2 a3 => ?_)
  rw [wOX_set, h2, hb, upd_zu] at a1 a2
  exact kk H1 locs1 ⟨a1, a2, a3⟩
/-- a new array of an array type that is known has that class -/
theorem cA_same {t : Nat} {ty : FieldType} {c9 : ClassId} (hK : va_K D cls9 (tyL cA) s) (h0 : (tyL cA)[t]? = some (cA t, ty)) (hp : ∀ C, ty ≠ .object C) (h : va_K D cls9 (tyL cA ++ [(c9, ty)]) s) : c9 = cA t := by
  have h1 := (h.2 5 (c9, ty) rfl).2
  have h2 := (hK.2 t (cA t, ty) h0).2
  cases ty with
  | object C => exact absurd rfl (hp C)
  | _ => exact Option.some.inj ((show s.vm.findClass _ = some c9 from h1).symm.trans h2)
theorem lx_new {t : Nat} {ty : FieldType} {atype : ArrayType} {N : Nat} (F : FL D A ad adV cA p l s m args c bc nL) (hw : WV D A s (wO ad cA σ ++ X) H locs) (hz : z = (N : Int)) (hN : N ≤ 1000) (hty : newarray.typeOf atype = ty) (h0 : (tyL cA)[t]? = some (cA t, ty)) (hp : ty = .int ∨ ty = .boolean) (harr : Jvm.Cond.arrayClass ty ∈ lw_tbl)
    (hc : cells + 1 ≤ R.cells) (hs : slots + N ≤ R.slots) (hd : decode bc pc = .ok (.newarray atype, 2))
    (kk : ∀ (q : Nat) (H1 : Heap), WV D A s (wO ad cA σ ++ (X ++ [(q, aI cA t N (fun _ => 0))])) H1 locs → W p l e R s m args below meth c H1 locs (cells + 1) (slots + N) Q (F0 m (pc + 2) ls (.ref q :: rest))) : W p l e R s m args below meth c H locs cells slots Q (F0 m pc ls (.int (iI z) :: rest)) := by
  subst hz
  have h1 := iI_clamp (z := (N : Int)) ⟨by omega, by omega⟩
  have h2 := ts_of' F.2.2.2.2.1 harr (by rcases hp with rfl | rfl <;> rfl)
  rw [← hty] at h2
  refine va_newa (ty := ty) (N' := N) (a0 := (N, .inl (fun _ => 0))) F.1 F.2.1 h2 hty F.2.2.2.2.2.1 hw.1 hw.2.1 hw.2.2 F.2.2.2.2.2.2.2.1 (fun c9 => by rcases hp with rfl | rfl <;> rfl) h1.2 (by rw [h1.1]; omega) (by rcases hp with rfl | rfl <;> (show N * _ ≤ _; simp [componentBytes]; omega)) hc hs hd (fun q c9 H1 k1 k2 k3 k4 => ?_)
  have e9 := cA_same F.2.2.2.2.2.1 h0 (by rcases hp with rfl | rfl <;> (intro C h; cases h)) k1
  subst e9
  rw [List.append_assoc] at k2 k3
  exact kk q H1 ⟨k2, k3, k4⟩
end ARR
