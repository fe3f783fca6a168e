/-! the law's cases: what they stand on -/
section LWC
variable {p : Program} {l : Launch} {e : Env} {R : Room} {s : State} {m : MethodId} {args : Array Value} {below : List Frame} {meth : Method} {c : Code} {H : Heap} {locs : List Loc} {cells slots : Nat} {Q : State → Prop}
variable {D : va_G} {A : Nat → Prop} {ad adV : Nat → Nat} {cA : Nat → ClassId}
theorem d_thrown {τ : SZ} : RZ 2 m8_thrown [.inl 21] τ (.inl (some (.inr (τ 21 7)), τ)) := by
  refine Ex.call ?_ rfl rfl
  show Ex _ _ (cod m8_thrown 0, [some (.inl 21)], [], τ) _ _
  refine ex_k 2 (P := none) (g := (cod m8_thrown 2, [some (.inl 21)], [.inr (τ 21 7)], τ)) rfl trivial ?_
  exact ex_r rfl trivial rfl rfl
/-- a call of both, as the law sees it -/
theorem cal_rr {j j' : Nat} {as : List VZ} {as' : List VV} {Es : List String} {B : Int} {τ : SZ} (h : Cal j j' as Es B τ) (has : as.map vz = as') (hn : Es.Nodup) (h3 : Es.length ≤ 3) :
    ∃ (r : RS) (b : Int32) (τ1 : Sg) (τ2 : SZ), RR 12 j (.inl 0 :: as') (sz τ) r ∧ RE Es r ∧ RR 12 j' (.inl 21 :: as') τ1 (.inl (some (.inr b), sz τ2)) ∧ RR 12 m8_thrown [.inl 21] (sz τ2) (.inl (some (.inr (iI (τ2 21 7))), sz τ2)) ∧ WL (B + 200) τ2 ∧
      (∀ (X : va_W) (qo : Nat) (g : Int32 → Int64) (k : Int32) (W' : va_W), WG ad cA X qo g Es r k W' → ∃ fo', W' = wO ad cA τ1 ++ (qo, .inl (cA 2, 1, .inr (.inl fo'))) :: X ∧ iI (τ2 21 7) = k ∧ (k = 0 → fo' 0 = g b)) ∧ (Es = [] → r = .inl (some (.inr b), τ1)) := by
  obtain ⟨r, k, b, τ1, τ2, h1, h2, hk, h4, h5⟩ := h
  have r1 := RZ_ok _ _ _ _ _ h1
  have r2 := RZ_ok _ _ _ _ _ h2
  have r3 := RZ_ok _ _ _ _ _ (d_thrown (τ := τ2).mono (by decide : 2 ≤ 12))
  rw [List.map_cons, has] at r1 r2
  refine ⟨mapR r, iI b, sz τ1, τ2, r1, ?_, r2, r3, h5, ?_, ?_⟩
  · rcases hk with ⟨-, rfl⟩ | ⟨i, -, E, hE, rfl⟩
    · exact Or.inl ⟨_, _, rfl⟩
    · exact Or.inr ⟨i, E, _, rfl, hE⟩
  · intro X qo g k' W' hG
    rcases hk with ⟨rfl, rfl⟩ | ⟨i, rfl, E, hE, rfl⟩
    · rcases hG with ⟨v, τ', fo', e1, rfl, e3, rfl⟩ | ⟨i, E, τ', fo', e1, -⟩
      · cases e1
        exact ⟨fo', rfl, by rw [h4]; rfl, fun _ => e3⟩
      · cases e1
    · rcases hG with ⟨v, τ', fo', e1, -⟩ | ⟨i', E', τ', fo', e1, e2, rfl, rfl⟩
      · cases e1
      · cases e1
        have hi : i < Es.length := (List.getElem?_eq_some_iff.mp hE).1
        have hii : i = i' := (List.getElem?_inj hi hn).mp (hE.trans e2.symm)
        subst hii
        refine ⟨fo', rfl, ?_, fun e0 => ?_⟩
        · rw [h4]
          have := iI_nI (i + 1)
          rw [Int.natCast_add] at this
          exact this
        · have h9 := congrArg Int32.toInt e0
          rw [show (Int32.ofNat (i + 1)).toInt = ((i + 1 : Nat) : Int) from nI_toInt (by omega)] at h9
          have : (0 : Int32).toInt = 0 := by decide
          omega
  · intro hE
    subst hE
    rcases hk with ⟨-, rfl⟩ | ⟨i, -, E, hE, rfl⟩
    · rfl
    · cases hE
def zB (x : Int32) : Int32 := if x = 0 then 0 else 1
def zC (x : Int32) : Int32 := (x.toUInt32 % 65536).toInt32
theorem zB_cases (x : Int32) : (zB x).toInt = 0 ∨ (zB x).toInt = 1 := by
  unfold zB
  split
  · exact Or.inl (by decide)
  · exact Or.inr (by decide)
theorem rgT (x : Int32) : Rng x.toInt := ⟨Int32.le_toInt x, Int32.toInt_lt x⟩
theorem iT (x : Int32) : iI x.toInt = x := Int32.ofInt_toInt x
theorem vT1 (x : Int32) : vz (.inr x.toInt) = .inr x := by
  show Sum.inr (iI x.toInt) = _
  rw [iT]
theorem zCR (x : Int32) : 0 ≤ (zC x).toInt ∧ (zC x).toInt < 65536 := by
  have h : ∃ n : Nat, n < 65536 ∧ zC x = nI n := by
    refine ⟨(x.toUInt32 % 65536).toNat, ?_, ?_⟩
    · rw [UInt32.toNat_mod]
      exact Nat.mod_lt _ (by decide)
    · unfold zC nI
      apply Int32.toBitVec_inj.mp
      apply BitVec.eq_of_toNat_eq
      simp
      show x.toUInt32.toNat % 65536 = _
      omega
  obtain ⟨n, h1, h2⟩ := h
  rw [h2, nI_toInt (by omega)]
  omega
theorem ia1 (i : Nat) : nI i + 1 = nI (i + 1) := (nI_succ i).symm
theorem ia2 (i : Nat) : nI i + 2 = nI (i + 2) := by
  rw [show (2 : Int32) = 1 + 1 from rfl, ← Int32.add_assoc, ia1, ia1]
theorem ia3 (i : Nat) : nI i + 3 = nI (i + 3) := by
  rw [show (3 : Int32) = 2 + 1 from rfl, ← Int32.add_assoc, ia2, ia1]
theorem ia4 (i : Nat) : nI i + 4 = nI (i + 4) := by
  rw [show (4 : Int32) = 3 + 1 from rfl, ← Int32.add_assoc, ia3, ia1]
theorem ia5 (i : Nat) : nI i + 5 = nI (i + 5) := by
  rw [show (5 : Int32) = 4 + 1 from rfl, ← Int32.add_assoc, ia4, ia1]
theorem lbool {cc : ByteArray} {x : Int32} {pc t y : Nat} {off0 off1 : Int} {ls : Array Slot} {rest : List Value} (hx : p.tables.exec = Jvm.exec) (hb : c.code = cc) (h0 : decode cc pc = .ok (.ifCond .eq off0, 3)) (t0 : (pc : Int) + off0 = (t : Int)) (h1 : decode cc (pc + 3) = .ok (.iconst 1, 1)) (h2 : decode cc (pc + 3 + 1) = .ok (.goto off1, 3)) (t1 : ((pc + 3 + 1 : Nat) : Int) + off1 = (y : Int)) (h3 : decode cc t = .ok (.iconst 0, 1)) (e1 : t + 1 = y)
    (kk : W p l e R s m args below meth c H locs cells slots Q (F0 m y ls (.int (zB x) :: rest))) : W p l e R s m args below meth c H locs cells slots Q (F0 m pc ls (.int x :: rest)) := by
  unfold zB at kk
  refine lv_if_eq hx hb h0 t0 (fun hz => ?_) (fun hz => ?_)
  · rw [if_pos hz] at kk
    refine lv_iconst hx hb h3 (v := 0) rfl ?_
    rw [e1]
    exact kk
  · rw [if_neg hz] at kk
    refine lv_iconst hx hb h1 (v := 1) rfl ?_
    exact lv_goto hx hb h2 t1 kk
theorem gcmp {a b : Int64} (h : a = b) : lg_cmp a b = 0 := by subst h; simp [lg_cmp]
/-- what stands in the law's frame -/
def LF (D : va_G) (A : Nat → Prop) (ad adV : Nat → Nat) (cA : Nat → ClassId) (p : Program) (l : Launch) (s : State) (m : MethodId) (args : Array Value) (c : Code) (b L : Nat) (xs : Nat → Int32) : Prop :=
  p.tables.exec = Jvm.exec ∧ c.code = code ∧ c.maxLocals = 9 ∧ s.vm.findClass RL = some m.cls ∧ (∀ w ∈ TS, w.before args s = true) ∧ va_K D cls9 (tyL cA) s ∧ WX A ad adV s s.heap ∧ (∀ q, s.heap.size ≤ q → A q) ∧ NC s ∧ va_X b L xs s s.heap ∧ b < s.heap.size ∧ ¬ A b ∧ l.stackTraces = false
/-- the law's world: both sides, and its two arrays of one -/
abbrev LV (ad : Nat → Nat) (cA : Nat → ClassId) (qo qd : Nat) (σ : Sg) (fo : Nat → Int64) (fd : Nat → UInt64) : va_W := wO ad cA σ ++ [(qo, .inl (cA 2, 1, .inr (.inl fo))), (qd, .inl (cA 3, 1, .inr (.inr (.inr (.inl fd)))))]
end LWC
