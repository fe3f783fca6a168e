/-! what the machine over whole numbers answers, the small machine answers -/
section ZS
abbrev VV_inr (x : Int32) : VV := .inr x
def mapL (L : List (Option VZ)) : List (Option VV) := L.map (Option.map vz)
def mapF (f : FZ) : FS := (f.1, mapL f.2.1, f.2.2.1.map vz, sz f.2.2.2)
def mapR : RSZ → RS
  | .inl (v, τ) => .inl (v.map vz, sz τ)
  | .inr (E, τ) => .inr (E, sz τ)
section PZ
variable {is : List CI} {L : List (Option VZ)} {st : List VZ} {τ : SZ} {P : Option Prop} {d : FZ}
theorem mapL_at {k : Nat} {v : VZ} (h : L[k]? = some (some v)) : (mapL L)[k]? = some (some (vz v)) := by
  unfold mapL
  rw [List.getElem?_map, h]
  rfl
theorem ldIz_of {k : Nat} {v : VZ} (h : ldIz L k = some v) : ∃ x, v = .inr x ∧ ldI (mapL L) k = some (.inr (iI x)) := by
  unfold ldIz at h
  split at h
  next x hx => cases h; exact ⟨x, rfl, by unfold ldI; rw [mapL_at hx]; rfl⟩
  next => cases h
theorem ldAz_of {k : Nat} {v : VZ} (h : ldAz L k = some v) : ∃ x, v = .inl x ∧ ldA (mapL L) k = some (.inl x) := by
  unfold ldAz at h
  split at h
  next x hx => cases h; exact ⟨x, rfl, by unfold ldA; rw [mapL_at hx]; rfl⟩
  next => cases h
theorem pshz_of {o : Option VZ} (h : pshz is L st τ o = some (P, d)) : ∃ v, o = some v ∧ d = (is, L, v :: st, τ) := by
  unfold pshz at h
  split at h
  · cases h; exact ⟨_, rfl, rfl⟩
  · cases h
theorem stLz_of {k : Nat} {v : VZ} {L' : List (Option VZ)} (h : stLz L k v = some L') : stL (mapL L) k (vz v) = some (mapL L') := by
  unfold stLz at h
  unfold stL
  have hl : (mapL L).length = L.length := by unfold mapL; exact List.length_map _
  rw [hl]
  cases e : Nat.blt k L.length with
  | true =>
    rw [e] at h
    cases h
    show some _ = some _
    unfold mapL
    rw [List.map_set]
    rfl
  | false => rw [e] at h; cases h
theorem lclz_of {o : Option (List (Option VZ))} (h : lclz is st τ o = some (P, d)) : ∃ L', o = some L' ∧ d = (is, L', st, τ) := by
  unfold lclz at h
  split at h
  · cases h; exact ⟨_, rfl, rfl⟩
  · cases h
theorem binz_of {f : Int → Int → Int} {q : Int → Int → Option Prop} (h : binz is L τ f q st = some (P, d)) : ∃ y x st', st = .inr y :: .inr x :: st' ∧ P = q x y ∧ d = (is, L, .inr (f x y) :: st', τ) := by
  unfold binz at h
  split at h
  · cases h; exact ⟨_, _, _, rfl, rfl, rfl⟩
  · cases h
theorem stIz_of {k : Nat} (h : stIz is L τ k st = some (P, d)) : ∃ x st' L', st = .inr x :: st' ∧ stLz L k (.inr x) = some L' ∧ d = (is, L', st', τ) := by
  unfold stIz at h
  split at h
  · obtain ⟨L', h1, h2⟩ := lclz_of h; exact ⟨_, _, L', rfl, h1, h2⟩
  · cases h
theorem stAz_of {k : Nat} (h : stAz is L τ k st = some (P, d)) : ∃ x st' L', st = .inl x :: st' ∧ stLz L k (.inl x) = some L' ∧ d = (is, L', st', τ) := by
  unfold stAz at h
  split at h
  · obtain ⟨L', h1, h2⟩ := lclz_of h; exact ⟨_, _, L', rfl, h1, h2⟩
  · cases h
theorem incz_of {k : Nat} {n : Int} (h : incz is L st τ k n = some (P, d)) : ∃ x L', L[k]? = some (some (.inr x)) ∧ stLz L k (.inr (x + n)) = some L' ∧ d = (is, L', st, τ) := by
  unfold incz at h
  split at h
  next x hx => obtain ⟨L', h1, h2⟩ := lclz_of h; exact ⟨x, L', hx, h1, h2⟩
  next => cases h
theorem aldz_of {t0 : Nat} (h : aldz t0 is L τ st = some (P, d)) : ∃ x a st' n, st = .inr x :: .inl a :: st' ∧ SH[a]? = some (.inr (t0, n)) ∧ P = some (0 ≤ x ∧ x < (n : Int)) ∧ d = (is, L, .inr (τ a x.toNat) :: st', τ) := by
  unfold aldz at h
  split at h
  next x a st' =>
    split at h
    next t n hs =>
      cases e : Nat.beq t t0 with
      | true => rw [e] at h; cases Nat.eq_of_beq_eq_true e; cases h; exact ⟨x, a, st', n, rfl, hs, rfl, rfl⟩
      | false => rw [e] at h; cases h
    next => cases h
  next => cases h
theorem astz_of {t0 : Nat} (h : astz t0 is L τ st = some (P, d)) : ∃ v x a st' n, st = .inr v :: .inr x :: .inl a :: st' ∧ SH[a]? = some (.inr (t0, n)) ∧ P = some ((0 ≤ x ∧ x < (n : Int)) ∧ (t0 = 1 → 0 ≤ v ∧ v < 65536)) ∧ d = (is, L, st', zr τ a (zu (τ a) x.toNat v)) := by
  unfold astz at h
  split at h
  next v x a st' =>
    split at h
    next t n hs =>
      cases e : Nat.beq t t0 with
      | true => rw [e] at h; cases Nat.eq_of_beq_eq_true e; cases h; exact ⟨v, x, a, st', n, rfl, hs, rfl, rfl⟩
      | false => rw [e] at h; cases h
    next => cases h
  next => cases h
theorem lenz_of (h : lenz is L τ st = some (P, d)) : ∃ a st' t n, st = .inl a :: st' ∧ SH[a]? = some (.inr (t, n)) ∧ d = (is, L, .inr (n : Int) :: st', τ) := by
  unfold lenz at h
  split at h
  next a st' =>
    split at h
    next t n hs => cases h; exact ⟨a, st', t, n, rfl, hs, rfl⟩
    next => cases h
  next => cases h
theorem gfdz_of {f : Option (Nat × Nat × Bool × Nat)} (h : gfdz f is L τ st = some (P, d)) : ∃ a st' ci k b fs, st = .inl a :: st' ∧ f = some (ci, k, b) ∧ SH[a]? = some (.inl (ci, fs)) ∧ k < fs.length ∧ d = (is, L, fvz fs (τ a) k :: st', τ) := by
  unfold gfdz at h
  split at h
  next a st' =>
    split at h
    next ci k b cj fs hs =>
      cases e : (Nat.beq ci cj && Nat.blt k fs.length) with
      | true =>
        rw [e] at h
        rw [Bool.and_eq_true] at e
        cases Nat.eq_of_beq_eq_true e.1
        cases h
        exact ⟨a, st', ci, k, b, fs, rfl, rfl, hs, by simpa using e.2, rfl⟩
      | false => rw [e] at h; cases h
    next => cases h
  next => cases h
theorem pfdz_of {f : Option (Nat × Nat × Bool × Nat)} (h : pfdz f is L τ st = some (P, d)) : ∃ x a st' ci k b fs, st = .inr x :: .inl a :: st' ∧ f = some (ci, k, b) ∧ SH[a]? = some (.inl (ci, fs)) ∧ fs[k]? = some none ∧
    (((PTL.getD ci []).getD k 2 = 0) ∨ ((PTL.getD ci []).getD k 2 = 1 ∧ P = some (x = 0 ∨ x = 1))) ∧ d = (is, L, st', zr τ a (zu (τ a) k x)) := by
  unfold pfdz at h
  split at h
  next x a st' =>
    split at h
    next ci k b cj fs hs =>
      split at h
      next h1 h2 =>
        cases e : Nat.beq ci cj with
        | true => rw [e] at h; cases Nat.eq_of_beq_eq_true e; cases h; exact ⟨x, a, st', ci, k, b, fs, rfl, rfl, hs, h1, Or.inl h2, rfl⟩
        | false => rw [e] at h; cases h
      next h1 h2 =>
        cases e : Nat.beq ci cj with
        | true => rw [e] at h; cases Nat.eq_of_beq_eq_true e; cases h; exact ⟨x, a, st', ci, k, b, fs, rfl, rfl, hs, h1, Or.inr ⟨h2, rfl⟩, rfl⟩
        | false => rw [e] at h; cases h
      next => cases h
    next => cases h
  next => cases h
theorem cpyz_of (h : cpyz is L τ st = some (P, d)) : ∃ n dp b sp a st' n0 n1, st = .inr n :: .inr dp :: .inl b :: .inr sp :: .inl a :: st' ∧ SH[a]? = some (.inr (0, n0)) ∧ SH[b]? = some (.inr (0, n1)) ∧ Nat.ble st'.length 8 = true ∧ P = some (0 ≤ sp ∧ 0 ≤ dp ∧ 0 ≤ n ∧ sp + n ≤ (n0 : Int) ∧ dp + n ≤ (n1 : Int)) ∧ d = (is, L, st', zr τ b (zc (τ a) (τ b) sp.toNat dp.toNat n.toNat)) := by
  unfold cpyz at h
  split at h
  next n dp b sp a st' =>
    split at h
    next n0 n1 h0 h1 =>
      cases e : Nat.ble st'.length 8 with
      | true => rw [e] at h; cases h; exact ⟨n, dp, b, sp, a, st', n0, n1, rfl, h0, h1, e, rfl, rfl⟩
      | false => rw [e] at h; cases h
    next => cases h
  next => cases h
theorem mxmz_of {f : Int → Int → Int} (h : mxmz f is L τ st = some (P, d)) : ∃ y x st', st = .inr y :: .inr x :: st' ∧ Nat.ble st'.length 8 = true ∧ P = some (Rng x ∧ Rng y) ∧ d = (is, L, .inr (f x y) :: st', τ) := by
  unfold mxmz at h
  split at h
  next y x st' =>
    cases e : Nat.ble st'.length 8 with
    | true => rw [e] at h; cases h; exact ⟨y, x, st', rfl, e, rfl, rfl⟩
    | false => rw [e] at h; cases h
  next => cases h
theorem slez_of (h : slez is L τ st = some (P, d)) : ∃ a st', st = .inl a :: st' ∧ (Nat.ble 100 a && Nat.blt a 119 && Nat.ble st'.length 8) = true ∧ d = (is, L, .inr ((byS.getD (a - 100) []).length : Int) :: st', τ) := by
  unfold slez at h
  split at h
  next a st' =>
    cases e : (Nat.ble 100 a && Nat.blt a 119 && Nat.ble st'.length 8) with
    | true => rw [e] at h; cases h; exact ⟨a, st', rfl, e, rfl⟩
    | false => rw [e] at h; cases h
  next => cases h
theorem schz_of (h : schz is L τ st = some (P, d)) : ∃ x a st', st = .inr x :: .inl a :: st' ∧ (Nat.ble 100 a && Nat.blt a 119 && Nat.ble st'.length 8) = true ∧ P = some (0 ≤ x ∧ x < ((byS.getD (a - 100) []).length : Int)) ∧ d = (is, L, .inr ((byS.getD (a - 100) []).getD x.toNat 0).toInt :: st', τ) := by
  unfold schz at h
  split at h
  next x a st' =>
    cases e : (Nat.ble 100 a && Nat.blt a 119 && Nat.ble st'.length 8) with
    | true => rw [e] at h; cases h; exact ⟨x, a, st', rfl, e, rfl, rfl⟩
    | false => rw [e] at h; cases h
  next => cases h
theorem jmpz_of {i : Nat} {q : Option Prop} {z : Int} (h : jmpz i q z L st τ = some (P, d)) : ∃ t : Nat, z = (t : Int) ∧ P = q ∧ d = (seek t (mK i), L, st, τ) := by
  unfold jmpz at h
  split at h
  next t => cases h; exact ⟨t, rfl, rfl, rfl⟩
  next => cases h
theorem swz_of {i : Nat} {f : Int → Option Int} (h : swSz i L τ f st = some (P, d)) : ∃ x st' z, st = .inr x :: st' ∧ f x = some z ∧ jmpz i (some (Rng x)) z L st' τ = some (P, d) := by
  unfold swSz at h
  split at h
  next x st' =>
    split at h
    next z hz => exact ⟨x, st', z, rfl, hz, h⟩
    next => cases h
  next => cases h
end PZ
theorem b8_small : byS.all (fun l => Nat.blt l.length 100) = true := by decide +kernel
theorem len_small (q : Nat) : (byS.getD q []).length < 2 ^ 31 := by
  rcases Nat.lt_or_ge q byS.length with h | h
  · have := List.all_eq_true.mp b8_small _ (getD_mem (d := []) h)
    rw [Nat.blt_eq] at this
    omega
  · rw [List.getD_eq_getElem?_getD, List.getElem?_eq_none h]
    decide
theorem fvz_vz {fs : List (Option Nat)} {f : Nat → Int} {j : Nat} {τ : SZ} {a : Nat} (h : f = τ a) : vz (fvz fs f j) = fv fs (sz τ a) j := by
  subst h
  unfold fvz fv
  split
  next k hk => rw [hk]; rfl
  next hk =>
    split
    next k hk2 => exact absurd hk2 (hk k)
    next => rfl
theorem jmp_z {i t : Nat} {L : List (Option VZ)} {st : List VZ} {τ : SZ} {z : Int} (hz : z = (t : Int)) : jmp i z (mapL L) (st.map vz) (sz τ) = some (none, mapF (seek t (mK i), L, st, τ)) := by
  subst hz
  rfl
set_option maxHeartbeats 2000000 in
theorem nz_ok {i pc len : Nat} {ins : Instr} {is : List CI} {L : List (Option VZ)} {st : List VZ} {τ : SZ} {P : Option Prop} {d : FZ} (h : nxZ i pc is L st τ ins = some (P, d)) (hP : oP P) :
    ∃ P', nxI i pc is (mapL L) (st.map vz) (sz τ) ins = some (P', mapF d) ∧ oP P' := by
  cases ins with
  | iconst n => cases h; exact ⟨none, rfl, trivial⟩
  | bipush n =>
    cases e : (decide (-128 ≤ n) && decide (n < 128)) with
    | false => simp only [nxZ, e] at h; cases h
    | true =>
      simp only [nxZ, e] at h
      cases h
      rw [Bool.and_eq_true, decide_eq_true_eq, decide_eq_true_eq] at e
      refine ⟨none, ?_, trivial⟩
      have h1 : (Int8.ofInt n).toInt32 = iI n := by
        rw [← Int32.toInt_inj, iI_toInt ⟨by omega, by omega⟩, Int8.toInt_toInt32, Int8.toInt_ofInt]
        rw [Int.bmod_eq_of_le_mul_two] <;> simp [Int8.size] <;> omega
      show some (none, is, mapL L, VV_inr (Int8.ofInt n).toInt32 :: st.map vz, sz τ) = _
      rw [h1]
      rfl
  | sipush n =>
    cases e : (decide (-32768 ≤ n) && decide (n < 32768)) with
    | false => simp only [nxZ, e] at h; cases h
    | true =>
      simp only [nxZ, e] at h
      cases h
      rw [Bool.and_eq_true, decide_eq_true_eq, decide_eq_true_eq] at e
      refine ⟨none, ?_, trivial⟩
      have h1 : (Int16.ofInt n).toInt32 = iI n := by
        rw [← Int32.toInt_inj, iI_toInt ⟨by omega, by omega⟩, Int16.toInt_toInt32, Int16.toInt_ofInt]
        rw [Int.bmod_eq_of_le_mul_two] <;> simp [Int16.size] <;> omega
      show some (none, is, mapL L, VV_inr (Int16.ofInt n).toInt32 :: st.map vz, sz τ) = _
      rw [h1]
      rfl
  | iload_n k =>
    obtain ⟨v, h2, rfl⟩ := pshz_of h
    obtain ⟨x, rfl, h3⟩ := ldIz_of h2
    exact ⟨none, by simp only [nxI, h3, psh]; rfl, trivial⟩
  | iload k =>
    obtain ⟨v, h2, rfl⟩ := pshz_of h
    obtain ⟨x, rfl, h3⟩ := ldIz_of h2
    exact ⟨none, by simp only [nxI, h3, psh]; rfl, trivial⟩
  | aload_n k =>
    obtain ⟨v, h2, rfl⟩ := pshz_of h
    obtain ⟨x, rfl, h3⟩ := ldAz_of h2
    exact ⟨none, by simp only [nxI, h3, psh]; rfl, trivial⟩
  | aload k =>
    obtain ⟨v, h2, rfl⟩ := pshz_of h
    obtain ⟨x, rfl, h3⟩ := ldAz_of h2
    exact ⟨none, by simp only [nxI, h3, psh]; rfl, trivial⟩
  | istore_n k =>
    obtain ⟨x, st', L', rfl, h2, rfl⟩ := stIz_of h
    have h3 : stL (mapL L) k (.inr (iI x)) = some (mapL L') := stLz_of h2
    exact ⟨none, by simp only [nxI, List.map_cons, vz, stI, h3, lcl]; rfl, trivial⟩
  | istore k =>
    obtain ⟨x, st', L', rfl, h2, rfl⟩ := stIz_of h
    have h3 : stL (mapL L) k (.inr (iI x)) = some (mapL L') := stLz_of h2
    exact ⟨none, by simp only [nxI, List.map_cons, vz, stI, h3, lcl]; rfl, trivial⟩
  | astore_n k =>
    obtain ⟨x, st', L', rfl, h2, rfl⟩ := stAz_of h
    have h3 : stL (mapL L) k (.inl x) = some (mapL L') := stLz_of h2
    exact ⟨none, by simp only [nxI, List.map_cons, vz, stA, h3, lcl]; rfl, trivial⟩
  | astore k =>
    obtain ⟨x, st', L', rfl, h2, rfl⟩ := stAz_of h
    have h3 : stL (mapL L) k (.inl x) = some (mapL L') := stLz_of h2
    exact ⟨none, by simp only [nxI, List.map_cons, vz, stA, h3, lcl]; rfl, trivial⟩
  | iinc k n =>
    obtain ⟨x, L', h2, h4, rfl⟩ := incz_of h
    have h3 : stL (mapL L) k (.inr (iI x + Int32.ofInt n)) = some (mapL L') := by
      rw [show Int32.ofInt n = iI n from rfl, iI_add]
      exact stLz_of h4
    have h5 : (mapL L)[k]? = some (some (.inr (iI x))) := mapL_at h2
    exact ⟨none, by simp only [nxI, inc, h5, h3, lcl]; rfl, trivial⟩
  | iadd =>
    obtain ⟨y, x, st', rfl, rfl, rfl⟩ := binz_of h
    exact ⟨none, by show some (none, is, mapL L, VV_inr (iI x + iI y) :: st'.map vz, sz τ) = _; rw [iI_add]; rfl, trivial⟩
  | isub =>
    obtain ⟨y, x, st', rfl, rfl, rfl⟩ := binz_of h
    exact ⟨none, by show some (none, is, mapL L, VV_inr (iI x - iI y) :: st'.map vz, sz τ) = _; rw [iI_sub]; rfl, trivial⟩
  | imul =>
    obtain ⟨y, x, st', rfl, rfl, rfl⟩ := binz_of h
    exact ⟨none, by show some (none, is, mapL L, VV_inr (iI x * iI y) :: st'.map vz, sz τ) = _; rw [iI_mul]; rfl, trivial⟩
  | ixor =>
    obtain ⟨y, x, st', rfl, rfl, rfl⟩ := binz_of h
    have hP : y = -1 := hP
    subst hP
    exact ⟨none, by show some (none, is, mapL L, VV_inr (iI x ^^^ iI (-1)) :: st'.map vz, sz τ) = _; rw [iI_xor]; rfl, trivial⟩
  | idiv =>
    obtain ⟨y, x, st', rfl, rfl, rfl⟩ := binz_of h
    obtain ⟨q1, q2, q3⟩ := iI_div hP
    exact ⟨some (¬ iI y = 0), by show some (some (¬ iI y = 0), is, mapL L, VV_inr (iI x / iI y) :: st'.map vz, sz τ) = _; rw [q1]; rfl, q3⟩
  | irem =>
    obtain ⟨y, x, st', rfl, rfl, rfl⟩ := binz_of h
    obtain ⟨q1, q2, q3⟩ := iI_div hP
    exact ⟨some (¬ iI y = 0), by show some (some (¬ iI y = 0), is, mapL L, VV_inr (iI x - iI x / iI y * iI y) :: st'.map vz, sz τ) = _; rw [q2]; rfl, q3⟩
  | i2c =>
    match st, h with
    | .inr x :: st', h =>
      cases h
      obtain ⟨h1, h2⟩ := (hP : 0 ≤ x ∧ x < 65536)
      have h3 : (((iI x).toUInt32 % 65536).toInt32) = iI x := by
        rw [iI_nat h1, pk_char, pk_tn (by omega), Nat.mod_eq_of_lt (by omega)]
      exact ⟨none, by show some (none, is, mapL L, VV_inr ((iI x).toUInt32 % 65536).toInt32 :: st'.map vz, sz τ) = _; rw [h3]; rfl, trivial⟩
    | .inl x :: st', h => cases h
    | [], h => cases h
  | dup =>
    match st, h with
    | v :: st', h => cases h; exact ⟨none, rfl, trivial⟩
    | [], h => cases h
  | dup2 =>
    match st, h with
    | v :: w :: st', h => cases h; exact ⟨none, rfl, trivial⟩
    | [v], h => cases h
    | [], h => cases h
  | pop =>
    match st, h with
    | v :: st', h => cases h; exact ⟨none, rfl, trivial⟩
    | [], h => cases h
  | getfield x =>
    obtain ⟨a, st', ci, k, b, fs, rfl, hf, hsh, hk, rfl⟩ := gfdz_of h
    refine ⟨none, ?_, trivial⟩
    have h1 : (Nat.beq ci ci && Nat.blt k fs.length) = true := by
      rw [Bool.and_eq_true]
      exact ⟨Nat.beq_refl ci, by simpa using hk⟩
    simp only [nxI, List.map_cons, vz, gfdS, hf, hsh, h1, cond_true, ← fvz_vz rfl]
    rfl
  | putfield x =>
    obtain ⟨v, a, st', ci, k, b, fs, rfl, hf, hsh, hk, hpt, rfl⟩ := pfdz_of h
    have h1 : Nat.beq ci ci = true := Nat.beq_refl ci
    rcases hpt with h0 | ⟨h0, rfl⟩
    · refine ⟨none, ?_, trivial⟩
      simp only [nxI, List.map_cons, vz, pfdS, hf, hsh, hk, h0, h1, cond_true, sz_zr]
      rfl
    · refine ⟨some (iI v = 0 ∨ iI v = 1), ?_, ?_⟩
      · simp only [nxI, List.map_cons, vz, pfdS, hf, hsh, hk, h0, h1, cond_true, sz_zr]
        rfl
      · rcases (hP : v = 0 ∨ v = 1) with rfl | rfl
        · exact Or.inl rfl
        · exact Or.inr rfl
  | iaload =>
    obtain ⟨x, a, st', n, rfl, hsh, rfl, rfl⟩ := aldz_of h
    have hn := sh_fact hsh
    simp only [shk, Bool.and_eq_true, Nat.ble_eq] at hn
    obtain ⟨q1, q2⟩ := iI_in hP (by omega)
    refine ⟨some (vp_in (iI x) n), ?_, q1⟩
    have h1 : Nat.beq 0 0 = true := rfl
    simp only [nxI, List.map_cons, vz, aldS, hsh, h1, cond_true, q2]
    rfl
  | caload =>
    obtain ⟨x, a, st', n, rfl, hsh, rfl, rfl⟩ := aldz_of h
    have hn := sh_fact hsh
    simp only [shk, Bool.and_eq_true, Nat.ble_eq] at hn
    obtain ⟨q1, q2⟩ := iI_in hP (by omega)
    refine ⟨some (vp_in (iI x) n), ?_, q1⟩
    have h1 : Nat.beq 1 1 = true := rfl
    simp only [nxI, List.map_cons, vz, aldS, hsh, h1, cond_true, q2]
    rfl
  | iastore =>
    obtain ⟨v, x, a, st', n, rfl, hsh, rfl, rfl⟩ := astz_of h
    have hn := sh_fact hsh
    simp only [shk, Bool.and_eq_true, Nat.ble_eq] at hn
    obtain ⟨q1, q2⟩ := iI_in hP.1 (by omega)
    refine ⟨some (vp_in (iI x) n ∧ (0 = 1 → vp_nar .char (iI v) = iI v)), ?_, q1, fun h => by cases h⟩
    have h1 : Nat.beq 0 0 = true := rfl
    simp only [nxI, List.map_cons, vz, astS, hsh, h1, cond_true, q2, sz_zr]
    rfl
  | castore =>
    obtain ⟨v, x, a, st', n, rfl, hsh, rfl, rfl⟩ := astz_of h
    have hn := sh_fact hsh
    simp only [shk, Bool.and_eq_true, Nat.ble_eq] at hn
    obtain ⟨q1, q2⟩ := iI_in hP.1 (by omega)
    obtain ⟨v1, v2⟩ := hP.2 rfl
    refine ⟨some (vp_in (iI x) n ∧ (1 = 1 → vp_nar .char (iI v) = iI v)), ?_, q1, fun _ => ?_⟩
    · have h1 : Nat.beq 1 1 = true := rfl
      simp only [nxI, List.map_cons, vz, astS, hsh, h1, cond_true, q2, sz_zr]
      rfl
    · rw [iI_nat v1]
      unfold vp_nar
      rw [(pk_charN (by omega)).1]
  | arraylength =>
    obtain ⟨a, st', t, n, rfl, hsh, rfl⟩ := lenz_of h
    refine ⟨none, ?_, trivial⟩
    simp only [nxI, List.map_cons, vz, lenS, hsh]
    show some (none, is, mapL L, VV_inr (Int32.ofNat n) :: st'.map vz, sz τ) = some (none, is, mapL L, VV_inr (iI (n : Int)) :: st'.map vz, sz τ)
    rw [iI_nI]
    rfl
  | goto off =>
    obtain ⟨t, hz, rfl, rfl⟩ := jmpz_of h
    exact ⟨none, jmp_z hz, trivial⟩
  | tableswitch dd lo hii offs =>
    obtain ⟨x, st', z, rfl, hz, hj⟩ := swz_of h
    obtain ⟨t, hz2, rfl, rfl⟩ := jmpz_of hj
    refine ⟨none, ?_, trivial⟩
    have h1 : swT pc dd lo hii offs (iI x) = some z := by
      unfold swT
      rw [iI_toInt hP]
      exact hz
    simp only [nxI, List.map_cons, vz, swS, h1]
    exact jmp_z hz2
  | lookupswitch dd ps =>
    cases hg : ((ps.toList.zip (ps.toList.drop 1)).all (fun (a, next) => a.1 < next.1)) with
    | false =>
      simp only [nxZ, hg] at h
      cases h
    | true =>
      simp only [nxZ, hg] at h
      have h : swSz i L τ (swLz pc dd ps) st = some (P, d) := h
      obtain ⟨x, st', z, rfl, hz, hj⟩ := swz_of h
      obtain ⟨t, hz2, rfl, rfl⟩ := jmpz_of hj
      refine ⟨none, ?_, trivial⟩
      have h1 : swL pc dd ps (iI x) = some z := by
        unfold swL
        rw [iI_toInt hP]
        exact hz
      simp only [nxI, hg, cond_true, List.map_cons, vz, swS, h1]
      exact jmp_z hz2
  | invokestatic x =>
    have h : libSz (sT (mC i) x) is L st τ = some (P, d) := h
    unfold libSz at h
    split at h
    next pl hs =>
      obtain ⟨n, dp, b, sp, a, st', n0, n1, rfl, ha, hb1, h8, rfl, rfl⟩ := cpyz_of h
      obtain ⟨z1, z2, z3, z4, z5⟩ := hP
      have e1 := sh_fact ha
      have e2 := sh_fact hb1
      simp only [shk, Bool.and_eq_true, Nat.ble_eq] at e1 e2
      obtain ⟨a1, a2⟩ := iI_clamp (z := sp) ⟨z1, by omega⟩
      obtain ⟨b1, b2⟩ := iI_clamp (z := dp) ⟨z2, by omega⟩
      obtain ⟨c1, c2⟩ := iI_clamp (z := n) ⟨z3, by omega⟩
      refine ⟨some (cpyP n0 n1 (iI sp) (iI dp) (iI n)), ?_, a2, b2, c2, by rw [a1, c1]; omega, by rw [b1, c1]; omega⟩
      simp only [nxI, hs, libS, List.map_cons, vz, cpyS, ha, hb1, List.length_map, h8, cond_true, a1, b1, c1, sz_zc]
      rfl
    next pl hs =>
      obtain ⟨y, x', st', rfl, h8, rfl, rfl⟩ := mxmz_of h
      refine ⟨none, ?_, trivial⟩
      have h1 : (if iI x' < iI y then iI y else iI x') = iI (if x' < y then y else x') := by
        by_cases q : x' < y
        · rw [if_pos q, if_pos ((iI_lt hP.1 hP.2).mpr q)]
        · rw [if_neg q, if_neg (fun z => q ((iI_lt hP.1 hP.2).mp z))]
      simp only [nxI, hs, libS, List.map_cons, vz, mxmS, List.length_map, h8, cond_true, h1]
      rfl
    next pl hs =>
      obtain ⟨y, x', st', rfl, h8, rfl, rfl⟩ := mxmz_of h
      refine ⟨none, ?_, trivial⟩
      have h1 : (if iI y < iI x' then iI y else iI x') = iI (if y < x' then y else x') := by
        by_cases q : y < x'
        · rw [if_pos q, if_pos ((iI_lt hP.2 hP.1).mpr q)]
        · rw [if_neg q, if_neg (fun z => q ((iI_lt hP.2 hP.1).mp z))]
      simp only [nxI, hs, libS, List.map_cons, vz, mxmS, List.length_map, h8, cond_true, h1]
      rfl
    next => cases h
  | invokevirtual x =>
    have h : libVz (sT (mC i) x) is L st τ = some (P, d) := h
    unfold libVz at h
    split at h
    next pl hs =>
      obtain ⟨a, st', rfl, h8, rfl⟩ := slez_of h
      refine ⟨none, ?_, trivial⟩
      simp only [nxI, hs, libV, List.map_cons, vz, sleS, List.length_map, h8, cond_true]
      show some (none, is, mapL L, VV_inr (Int32.ofNat _) :: st'.map vz, sz τ) = some (none, is, mapL L, VV_inr (iI ((byS.getD (a - 100) []).length : Int)) :: st'.map vz, sz τ)
      rw [iI_nI]
      rfl
    next pl hs =>
      obtain ⟨x', a, st', rfl, h8, rfl, rfl⟩ := schz_of h
      obtain ⟨q1, q2⟩ := iI_in hP (len_small _)
      refine ⟨some (vp_in (iI x') (byS.getD (a - 100) []).length), ?_, q1⟩
      simp only [nxI, hs, libV, List.map_cons, vz, schS, List.length_map, h8, cond_true, q2]
      show some (_, is, mapL L, VV_inr _ :: st'.map vz, sz τ) = some (_, is, mapL L, VV_inr (iI ((byS.getD (a - 100) []).getD x'.toNat 0).toInt) :: st'.map vz, sz τ)
      unfold iI
      rw [Int32.ofInt_toInt]
    next => cases h
  | ldc x =>
    obtain ⟨v, h2, rfl⟩ := pshz_of h
    cases h3 : lT (mC i) x with
    | none => rw [h3] at h2; cases h2
    | some q =>
      rw [h3] at h2
      cases h2
      exact ⟨none, by simp only [nxI, h3, psh, Option.map_some]; rfl, trivial⟩
  | _ => cases h
end ZS
