/-! the small machine over whole numbers: a value z stands for the int 'iI z' -/
section ZM
def iI (z : Int) : Int32 := Int32.ofInt z
def Rng (z : Int) : Prop := -2147483648 ≤ z ∧ z < 2147483648
theorem iI_add (a b : Int) : iI a + iI b = iI (a + b) := (Int32.ofInt_add a b).symm
theorem iI_sub (a b : Int) : iI a - iI b = iI (a - b) := (Int32.ofInt_sub a b).symm
theorem iI_mul (a b : Int) : iI a * iI b = iI (a * b) := (Int32.ofInt_mul a b).symm
theorem iI_toInt {z : Int} (h : Rng z) : (iI z).toInt = z := by
  unfold iI
  rw [Int32.toInt_ofInt]
  have h1 := h.1
  have h2 := h.2
  rw [Int.bmod_eq_of_le_mul_two] <;> simp [Int32.size] <;> omega
theorem iI_nI (n : Nat) : iI (n : Int) = nI n := by
  unfold iI nI
  first
    | rfl
    | exact Int32.ofInt_eq_ofNat
    | (apply Int32.toBitVec_inj.mp; simp)
theorem iI_nat {z : Int} (h : 0 ≤ z) : iI z = nI z.toNat := by
  rw [← iI_nI, Int.toNat_of_nonneg h]
theorem iI_lt {a b : Int} (ha : Rng a) (hb : Rng b) : iI a < iI b ↔ a < b := by rw [Int32.lt_iff_toInt_lt, iI_toInt ha, iI_toInt hb]
theorem iI_le {a b : Int} (ha : Rng a) (hb : Rng b) : iI a ≤ iI b ↔ a ≤ b := by rw [Int32.le_iff_toInt_le, iI_toInt ha, iI_toInt hb]
theorem iI_eq {a b : Int} (ha : Rng a) (hb : Rng b) : iI a = iI b ↔ a = b := by rw [← Int32.toInt_inj, iI_toInt ha, iI_toInt hb]
theorem iI_div {a b : Int} (h : 0 ≤ a ∧ a < 2147483648 ∧ 0 < b ∧ b < 2147483648) : iI a / iI b = iI (a / b) ∧ iI a - iI a / iI b * iI b = iI (a % b) ∧ ¬ iI b = 0 := by
  obtain ⟨h1, h2, h3, h4⟩ := h
  obtain ⟨x, rfl⟩ := Int.eq_ofNat_of_zero_le h1
  obtain ⟨y, rfl⟩ := Int.eq_ofNat_of_zero_le (Int.le_of_lt h3)
  rw [iI_nI, iI_nI, pk_div (by omega) (by omega) (by omega), ← pk_div (a := x) (d := y) (by omega) (by omega) (by omega), pk_rem (by omega) (by omega) (by omega), pk_div (by omega) (by omega) (by omega)]
  refine ⟨?_, ?_, nI_ne0 (by omega) (by omega)⟩
  · rw [← iI_nI]; rfl
  · rw [← iI_nI]; rfl
theorem iI_xor (a : Int) : iI a ^^^ iI (-1) = iI (-a - 1) := by
  have h1 : iI (-1) = -1 := by decide
  rw [h1]
  have h2 : ∀ x : Int32, x ^^^ (-1) = -x - 1 := by
    intro x
    apply Int32.toBitVec_inj.mp
    have h3 : ∀ x : BitVec 32, x ^^^ (-1#32) = -x - 1#32 := by
      intro x
      have h4 : (-1#32) = BitVec.allOnes 32 := by decide
      rw [h4, BitVec.xor_allOnes, BitVec.not_eq_neg_add]
    exact h3 x.toBitVec
  rw [h2]
  have h5 : (1 : Int32) = iI 1 := by decide
  have h6 : - iI a = iI (-a) := (Int32.ofInt_neg a).symm
  rw [h5, h6, iI_sub]
theorem iI_in {z : Int} {n : Nat} (h : 0 ≤ z ∧ z < n) (hn : n < 2 ^ 31) : vp_in (iI z) n ∧ (iI z).toNatClampNeg = z.toNat := by
  rw [iI_nat h.1]
  exact ⟨vp_in_nI (by omega) hn, nI_clamp (by omega)⟩
theorem iI_clamp {z : Int} (h : 0 ≤ z ∧ z < 2147483648) : (iI z).toNatClampNeg = z.toNat ∧ ¬ iI z < 0 := by
  rw [iI_nat h.1]
  exact ⟨nI_clamp (by omega), nI_pos (by omega)⟩
abbrev VZ : Type := Nat ⊕ Int
abbrev SZ : Type := Nat → Nat → Int
abbrev FZ : Type := List CI × List (Option VZ) × List VZ × SZ
abbrev RSZ : Type := (Option VZ × SZ) ⊕ (String × SZ)
abbrev NXZ : Type := Option (Option Prop × FZ)
def vz : VZ → VV
  | .inl k => .inl k
  | .inr z => .inr (iI z)
def sz (τ : SZ) : Sg := fun a k => iI (τ a k)
def zu (f : Nat → Int) (k : Nat) (x : Int) : Nat → Int := fun j => if j = k then x else f j
def zr (τ : SZ) (a : Nat) (f : Nat → Int) : SZ := fun b => if b = a then f else τ b
def zc (f g : Nat → Int) (sp dp n : Nat) : Nat → Int := fun k => if dp ≤ k ∧ k < dp + n then f (sp + (k - dp)) else g k
theorem sz_zr {τ : SZ} {a k : Nat} {x : Int} : sr (sz τ) a (upd (sz τ a) k (iI x)) = sz (zr τ a (zu (τ a) k x)) := by
  funext b j
  unfold sr sz zr zu upd
  by_cases h : b = a
  · simp only [h, if_true]
    by_cases h2 : j = k
    · simp only [h2, if_true]
    · simp only [h2, if_false]
  · simp only [h, if_false]
theorem sz_zc {τ : SZ} {a b sp dp n : Nat} : sr (sz τ) b (va_cpy (sz τ a) (sz τ b) sp dp n) = sz (zr τ b (zc (τ a) (τ b) sp dp n)) := by
  funext c j
  unfold sr sz zr zc
  by_cases h : c = b
  · simp only [h, if_true]
    by_cases h2 : dp ≤ j ∧ j < dp + n
    · rw [pk_cpy_in h2.1 h2.2, if_pos h2]
    · rw [pk_cpy_out (by omega), if_neg h2]
  · simp only [h, if_false]
def ldIz (L : List (Option VZ)) (k : Nat) : Option VZ := match L[k]? with
  | some (some (.inr x)) => some (.inr x)
  | _ => none
def ldAz (L : List (Option VZ)) (k : Nat) : Option VZ := match L[k]? with
  | some (some (.inl x)) => some (.inl x)
  | _ => none
def stLz (L : List (Option VZ)) (k : Nat) (v : VZ) : Option (List (Option VZ)) := cond (Nat.blt k L.length) (some (L.set k (some v))) none
def pshz (is : List CI) (L : List (Option VZ)) (st : List VZ) (τ : SZ) : Option VZ → NXZ
  | some v => some (none, is, L, v :: st, τ)
  | none => none
def lclz (is : List CI) (st : List VZ) (τ : SZ) : Option (List (Option VZ)) → NXZ
  | some L => some (none, is, L, st, τ)
  | none => none
def binz (is : List CI) (L : List (Option VZ)) (τ : SZ) (f : Int → Int → Int) (P : Int → Int → Option Prop) : List VZ → NXZ
  | .inr y :: .inr x :: st => some (P x y, is, L, .inr (f x y) :: st, τ)
  | _ => none
def stIz (is : List CI) (L : List (Option VZ)) (τ : SZ) (k : Nat) : List VZ → NXZ
  | .inr x :: st => lclz is st τ (stLz L k (.inr x))
  | _ => none
def stAz (is : List CI) (L : List (Option VZ)) (τ : SZ) (k : Nat) : List VZ → NXZ
  | .inl x :: st => lclz is st τ (stLz L k (.inl x))
  | _ => none
def incz (is : List CI) (L : List (Option VZ)) (st : List VZ) (τ : SZ) (k : Nat) (n : Int) : NXZ := match L[k]? with
  | some (some (.inr x)) => lclz is st τ (stLz L k (.inr (x + n)))
  | _ => none
def aldz (t0 : Nat) (is : List CI) (L : List (Option VZ)) (τ : SZ) : List VZ → NXZ
  | .inr x :: .inl a :: st => match SH[a]? with
    | some (.inr (t, n)) => cond (Nat.beq t t0) (some (some (0 ≤ x ∧ x < (n : Int)), is, L, .inr (τ a x.toNat) :: st, τ)) none
    | _ => none
  | _ => none
def astz (t0 : Nat) (is : List CI) (L : List (Option VZ)) (τ : SZ) : List VZ → NXZ
  | .inr v :: .inr x :: .inl a :: st => match SH[a]? with
    | some (.inr (t, n)) => cond (Nat.beq t t0) (some (some ((0 ≤ x ∧ x < (n : Int)) ∧ (t0 = 1 → 0 ≤ v ∧ v < 65536)), is, L, st, zr τ a (zu (τ a) x.toNat v))) none
    | _ => none
  | _ => none
def lenz (is : List CI) (L : List (Option VZ)) (τ : SZ) : List VZ → NXZ
  | .inl a :: st => match SH[a]? with
    | some (.inr (_, n)) => some (none, is, L, .inr (n : Int) :: st, τ)
    | _ => none
  | _ => none
def fvz (fs : List (Option Nat)) (f : Nat → Int) (j : Nat) : VZ := match fs[j]? with
  | some (some k) => .inl k
  | _ => .inr (f j)
def gfdz (f : Option (Nat × Nat × Bool × Nat)) (is : List CI) (L : List (Option VZ)) (τ : SZ) : List VZ → NXZ
  | .inl a :: st => match f, SH[a]? with
    | some (ci, k, _), some (.inl (cj, fs)) => cond (Nat.beq ci cj && Nat.blt k fs.length) (some (none, is, L, fvz fs (τ a) k :: st, τ)) none
    | _, _ => none
  | _ => none
def pfdz (f : Option (Nat × Nat × Bool × Nat)) (is : List CI) (L : List (Option VZ)) (τ : SZ) : List VZ → NXZ
  | .inr x :: .inl a :: st => match f, SH[a]? with
    | some (ci, k, _), some (.inl (cj, fs)) => match fs[k]?, (PTL.getD ci []).getD k 2 with
      | some none, 0 => cond (Nat.beq ci cj) (some (none, is, L, st, zr τ a (zu (τ a) k x))) none
      | some none, 1 => cond (Nat.beq ci cj) (some (some (x = 0 ∨ x = 1), is, L, st, zr τ a (zu (τ a) k x))) none
      | _, _ => none
    | _, _ => none
  | _ => none
def cpyz (is : List CI) (L : List (Option VZ)) (τ : SZ) : List VZ → NXZ
  | .inr n :: .inr dp :: .inl b :: .inr sp :: .inl a :: st => match SH[a]?, SH[b]? with
    | some (.inr (0, n0)), some (.inr (0, n1)) => cond (Nat.ble st.length 8) (some (some (0 ≤ sp ∧ 0 ≤ dp ∧ 0 ≤ n ∧ sp + n ≤ (n0 : Int) ∧ dp + n ≤ (n1 : Int)), is, L, st, zr τ b (zc (τ a) (τ b) sp.toNat dp.toNat n.toNat))) none
    | _, _ => none
  | _ => none
def mxmz (f : Int → Int → Int) (is : List CI) (L : List (Option VZ)) (τ : SZ) : List VZ → NXZ
  | .inr y :: .inr x :: st => cond (Nat.ble st.length 8) (some (some (Rng x ∧ Rng y), is, L, .inr (f x y) :: st, τ)) none
  | _ => none
def byZ : List (List Int) := byS.map (fun l => l.map (fun x => x.toInt))
def slez (is : List CI) (L : List (Option VZ)) (τ : SZ) : List VZ → NXZ
  | .inl a :: st => cond (Nat.ble 100 a && Nat.blt a 119 && Nat.ble st.length 8) (some (none, is, L, .inr ((byS.getD (a - 100) []).length : Int) :: st, τ)) none
  | _ => none
def schz (is : List CI) (L : List (Option VZ)) (τ : SZ) : List VZ → NXZ
  | .inr x :: .inl a :: st => cond (Nat.ble 100 a && Nat.blt a 119 && Nat.ble st.length 8) (some (some (0 ≤ x ∧ x < ((byS.getD (a - 100) []).length : Int)), is, L, .inr ((byS.getD (a - 100) []).getD x.toNat 0).toInt :: st, τ)) none
  | _ => none
def libSz (k : Option (Nat × Nat)) (is : List CI) (L : List (Option VZ)) (st : List VZ) (τ : SZ) : NXZ := match k with
  | some (0, _) => cpyz is L τ st
  | some (1, _) => mxmz (fun x y => if x < y then y else x) is L τ st
  | some (2, _) => mxmz (fun x y => if y < x then y else x) is L τ st
  | _ => none
def libVz (k : Option (Nat × Nat)) (is : List CI) (L : List (Option VZ)) (st : List VZ) (τ : SZ) : NXZ := match k with
  | some (3, _) => slez is L τ st
  | some (4, _) => schz is L τ st
  | _ => none
def jmpz (i : Nat) (q : Option Prop) (z : Int) (L : List (Option VZ)) (st : List VZ) (τ : SZ) : NXZ := match z with
  | .ofNat t => some (q, seek t (mK i), L, st, τ)
  | .negSucc _ => none
def swTz (pc : Nat) (dflt lo hi : Int) (offs : Array Int) (x : Int) : Option Int :=
  if x < lo ∨ hi < x then some ((pc : Int) + dflt) else match offs[(x - lo).toNat]? with
    | some off => some ((pc : Int) + off)
    | none => none
def swLz (pc : Nat) (dflt : Int) (ps : Array (Int × Int)) (x : Int) : Option Int := some ((pc : Int) + Op.lookupswitch.offset ps.toList dflt x)
def swSz (i : Nat) (L : List (Option VZ)) (τ : SZ) (f : Int → Option Int) : List VZ → NXZ
  | .inr x :: st => match f x with
    | some z => jmpz i (some (Rng x)) z L st τ
    | none => none
  | _ => none
def nxZ (i : Nat) (pc : Nat) (is : List CI) (L : List (Option VZ)) (st : List VZ) (τ : SZ) : Instr → NXZ
  | .iconst n => some (none, is, L, .inr n :: st, τ)
  | .bipush n => cond (decide (-128 ≤ n) && decide (n < 128)) (some (none, is, L, .inr n :: st, τ)) none
  | .sipush n => cond (decide (-32768 ≤ n) && decide (n < 32768)) (some (none, is, L, .inr n :: st, τ)) none
  | .iload_n k => pshz is L st τ (ldIz L k)
  | .iload k => pshz is L st τ (ldIz L k)
  | .aload_n k => pshz is L st τ (ldAz L k)
  | .aload k => pshz is L st τ (ldAz L k)
  | .istore_n k => stIz is L τ k st
  | .istore k => stIz is L τ k st
  | .iinc k n => incz is L st τ k n
  | .iadd => binz is L τ (fun x y => x + y) (fun _ _ => none) st
  | .isub => binz is L τ (fun x y => x - y) (fun _ _ => none) st
  | .imul => binz is L τ (fun x y => x * y) (fun _ _ => none) st
  | .ixor => binz is L τ (fun x _ => -x - 1) (fun _ y => some (y = -1)) st
  | .idiv => binz is L τ (fun x y => x / y) (fun x y => some (0 ≤ x ∧ x < 2147483648 ∧ 0 < y ∧ y < 2147483648)) st
  | .irem => binz is L τ (fun x y => x % y) (fun x y => some (0 ≤ x ∧ x < 2147483648 ∧ 0 < y ∧ y < 2147483648)) st
  | .i2c => match st with
    | .inr x :: st => some (some (0 ≤ x ∧ x < 65536), is, L, .inr x :: st, τ)
    | _ => none
  | .dup => match st with
    | v :: st => some (none, is, L, v :: v :: st, τ)
    | _ => none
  | .dup2 => match st with
    | v :: w :: st => some (none, is, L, v :: w :: v :: w :: st, τ)
    | _ => none
  | .pop => match st with
    | _ :: st => some (none, is, L, st, τ)
    | _ => none
  | .getfield x => gfdz (fT (mC i) x) is L τ st
  | .putfield x => pfdz (fT (mC i) x) is L τ st
  | .iaload => aldz 0 is L τ st
  | .caload => aldz 1 is L τ st
  | .iastore => astz 0 is L τ st
  | .castore => astz 1 is L τ st
  | .arraylength => lenz is L τ st
  | .goto off => jmpz i none ((pc : Int) + off) L st τ
  | .tableswitch d lo hi offs => swSz i L τ (swTz pc d lo hi offs) st
  | .lookupswitch d ps => cond ((ps.toList.zip (ps.toList.drop 1)).all (fun (a, next) => a.1 < next.1)) (swSz i L τ (swLz pc d ps) st) none
  | .invokestatic x => libSz (sT (mC i) x) is L st τ
  | .invokevirtual x => libVz (sT (mC i) x) is L st τ
  | .ldc x => pshz is L st τ ((lT (mC i) x).map (fun q => .inl (100 + q)))
  | .astore_n k => stAz is L τ k st
  | .astore k => stAz is L τ k st
  | _ => none
def nz (i : Nat) : FZ → NXZ
  | ((pc, ins, _) :: is, L, st, τ) => nxZ i pc is L st τ ins
  | _ => none
def cmpZ : Jvm.ClassFile.Cond → Int → Int → Prop
  | .eq, x, y => x = y
  | .ne, x, y => ¬ x = y
  | .lt, x, y => x < y
  | .ge, x, y => y ≤ x
  | .gt, x, y => y < x
  | .le, x, y => x ≤ y
def bz (i : Nat) : FZ → Option (Prop × Prop × FZ × FZ)
  | ((pc, .ifCond c off, _) :: is, L, .inr x :: st, τ) => match (pc : Int) + off with
    | .ofNat t => some (Rng x, cmpZ c x 0, (seek t (mK i), L, st, τ), (is, L, st, τ))
    | .negSucc _ => none
  | ((pc, .if_icmp c off, _) :: is, L, .inr y :: .inr x :: st, τ) => match (pc : Int) + off with
    | .ofNat t => some (Rng x ∧ Rng y, cmpZ c x y, (seek t (mK i), L, st, τ), (is, L, st, τ))
    | .negSucc _ => none
  | _ => none
def fz : FZ → Option (Option VZ)
  | ((_, .ireturn, _) :: _, _, [.inr v], _) => some (some (.inr v))
  | ((_, .areturn, _) :: _, _, [.inl v], _) => some (some (.inl v))
  | ((_, .return_, _) :: _, _, [], _) => some none
  | _ => none
def retZ (ret : Option FieldType) : Option VZ → Prop
  | none => ret = none
  | some (.inr v) => match ret with
    | some .int => True
    | some .boolean => v = 0 ∨ v = 1
    | some .char => 0 ≤ v ∧ v < 65536
    | _ => False
  | some (.inl _) => match ret with
    | some (.object _) => True
    | _ => False
def tz (i : Nat) : FZ → Option String
  | ((_, .new ik, 3) :: (_, .dup, 1) :: (_, .invokespecial ic, 3) :: (_, .athrow, 1) :: _, _, st, _) => match xT (mC i) ik with
    | some (jc, E, _) => cond (Nat.beq ic jc && Nat.ble st.length 8) (some E) none
    | none => none
  | _ => none
def cz (i : Nat) : FZ → Option (Nat × List VZ × FZ)
  | ((_, .invokevirtual x, _) :: is, L, st, τ) => match vT (mC i) x with
    | some (j, _) => match st.drop (mN j) with
      | .inl a :: rest => match SH[a]? with
        | some (.inl (ci, _)) => cond (Nat.beq ci (mC j) && (!(mS j) && (Nat.beq (st.take (mN j)).length (mN j) && Nat.ble rest.length 8))) (some (j, .inl a :: (st.take (mN j)).reverse, (is, L, rest, τ))) none
        | _ => none
      | _ => none
    | none => none
  | ((_, .invokestatic x, _) :: is, L, st, τ) => match vT (mC i) x with
    | some (j, _) => cond (mS j && (Nat.beq (st.take (mN j)).length (mN j) && Nat.ble (st.drop (mN j)).length 8)) (some (j, (st.take (mN j)).reverse, (is, L, st.drop (mN j), τ))) none
    | none => none
  | _ => none
def RunZ (cal : Nat → List VZ → SZ → RSZ → Prop) (i : Nat) : Nat → FZ → Nat → RSZ → Prop
  | 0, _, _, _ => False
  | n + 1, c, u, r =>
    (∃ P c', nz i c = some (P, c') ∧ oP P ∧ RunZ cal i n c' u r) ∨
    (∃ G P ct cf, bz i c = some (G, P, ct, cf) ∧ G ∧ ((P ∧ RunZ cal i n ct u r) ∨ (¬ P ∧ RunZ cal i n cf u r))) ∨
    (∃ v, fz c = some v ∧ retZ (mR i) v ∧ u ≤ mX i ∧ r = .inl (v, c.2.2.2)) ∨
    (∃ E, tz i c = some E ∧ u + 1 ≤ mX i ∧ r = .inr (E, c.2.2.2)) ∨
    (∃ j as is L st τ, cz i c = some (j, as, (is, L, st, τ)) ∧ u + mX j ≤ mX i ∧ ∃ rj, cal j as τ rj ∧
      ((∃ v τ', rj = .inl (v, τ') ∧ RunZ cal i n (is, L, v.toList ++ st, τ') (u + mX j) r) ∨ (∃ E τ', rj = .inr (E, τ') ∧ r = .inr (E, τ'))))
def iniz (i : Nat) (as : List VZ) : List (Option VZ) := as.map some ++ List.replicate (mL i - as.length) none
def RZ : Nat → Nat → List VZ → SZ → RSZ → Prop
  | 0, _, _, _, _ => False
  | d + 1, i, as, τ, r => i < NM ∧ as.length ≤ mL i ∧ ∃ n, RunZ (RZ d) i n (mK i, iniz i as, [], τ) 0 r
end ZM
