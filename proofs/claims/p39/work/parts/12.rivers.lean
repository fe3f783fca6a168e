/-! contracts of the class of the rivers; the runs printed by wip/whole/db1.py -/
section RIV
/-- sums -/
def sm (f : Nat → Int) : Nat → Int
  | 0 => 0
  | n + 1 => sm f n + f n
theorem sm_cong {f g : Nat → Int} : ∀ {n : Nat}, (∀ k, k < n → f k = g k) → sm f n = sm g n
  | 0, _ => rfl
  | n + 1, h => by
    show sm f n + f n = sm g n + g n
    rw [sm_cong (fun k hk => h k (Nat.lt_succ_of_lt hk)), h n (Nat.lt_succ_self n)]
theorem sm_bd {f : Nat → Int} {b : Int} (hb : 0 ≤ b) : ∀ {n : Nat}, (∀ k, k < n → -b ≤ f k ∧ f k ≤ b) → -(n * b) ≤ sm f n ∧ sm f n ≤ n * b
  | 0, _ => by simp [sm]
  | n + 1, h => by
    have h1 := sm_bd hb (n := n) (fun k hk => h k (Nat.lt_succ_of_lt hk))
    have h2 := h n (Nat.lt_succ_self n)
    have e : ((n + 1 : Nat) : Int) * b = n * b + b := by rw [Int.natCast_add, Int.add_mul]; simp
    show -(((n + 1 : Nat) : Int) * b) ≤ sm f n + f n ∧ sm f n + f n ≤ ((n + 1 : Nat) : Int) * b
    rw [e]
    omega
theorem sm_01 {f : Nat → Int} {n : Nat} (h : ∀ k, k < n → 0 ≤ f k ∧ f k ≤ 1) : 0 ≤ sm f n ∧ sm f n ≤ n := by
  induction n with
  | zero => simp [sm]
  | succ n ih =>
    have h1 := ih (fun k hk => h k (Nat.lt_succ_of_lt hk))
    have h2 := h n (Nat.lt_succ_self n)
    show 0 ≤ sm f n + f n ∧ sm f n + f n ≤ ((n + 1 : Nat) : Int)
    omega
theorem rI {a b : Int} {τ : SZ} (h : a = b) : (Sum.inl (some (Sum.inr a), τ) : RSZ) = .inl (some (.inr b), τ) := by rw [h]
theorem rV {τ τ' : SZ} (h : τ = τ') : (Sum.inl (none, τ) : RSZ) = .inl (none, τ') := by rw [h]
theorem rIV {a b : Int} {τ τ' : SZ} (h : a = b) (h2 : τ = τ') : (Sum.inl (some (Sum.inr a), τ) : RSZ) = .inl (some (.inr b), τ') := by rw [h, h2]
theorem zr_zr {τ : SZ} {a : Nat} {f g : Nat → Int} : zr (zr τ a f) a g = zr τ a g := by
  funext b
  unfold zr
  by_cases h : b = a <;> simp [h]
theorem zr_self {τ : SZ} {a : Nat} : zr τ a (τ a) = τ := by
  funext b
  unfold zr
  by_cases h : b = a <;> simp [h]
theorem zr_at {τ : SZ} {a : Nat} {f : Nat → Int} : (zr τ a f) a = f := by unfold zr; simp
theorem zr_ne {τ : SZ} {a b : Nat} {f : Nat → Int} (h : b ≠ a) : (zr τ a f) b = τ b := by unfold zr; simp [h]
theorem zr_sw {τ : SZ} {a b : Nat} {f g : Nat → Int} (h : a ≠ b) : zr (zr τ a f) b g = zr (zr τ b g) a f := by
  funext c
  unfold zr
  by_cases h1 : c = a
  · by_cases h2 : c = b
    · exact absurd (h1.symm.trans h2) h
    · simp [h1, h]
  · by_cases h2 : c = b
    · simp [h2, Ne.symm h]
    · simp [h1, h2]
theorem zr_if {τ : SZ} {a : Nat} {P : Prop} [Decidable P] {f g : Nat → Int} : zr τ a (if P then f else g) = if P then zr τ a f else zr τ a g := by split <;> rfl
def RA (ρ a : Nat) : Prop := (ρ = 1 ∧ a = 4) ∨ (ρ = 2 ∧ a = 5) ∨ (ρ = 3 ∧ a = 6)
/-- every number in a cell's row is far from the ends of the ints -/
def Bd (c : Nat → Int) : Prop := ∀ k, -1000000000 ≤ c k ∧ c k ≤ 1000000000
def cel (c : Nat → Int) (z : Int) : Int := if 0 ≤ z ∧ z < 109 then c z.toNat else 0
def sce (c : Nat → Int) (z v : Int) : Nat → Int := if 0 ≤ z ∧ z < 109 then zu c z.toNat v else c
theorem cel_bd {c : Nat → Int} (h : Bd c) (z : Int) : -1000000000 ≤ cel c z ∧ cel c z ≤ 1000000000 := by
  unfold cel
  split
  · exact h _
  · omega
theorem sce_bd {c : Nat → Int} (h : Bd c) {z v : Int} (hv : -1000000000 ≤ v ∧ v ≤ 1000000000) : Bd (sce c z v) := by
  unfold sce
  split
  · intro k
    unfold zu
    split
    · exact hv
    · exact h k
  · exact h
def b2 (P : Prop) [Decidable P] : Int := if P then 1 else 0
theorem b2_rng {P : Prop} [Decidable P] : Rng (b2 P) := by unfold b2; split <;> exact ⟨by decide, by decide⟩
theorem b2_01 {P : Prop} [Decidable P] : 0 ≤ b2 P ∧ b2 P ≤ 1 := by unfold b2; split <;> omega
theorem b2_e0 {P : Prop} [Decidable P] (h : b2 P = 0) : ¬ P := by
  intro q
  rw [b2, if_pos q] at h
  omega
theorem b2_n0 {P : Prop} [Decidable P] (h : ¬ b2 P = 0) : P := by
  rcases Decidable.em P with q | q
  · exact q
  · rw [b2, if_neg q] at h
    exact absurd rfl h
theorem b2_nn0 {P : Prop} [Decidable P] (h : ¬ ¬ b2 P = 0) : ¬ P := b2_e0 (Decidable.not_not.mp h)
theorem b2_t {P : Prop} [Decidable P] (h : P) : b2 P = 1 := if_pos h
theorem b2_f {P : Prop} [Decidable P] (h : ¬ P) : b2 P = 0 := if_neg h
def whz (c : Nat → Int) (r p : Int) : Int := if 0 ≤ p ∧ p < 12 then cel c (48 + r * 12 + p) else -1
def usz (c : Nat → Int) (r p : Int) : Int := if 0 ≤ p ∧ p < 12 then cel c (72 + r * 12 + p) else 0
def swh (c : Nat → Int) (r p v : Int) : Nat → Int := if 0 ≤ p ∧ p < 12 then sce c (48 + r * 12 + p) v else c
def sus (c : Nat → Int) (r p v : Int) : Nat → Int := if 0 ≤ p ∧ p < 12 then sce c (72 + r * 12 + p) v else c
theorem whz_bd {c : Nat → Int} (h : Bd c) (r p : Int) : -1000000000 ≤ whz c r p ∧ whz c r p ≤ 1000000000 := by
  unfold whz
  split
  · exact cel_bd h _
  · omega
theorem usz_bd {c : Nat → Int} (h : Bd c) (r p : Int) : -1000000000 ≤ usz c r p ∧ usz c r p ≤ 1000000000 := by
  unfold usz
  split
  · exact cel_bd h _
  · omega
theorem swh_bd {c : Nat → Int} (h : Bd c) {r p v : Int} (hv : -1000000000 ≤ v ∧ v ≤ 1000000000) : Bd (swh c r p v) := by
  unfold swh
  split
  · exact sce_bd h hv
  · exact h
theorem sus_bd {c : Nat → Int} (h : Bd c) {r p v : Int} (hv : -1000000000 ≤ v ∧ v ≤ 1000000000) : Bd (sus c r p v) := by
  unfold sus
  split
  · exact sce_bd h hv
  · exact h
/-- static questions of the class itself -/
theorem s_cell {ρ a : Nat} {z : Int} {τ : SZ} (hρ : RA ρ a) (hz : Rng z) : RZ 1 m5_cell [.inl ρ, .inr z] τ (.inl (some (.inr (cel (τ a) z)), τ)) := by
  obtain ⟨hz1, hz2⟩ := hz
  rcases hρ with ⟨rfl, rfl⟩ | ⟨rfl, rfl⟩ | ⟨rfl, rfl⟩
  · refine Ex.call ?_ rfl rfl
    show Ex _ _ (cod m5_cell 0, [some (.inl 1), some (.inr z)], [], τ) _ _
    refine ex_k 1 (P := none) (g := (cod m5_cell 1, [some (.inl 1), some (.inr z)], [.inr z], τ)) rfl trivial ?_
    refine ex_b (P := z < 0) (ct := (cod m5_cell 12, [some (.inl 1), some (.inr z)], [], τ)) (cf := (cod m5_cell 2, [some (.inl 1), some (.inr z)], [], τ)) rfl ⟨by omega, by omega⟩ (fun h1 => ?_) (fun h1 => ?_)
    · first
      | (exfalso; omega)
      | (
          refine ex_k 1 (P := none) (g := (cod m5_cell 13, [some (.inl 1), some (.inr z)], [.inr 0], τ)) rfl trivial ?_
          exact ex_r rfl trivial rfl (rI (by simp only [cel]; first | rw [if_pos (by omega)] | rw [if_neg (by omega)])))
    · first
      | (exfalso; omega)
      | (
          refine ex_k 4 (P := none) (g := (cod m5_cell 6, [some (.inl 1), some (.inr z)], [.inr 109, .inr z], τ)) rfl trivial ?_
          refine ex_b (P := 109 ≤ z) (ct := (cod m5_cell 12, [some (.inl 1), some (.inr z)], [], τ)) (cf := (cod m5_cell 7, [some (.inl 1), some (.inr z)], [], τ)) rfl ⟨⟨by omega, by omega⟩, ⟨by decide, by decide⟩⟩ (fun h2 => ?_) (fun h2 => ?_)
          · first
            | (exfalso; omega)
            | (
                refine ex_k 1 (P := none) (g := (cod m5_cell 13, [some (.inl 1), some (.inr z)], [.inr 0], τ)) rfl trivial ?_
                exact ex_r rfl trivial rfl (rI (by simp only [cel]; first | rw [if_pos (by omega)] | rw [if_neg (by omega)])))
          · first
            | (exfalso; omega)
            | (
                refine ex_k 4 (P := some (0 ≤ z ∧ z < ((109 : Nat) : Int))) (g := (cod m5_cell 11, [some (.inl 1), some (.inr z)], [.inr ((τ 4) z.toNat)], τ)) rfl (by show 0 ≤ z ∧ z < ((109 : Nat) : Int); omega) ?_
                refine ex_k 1 (P := none) (g := (cod m5_cell 13, [some (.inl 1), some (.inr z)], [.inr ((τ 4) z.toNat)], τ)) rfl trivial ?_
                exact ex_r rfl trivial rfl (rI (by simp only [cel]; first | rw [if_pos (by omega)] | rw [if_neg (by omega)]))))
  · refine Ex.call ?_ rfl rfl
    show Ex _ _ (cod m5_cell 0, [some (.inl 2), some (.inr z)], [], τ) _ _
    refine ex_k 1 (P := none) (g := (cod m5_cell 1, [some (.inl 2), some (.inr z)], [.inr z], τ)) rfl trivial ?_
    refine ex_b (P := z < 0) (ct := (cod m5_cell 12, [some (.inl 2), some (.inr z)], [], τ)) (cf := (cod m5_cell 2, [some (.inl 2), some (.inr z)], [], τ)) rfl ⟨by omega, by omega⟩ (fun h1 => ?_) (fun h1 => ?_)
    · first
      | (exfalso; omega)
      | (
          refine ex_k 1 (P := none) (g := (cod m5_cell 13, [some (.inl 2), some (.inr z)], [.inr 0], τ)) rfl trivial ?_
          exact ex_r rfl trivial rfl (rI (by simp only [cel]; first | rw [if_pos (by omega)] | rw [if_neg (by omega)])))
    · first
      | (exfalso; omega)
      | (
          refine ex_k 4 (P := none) (g := (cod m5_cell 6, [some (.inl 2), some (.inr z)], [.inr 109, .inr z], τ)) rfl trivial ?_
          refine ex_b (P := 109 ≤ z) (ct := (cod m5_cell 12, [some (.inl 2), some (.inr z)], [], τ)) (cf := (cod m5_cell 7, [some (.inl 2), some (.inr z)], [], τ)) rfl ⟨⟨by omega, by omega⟩, ⟨by decide, by decide⟩⟩ (fun h2 => ?_) (fun h2 => ?_)
          · first
            | (exfalso; omega)
            | (
                refine ex_k 1 (P := none) (g := (cod m5_cell 13, [some (.inl 2), some (.inr z)], [.inr 0], τ)) rfl trivial ?_
                exact ex_r rfl trivial rfl (rI (by simp only [cel]; first | rw [if_pos (by omega)] | rw [if_neg (by omega)])))
          · first
            | (exfalso; omega)
            | (
                refine ex_k 4 (P := some (0 ≤ z ∧ z < ((109 : Nat) : Int))) (g := (cod m5_cell 11, [some (.inl 2), some (.inr z)], [.inr ((τ 5) z.toNat)], τ)) rfl (by show 0 ≤ z ∧ z < ((109 : Nat) : Int); omega) ?_
                refine ex_k 1 (P := none) (g := (cod m5_cell 13, [some (.inl 2), some (.inr z)], [.inr ((τ 5) z.toNat)], τ)) rfl trivial ?_
                exact ex_r rfl trivial rfl (rI (by simp only [cel]; first | rw [if_pos (by omega)] | rw [if_neg (by omega)]))))
  · refine Ex.call ?_ rfl rfl
    show Ex _ _ (cod m5_cell 0, [some (.inl 3), some (.inr z)], [], τ) _ _
    refine ex_k 1 (P := none) (g := (cod m5_cell 1, [some (.inl 3), some (.inr z)], [.inr z], τ)) rfl trivial ?_
    refine ex_b (P := z < 0) (ct := (cod m5_cell 12, [some (.inl 3), some (.inr z)], [], τ)) (cf := (cod m5_cell 2, [some (.inl 3), some (.inr z)], [], τ)) rfl ⟨by omega, by omega⟩ (fun h1 => ?_) (fun h1 => ?_)
    · first
      | (exfalso; omega)
      | (
          refine ex_k 1 (P := none) (g := (cod m5_cell 13, [some (.inl 3), some (.inr z)], [.inr 0], τ)) rfl trivial ?_
          exact ex_r rfl trivial rfl (rI (by simp only [cel]; first | rw [if_pos (by omega)] | rw [if_neg (by omega)])))
    · first
      | (exfalso; omega)
      | (
          refine ex_k 4 (P := none) (g := (cod m5_cell 6, [some (.inl 3), some (.inr z)], [.inr 109, .inr z], τ)) rfl trivial ?_
          refine ex_b (P := 109 ≤ z) (ct := (cod m5_cell 12, [some (.inl 3), some (.inr z)], [], τ)) (cf := (cod m5_cell 7, [some (.inl 3), some (.inr z)], [], τ)) rfl ⟨⟨by omega, by omega⟩, ⟨by decide, by decide⟩⟩ (fun h2 => ?_) (fun h2 => ?_)
          · first
            | (exfalso; omega)
            | (
                refine ex_k 1 (P := none) (g := (cod m5_cell 13, [some (.inl 3), some (.inr z)], [.inr 0], τ)) rfl trivial ?_
                exact ex_r rfl trivial rfl (rI (by simp only [cel]; first | rw [if_pos (by omega)] | rw [if_neg (by omega)])))
          · first
            | (exfalso; omega)
            | (
                refine ex_k 4 (P := some (0 ≤ z ∧ z < ((109 : Nat) : Int))) (g := (cod m5_cell 11, [some (.inl 3), some (.inr z)], [.inr ((τ 6) z.toNat)], τ)) rfl (by show 0 ≤ z ∧ z < ((109 : Nat) : Int); omega) ?_
                refine ex_k 1 (P := none) (g := (cod m5_cell 13, [some (.inl 3), some (.inr z)], [.inr ((τ 6) z.toNat)], τ)) rfl trivial ?_
                exact ex_r rfl trivial rfl (rI (by simp only [cel]; first | rw [if_pos (by omega)] | rw [if_neg (by omega)]))))
theorem s_setCell {ρ a : Nat} {z v : Int} {τ : SZ} (hρ : RA ρ a) (hz : Rng z) : RZ 1 m5_setCell [.inl ρ, .inr z, .inr v] τ (.inl (none, zr τ a (sce (τ a) z v))) := by
  obtain ⟨hz1, hz2⟩ := hz
  rcases hρ with ⟨rfl, rfl⟩ | ⟨rfl, rfl⟩ | ⟨rfl, rfl⟩
  · refine Ex.call ?_ rfl rfl
    show Ex _ _ (cod m5_setCell 0, [some (.inl 1), some (.inr z), some (.inr v)], [], τ) _ _
    refine ex_k 1 (P := none) (g := (cod m5_setCell 1, [some (.inl 1), some (.inr z), some (.inr v)], [.inr z], τ)) rfl trivial ?_
    refine ex_b (P := z < 0) (ct := (cod m5_setCell 12, [some (.inl 1), some (.inr z), some (.inr v)], [], τ)) (cf := (cod m5_setCell 2, [some (.inl 1), some (.inr z), some (.inr v)], [], τ)) rfl ⟨by omega, by omega⟩ (fun h1 => ?_) (fun h1 => ?_)
    · first
      | (exfalso; omega)
      | (
          exact ex_r rfl rfl rfl (rV (by simp only [sce]; first | rw [if_pos (by omega)] | (rw [if_neg (by omega)]; exact zr_self))))
    · first
      | (exfalso; omega)
      | (
          refine ex_k 4 (P := none) (g := (cod m5_setCell 6, [some (.inl 1), some (.inr z), some (.inr v)], [.inr 109, .inr z], τ)) rfl trivial ?_
          refine ex_b (P := 109 ≤ z) (ct := (cod m5_setCell 12, [some (.inl 1), some (.inr z), some (.inr v)], [], τ)) (cf := (cod m5_setCell 7, [some (.inl 1), some (.inr z), some (.inr v)], [], τ)) rfl ⟨⟨by omega, by omega⟩, ⟨by decide, by decide⟩⟩ (fun h2 => ?_) (fun h2 => ?_)
          · first
            | (exfalso; omega)
            | (
                exact ex_r rfl rfl rfl (rV (by simp only [sce]; first | rw [if_pos (by omega)] | (rw [if_neg (by omega)]; exact zr_self))))
          · first
            | (exfalso; omega)
            | (
                refine ex_k 5 (P := some ((0 ≤ z ∧ z < ((109 : Nat) : Int)) ∧ (0 = 1 → 0 ≤ v ∧ v < 65536))) (g := (cod m5_setCell 12, [some (.inl 1), some (.inr z), some (.inr v)], [], (zr τ 4 (zu (τ 4) z.toNat v)))) rfl (by show (0 ≤ z ∧ z < ((109 : Nat) : Int)) ∧ (0 = 1 → 0 ≤ v ∧ v < 65536); omega) ?_
                exact ex_r rfl rfl rfl (rV (by simp only [sce]; first | rw [if_pos (by omega)] | (rw [if_neg (by omega)]; exact zr_self)))))
  · refine Ex.call ?_ rfl rfl
    show Ex _ _ (cod m5_setCell 0, [some (.inl 2), some (.inr z), some (.inr v)], [], τ) _ _
    refine ex_k 1 (P := none) (g := (cod m5_setCell 1, [some (.inl 2), some (.inr z), some (.inr v)], [.inr z], τ)) rfl trivial ?_
    refine ex_b (P := z < 0) (ct := (cod m5_setCell 12, [some (.inl 2), some (.inr z), some (.inr v)], [], τ)) (cf := (cod m5_setCell 2, [some (.inl 2), some (.inr z), some (.inr v)], [], τ)) rfl ⟨by omega, by omega⟩ (fun h1 => ?_) (fun h1 => ?_)
    · first
      | (exfalso; omega)
      | (
          exact ex_r rfl rfl rfl (rV (by simp only [sce]; first | rw [if_pos (by omega)] | (rw [if_neg (by omega)]; exact zr_self))))
    · first
      | (exfalso; omega)
      | (
          refine ex_k 4 (P := none) (g := (cod m5_setCell 6, [some (.inl 2), some (.inr z), some (.inr v)], [.inr 109, .inr z], τ)) rfl trivial ?_
          refine ex_b (P := 109 ≤ z) (ct := (cod m5_setCell 12, [some (.inl 2), some (.inr z), some (.inr v)], [], τ)) (cf := (cod m5_setCell 7, [some (.inl 2), some (.inr z), some (.inr v)], [], τ)) rfl ⟨⟨by omega, by omega⟩, ⟨by decide, by decide⟩⟩ (fun h2 => ?_) (fun h2 => ?_)
          · first
            | (exfalso; omega)
            | (
                exact ex_r rfl rfl rfl (rV (by simp only [sce]; first | rw [if_pos (by omega)] | (rw [if_neg (by omega)]; exact zr_self))))
          · first
            | (exfalso; omega)
            | (
                refine ex_k 5 (P := some ((0 ≤ z ∧ z < ((109 : Nat) : Int)) ∧ (0 = 1 → 0 ≤ v ∧ v < 65536))) (g := (cod m5_setCell 12, [some (.inl 2), some (.inr z), some (.inr v)], [], (zr τ 5 (zu (τ 5) z.toNat v)))) rfl (by show (0 ≤ z ∧ z < ((109 : Nat) : Int)) ∧ (0 = 1 → 0 ≤ v ∧ v < 65536); omega) ?_
                exact ex_r rfl rfl rfl (rV (by simp only [sce]; first | rw [if_pos (by omega)] | (rw [if_neg (by omega)]; exact zr_self)))))
  · refine Ex.call ?_ rfl rfl
    show Ex _ _ (cod m5_setCell 0, [some (.inl 3), some (.inr z), some (.inr v)], [], τ) _ _
    refine ex_k 1 (P := none) (g := (cod m5_setCell 1, [some (.inl 3), some (.inr z), some (.inr v)], [.inr z], τ)) rfl trivial ?_
    refine ex_b (P := z < 0) (ct := (cod m5_setCell 12, [some (.inl 3), some (.inr z), some (.inr v)], [], τ)) (cf := (cod m5_setCell 2, [some (.inl 3), some (.inr z), some (.inr v)], [], τ)) rfl ⟨by omega, by omega⟩ (fun h1 => ?_) (fun h1 => ?_)
    · first
      | (exfalso; omega)
      | (
          exact ex_r rfl rfl rfl (rV (by simp only [sce]; first | rw [if_pos (by omega)] | (rw [if_neg (by omega)]; exact zr_self))))
    · first
      | (exfalso; omega)
      | (
          refine ex_k 4 (P := none) (g := (cod m5_setCell 6, [some (.inl 3), some (.inr z), some (.inr v)], [.inr 109, .inr z], τ)) rfl trivial ?_
          refine ex_b (P := 109 ≤ z) (ct := (cod m5_setCell 12, [some (.inl 3), some (.inr z), some (.inr v)], [], τ)) (cf := (cod m5_setCell 7, [some (.inl 3), some (.inr z), some (.inr v)], [], τ)) rfl ⟨⟨by omega, by omega⟩, ⟨by decide, by decide⟩⟩ (fun h2 => ?_) (fun h2 => ?_)
          · first
            | (exfalso; omega)
            | (
                exact ex_r rfl rfl rfl (rV (by simp only [sce]; first | rw [if_pos (by omega)] | (rw [if_neg (by omega)]; exact zr_self))))
          · first
            | (exfalso; omega)
            | (
                refine ex_k 5 (P := some ((0 ≤ z ∧ z < ((109 : Nat) : Int)) ∧ (0 = 1 → 0 ≤ v ∧ v < 65536))) (g := (cod m5_setCell 12, [some (.inl 3), some (.inr z), some (.inr v)], [], (zr τ 6 (zu (τ 6) z.toNat v)))) rfl (by show (0 ≤ z ∧ z < ((109 : Nat) : Int)) ∧ (0 = 1 → 0 ≤ v ∧ v < 65536); omega) ?_
                exact ex_r rfl rfl rfl (rV (by simp only [sce]; first | rw [if_pos (by omega)] | (rw [if_neg (by omega)]; exact zr_self)))))
theorem s_isSide {z : Int} {τ : SZ} (hz : Rng z) : RZ 1 m7_isSide [.inr z] τ (.inl (some (.inr (b2 (0 ≤ z ∧ z < 2))), τ)) := by
  obtain ⟨hz1, hz2⟩ := hz
  refine Ex.call ?_ rfl rfl
  show Ex _ _ (cod m7_isSide 0, [some (.inr z)], [], τ) _ _
  refine ex_k 1 (P := none) (g := (cod m7_isSide 1, [some (.inr z)], [.inr z], τ)) rfl trivial ?_
  refine ex_b (P := z < 0) (ct := (cod m7_isSide 7, [some (.inr z)], [], τ)) (cf := (cod m7_isSide 2, [some (.inr z)], [], τ)) rfl ⟨by omega, by omega⟩ (fun h1 => ?_) (fun h1 => ?_)
  · first
    | (exfalso; omega)
    | (
        refine ex_k 1 (P := none) (g := (cod m7_isSide 8, [some (.inr z)], [.inr 0], τ)) rfl trivial ?_
        exact ex_r rfl (by first | exact Or.inl rfl | exact Or.inr rfl | omega) rfl (rI (by first | rw [b2_t (by omega)] | rw [b2_f (by omega)])))
  · first
    | (exfalso; omega)
    | (
        refine ex_k 2 (P := none) (g := (cod m7_isSide 4, [some (.inr z)], [.inr 2, .inr z], τ)) rfl trivial ?_
        refine ex_b (P := 2 ≤ z) (ct := (cod m7_isSide 7, [some (.inr z)], [], τ)) (cf := (cod m7_isSide 5, [some (.inr z)], [], τ)) rfl ⟨⟨by omega, by omega⟩, ⟨by decide, by decide⟩⟩ (fun h2 => ?_) (fun h2 => ?_)
        · first
          | (exfalso; omega)
          | (
              refine ex_k 1 (P := none) (g := (cod m7_isSide 8, [some (.inr z)], [.inr 0], τ)) rfl trivial ?_
              exact ex_r rfl (by first | exact Or.inl rfl | exact Or.inr rfl | omega) rfl (rI (by first | rw [b2_t (by omega)] | rw [b2_f (by omega)])))
        · first
          | (exfalso; omega)
          | (
              refine ex_k 2 (P := none) (g := (cod m7_isSide 8, [some (.inr z)], [.inr 1], τ)) rfl trivial ?_
              exact ex_r rfl (by first | exact Or.inl rfl | exact Or.inr rfl | omega) rfl (rI (by first | rw [b2_t (by omega)] | rw [b2_f (by omega)]))))
theorem s_isRiver {z : Int} {τ : SZ} (hz : Rng z) : RZ 1 m7_isRiver [.inr z] τ (.inl (some (.inr (b2 (0 ≤ z ∧ z < 2))), τ)) := by
  obtain ⟨hz1, hz2⟩ := hz
  refine Ex.call ?_ rfl rfl
  show Ex _ _ (cod m7_isRiver 0, [some (.inr z)], [], τ) _ _
  refine ex_k 1 (P := none) (g := (cod m7_isRiver 1, [some (.inr z)], [.inr z], τ)) rfl trivial ?_
  refine ex_b (P := z < 0) (ct := (cod m7_isRiver 7, [some (.inr z)], [], τ)) (cf := (cod m7_isRiver 2, [some (.inr z)], [], τ)) rfl ⟨by omega, by omega⟩ (fun h1 => ?_) (fun h1 => ?_)
  · first
    | (exfalso; omega)
    | (
        refine ex_k 1 (P := none) (g := (cod m7_isRiver 8, [some (.inr z)], [.inr 0], τ)) rfl trivial ?_
        exact ex_r rfl (by first | exact Or.inl rfl | exact Or.inr rfl | omega) rfl (rI (by first | rw [b2_t (by omega)] | rw [b2_f (by omega)])))
  · first
    | (exfalso; omega)
    | (
        refine ex_k 2 (P := none) (g := (cod m7_isRiver 4, [some (.inr z)], [.inr 2, .inr z], τ)) rfl trivial ?_
        refine ex_b (P := 2 ≤ z) (ct := (cod m7_isRiver 7, [some (.inr z)], [], τ)) (cf := (cod m7_isRiver 5, [some (.inr z)], [], τ)) rfl ⟨⟨by omega, by omega⟩, ⟨by decide, by decide⟩⟩ (fun h2 => ?_) (fun h2 => ?_)
        · first
          | (exfalso; omega)
          | (
              refine ex_k 1 (P := none) (g := (cod m7_isRiver 8, [some (.inr z)], [.inr 0], τ)) rfl trivial ?_
              exact ex_r rfl (by first | exact Or.inl rfl | exact Or.inr rfl | omega) rfl (rI (by first | rw [b2_t (by omega)] | rw [b2_f (by omega)])))
        · first
          | (exfalso; omega)
          | (
              refine ex_k 2 (P := none) (g := (cod m7_isRiver 8, [some (.inr z)], [.inr 1], τ)) rfl trivial ?_
              exact ex_r rfl (by first | exact Or.inl rfl | exact Or.inr rfl | omega) rfl (rI (by first | rw [b2_t (by omega)] | rw [b2_f (by omega)]))))
theorem s_isPlace {z : Int} {τ : SZ} (hz : Rng z) : RZ 1 m7_isPlace [.inr z] τ (.inl (some (.inr (b2 (0 ≤ z ∧ z < 12))), τ)) := by
  obtain ⟨hz1, hz2⟩ := hz
  refine Ex.call ?_ rfl rfl
  show Ex _ _ (cod m7_isPlace 0, [some (.inr z)], [], τ) _ _
  refine ex_k 1 (P := none) (g := (cod m7_isPlace 1, [some (.inr z)], [.inr z], τ)) rfl trivial ?_
  refine ex_b (P := z < 0) (ct := (cod m7_isPlace 7, [some (.inr z)], [], τ)) (cf := (cod m7_isPlace 2, [some (.inr z)], [], τ)) rfl ⟨by omega, by omega⟩ (fun h1 => ?_) (fun h1 => ?_)
  · first
    | (exfalso; omega)
    | (
        refine ex_k 1 (P := none) (g := (cod m7_isPlace 8, [some (.inr z)], [.inr 0], τ)) rfl trivial ?_
        exact ex_r rfl (by first | exact Or.inl rfl | exact Or.inr rfl | omega) rfl (rI (by first | rw [b2_t (by omega)] | rw [b2_f (by omega)])))
  · first
    | (exfalso; omega)
    | (
        refine ex_k 2 (P := none) (g := (cod m7_isPlace 4, [some (.inr z)], [.inr 12, .inr z], τ)) rfl trivial ?_
        refine ex_b (P := 12 ≤ z) (ct := (cod m7_isPlace 7, [some (.inr z)], [], τ)) (cf := (cod m7_isPlace 5, [some (.inr z)], [], τ)) rfl ⟨⟨by omega, by omega⟩, ⟨by decide, by decide⟩⟩ (fun h2 => ?_) (fun h2 => ?_)
        · first
          | (exfalso; omega)
          | (
              refine ex_k 1 (P := none) (g := (cod m7_isPlace 8, [some (.inr z)], [.inr 0], τ)) rfl trivial ?_
              exact ex_r rfl (by first | exact Or.inl rfl | exact Or.inr rfl | omega) rfl (rI (by first | rw [b2_t (by omega)] | rw [b2_f (by omega)])))
        · first
          | (exfalso; omega)
          | (
              refine ex_k 2 (P := none) (g := (cod m7_isPlace 8, [some (.inr z)], [.inr 1], τ)) rfl trivial ?_
              exact ex_r rfl (by first | exact Or.inl rfl | exact Or.inr rfl | omega) rfl (rI (by first | rw [b2_t (by omega)] | rw [b2_f (by omega)]))))
theorem s_isMove {z : Int} {τ : SZ} (hz : Rng z) : RZ 1 m7_isMove [.inr z] τ (.inl (some (.inr (b2 (z = 1 ∨ z = 2 ∨ z = 3))), τ)) := by
  obtain ⟨hz1, hz2⟩ := hz
  refine Ex.call ?_ rfl rfl
  show Ex _ _ (cod m7_isMove 0, [some (.inr z)], [], τ) _ _
  refine ex_k 2 (P := none) (g := (cod m7_isMove 2, [some (.inr z)], [.inr 1, .inr z], τ)) rfl trivial ?_
  refine ex_b (P := z = 1) (ct := (cod m7_isMove 9, [some (.inr z)], [], τ)) (cf := (cod m7_isMove 3, [some (.inr z)], [], τ)) rfl ⟨⟨by omega, by omega⟩, ⟨by decide, by decide⟩⟩ (fun h1 => ?_) (fun h1 => ?_)
  · first
    | (exfalso; omega)
    | (
        refine ex_k 2 (P := none) (g := (cod m7_isMove 12, [some (.inr z)], [.inr 1], τ)) rfl trivial ?_
        exact ex_r rfl (by first | exact Or.inl rfl | exact Or.inr rfl | omega) rfl (rI (by first | rw [b2_t (by omega)] | rw [b2_f (by omega)])))
  · first
    | (exfalso; omega)
    | (
        refine ex_k 2 (P := none) (g := (cod m7_isMove 5, [some (.inr z)], [.inr 2, .inr z], τ)) rfl trivial ?_
        refine ex_b (P := z = 2) (ct := (cod m7_isMove 9, [some (.inr z)], [], τ)) (cf := (cod m7_isMove 6, [some (.inr z)], [], τ)) rfl ⟨⟨by omega, by omega⟩, ⟨by decide, by decide⟩⟩ (fun h2 => ?_) (fun h2 => ?_)
        · first
          | (exfalso; omega)
          | (
              refine ex_k 2 (P := none) (g := (cod m7_isMove 12, [some (.inr z)], [.inr 1], τ)) rfl trivial ?_
              exact ex_r rfl (by first | exact Or.inl rfl | exact Or.inr rfl | omega) rfl (rI (by first | rw [b2_t (by omega)] | rw [b2_f (by omega)])))
        · first
          | (exfalso; omega)
          | (
              refine ex_k 2 (P := none) (g := (cod m7_isMove 8, [some (.inr z)], [.inr 3, .inr z], τ)) rfl trivial ?_
              refine ex_b (P := ¬ z = 3) (ct := (cod m7_isMove 11, [some (.inr z)], [], τ)) (cf := (cod m7_isMove 9, [some (.inr z)], [], τ)) rfl ⟨⟨by omega, by omega⟩, ⟨by decide, by decide⟩⟩ (fun h3 => ?_) (fun h3 => ?_)
              · first
                | (exfalso; omega)
                | (
                    refine ex_k 1 (P := none) (g := (cod m7_isMove 12, [some (.inr z)], [.inr 0], τ)) rfl trivial ?_
                    exact ex_r rfl (by first | exact Or.inl rfl | exact Or.inr rfl | omega) rfl (rI (by first | rw [b2_t (by omega)] | rw [b2_f (by omega)])))
              · first
                | (exfalso; omega)
                | (
                    refine ex_k 2 (P := none) (g := (cod m7_isMove 12, [some (.inr z)], [.inr 1], τ)) rfl trivial ?_
                    exact ex_r rfl (by first | exact Or.inl rfl | exact Or.inr rfl | omega) rfl (rI (by first | rw [b2_t (by omega)] | rw [b2_f (by omega)])))))
theorem s_stepTo {z : Int} {τ : SZ} (hz : Rng z) : RZ 1 m7_stepTo [.inr z] τ (.inl (some (.inr (if z = 0 then -1 else 1)), τ)) := by
  obtain ⟨hz1, hz2⟩ := hz
  refine Ex.call ?_ rfl rfl
  show Ex _ _ (cod m7_stepTo 0, [some (.inr z)], [], τ) _ _
  refine ex_k 1 (P := none) (g := (cod m7_stepTo 1, [some (.inr z)], [.inr z], τ)) rfl trivial ?_
  refine ex_b (P := z = 0) (ct := (cod m7_stepTo 4, [some (.inr z)], [], τ)) (cf := (cod m7_stepTo 2, [some (.inr z)], [], τ)) rfl ⟨by omega, by omega⟩ (fun h1 => ?_) (fun h1 => ?_)
  · first
    | (exfalso; omega)
    | (
        refine ex_k 1 (P := none) (g := (cod m7_stepTo 5, [some (.inr z)], [.inr (-1)], τ)) rfl trivial ?_
        exact ex_r rfl trivial rfl (rI (by first | rw [if_pos (by omega)] | rw [if_neg (by omega)])))
  · first
    | (exfalso; omega)
    | (
        refine ex_k 2 (P := none) (g := (cod m7_stepTo 5, [some (.inr z)], [.inr 1], τ)) rfl trivial ?_
        exact ex_r rfl trivial rfl (rI (by first | rw [if_pos (by omega)] | rw [if_neg (by omega)])))
theorem s_total {ρ a : Nat} {w : Int} {τ : SZ} (hρ : RA ρ a) (hw : -1000 ≤ w ∧ w ≤ 1000) : RZ 2 m5_total [.inl ρ, .inr w] τ (.inl (some (.inr (cel (τ a) (100 + w))), τ)) := by
  rcases hρ with ⟨rfl, rfl⟩ | ⟨rfl, rfl⟩ | ⟨rfl, rfl⟩
  · refine Ex.call ?_ rfl rfl
    show Ex _ _ (cod m5_total 0, [some (.inl 1), some (.inr w)], [], τ) _ _
    refine ex_k 4 (P := none) (g := (cod m5_total 4, [some (.inl 1), some (.inr w)], [.inr (100 + w), .inl 1], τ)) rfl trivial ?_
    refine ex_c (s_cell (τ := τ) (z := 100 + w) (Or.inl ⟨rfl, rfl⟩) ⟨by omega, by omega⟩) (is := cod m5_total 5) (L := [some (.inl 1), some (.inr w)]) (st := []) rfl rfl rfl ?_
    show Ex _ _ (cod m5_total 5, [some (.inl 1), some (.inr w)], [.inr (cel (τ 4) (100 + w))], τ) _ _
    exact ex_r rfl trivial rfl (rfl)
  · refine Ex.call ?_ rfl rfl
    show Ex _ _ (cod m5_total 0, [some (.inl 2), some (.inr w)], [], τ) _ _
    refine ex_k 4 (P := none) (g := (cod m5_total 4, [some (.inl 2), some (.inr w)], [.inr (100 + w), .inl 2], τ)) rfl trivial ?_
    refine ex_c (s_cell (τ := τ) (z := 100 + w) (Or.inr (Or.inl ⟨rfl, rfl⟩)) ⟨by omega, by omega⟩) (is := cod m5_total 5) (L := [some (.inl 2), some (.inr w)]) (st := []) rfl rfl rfl ?_
    show Ex _ _ (cod m5_total 5, [some (.inl 2), some (.inr w)], [.inr (cel (τ 5) (100 + w))], τ) _ _
    exact ex_r rfl trivial rfl (rfl)
  · refine Ex.call ?_ rfl rfl
    show Ex _ _ (cod m5_total 0, [some (.inl 3), some (.inr w)], [], τ) _ _
    refine ex_k 4 (P := none) (g := (cod m5_total 4, [some (.inl 3), some (.inr w)], [.inr (100 + w), .inl 3], τ)) rfl trivial ?_
    refine ex_c (s_cell (τ := τ) (z := 100 + w) (Or.inr (Or.inr ⟨rfl, rfl⟩)) ⟨by omega, by omega⟩) (is := cod m5_total 5) (L := [some (.inl 3), some (.inr w)]) (st := []) rfl rfl rfl ?_
    show Ex _ _ (cod m5_total 5, [some (.inl 3), some (.inr w)], [.inr (cel (τ 6) (100 + w))], τ) _ _
    exact ex_r rfl trivial rfl (rfl)
theorem s_addToTotal {ρ a : Nat} {w m : Int} {τ : SZ} (hρ : RA ρ a) (hw : -1000 ≤ w ∧ w ≤ 1000) : RZ 2 m5_addToTotal [.inl ρ, .inr w, .inr m] τ (.inl (none, zr τ a (sce (τ a) (100 + w) (cel (τ a) (100 + w) + m)))) := by
  rcases hρ with ⟨rfl, rfl⟩ | ⟨rfl, rfl⟩ | ⟨rfl, rfl⟩
  · refine Ex.call ?_ rfl rfl
    show Ex _ _ (cod m5_addToTotal 0, [some (.inl 1), some (.inr w), some (.inr m)], [], τ) _ _
    refine ex_k 8 (P := none) (g := (cod m5_addToTotal 8, [some (.inl 1), some (.inr w), some (.inr m)], [.inr (100 + w), .inl 1, .inr (100 + w), .inl 1], τ)) rfl trivial ?_
    refine ex_c (s_cell (τ := τ) (z := 100 + w) (Or.inl ⟨rfl, rfl⟩) ⟨by omega, by omega⟩) (is := cod m5_addToTotal 9) (L := [some (.inl 1), some (.inr w), some (.inr m)]) (st := [.inr (100 + w), .inl 1]) rfl rfl rfl ?_
    show Ex _ _ (cod m5_addToTotal 9, [some (.inl 1), some (.inr w), some (.inr m)], [.inr (cel (τ 4) (100 + w)), .inr (100 + w), .inl 1], τ) _ _
    refine ex_k 2 (P := none) (g := (cod m5_addToTotal 11, [some (.inl 1), some (.inr w), some (.inr m)], [.inr ((cel (τ 4) (100 + w)) + m), .inr (100 + w), .inl 1], τ)) rfl trivial ?_
    refine ex_c (s_setCell (τ := τ) (z := 100 + w) (v := (cel (τ 4) (100 + w)) + m) (Or.inl ⟨rfl, rfl⟩) ⟨by omega, by omega⟩) (is := cod m5_addToTotal 12) (L := [some (.inl 1), some (.inr w), some (.inr m)]) (st := []) rfl rfl rfl ?_
    show Ex _ _ (cod m5_addToTotal 12, [some (.inl 1), some (.inr w), some (.inr m)], [], (zr τ 4 (sce (τ 4) (100 + w) ((cel (τ 4) (100 + w)) + m)))) _ _
    exact ex_r rfl rfl rfl (rfl)
  · refine Ex.call ?_ rfl rfl
    show Ex _ _ (cod m5_addToTotal 0, [some (.inl 2), some (.inr w), some (.inr m)], [], τ) _ _
    refine ex_k 8 (P := none) (g := (cod m5_addToTotal 8, [some (.inl 2), some (.inr w), some (.inr m)], [.inr (100 + w), .inl 2, .inr (100 + w), .inl 2], τ)) rfl trivial ?_
    refine ex_c (s_cell (τ := τ) (z := 100 + w) (Or.inr (Or.inl ⟨rfl, rfl⟩)) ⟨by omega, by omega⟩) (is := cod m5_addToTotal 9) (L := [some (.inl 2), some (.inr w), some (.inr m)]) (st := [.inr (100 + w), .inl 2]) rfl rfl rfl ?_
    show Ex _ _ (cod m5_addToTotal 9, [some (.inl 2), some (.inr w), some (.inr m)], [.inr (cel (τ 5) (100 + w)), .inr (100 + w), .inl 2], τ) _ _
    refine ex_k 2 (P := none) (g := (cod m5_addToTotal 11, [some (.inl 2), some (.inr w), some (.inr m)], [.inr ((cel (τ 5) (100 + w)) + m), .inr (100 + w), .inl 2], τ)) rfl trivial ?_
    refine ex_c (s_setCell (τ := τ) (z := 100 + w) (v := (cel (τ 5) (100 + w)) + m) (Or.inr (Or.inl ⟨rfl, rfl⟩)) ⟨by omega, by omega⟩) (is := cod m5_addToTotal 12) (L := [some (.inl 2), some (.inr w), some (.inr m)]) (st := []) rfl rfl rfl ?_
    show Ex _ _ (cod m5_addToTotal 12, [some (.inl 2), some (.inr w), some (.inr m)], [], (zr τ 5 (sce (τ 5) (100 + w) ((cel (τ 5) (100 + w)) + m)))) _ _
    exact ex_r rfl rfl rfl (rfl)
  · refine Ex.call ?_ rfl rfl
    show Ex _ _ (cod m5_addToTotal 0, [some (.inl 3), some (.inr w), some (.inr m)], [], τ) _ _
    refine ex_k 8 (P := none) (g := (cod m5_addToTotal 8, [some (.inl 3), some (.inr w), some (.inr m)], [.inr (100 + w), .inl 3, .inr (100 + w), .inl 3], τ)) rfl trivial ?_
    refine ex_c (s_cell (τ := τ) (z := 100 + w) (Or.inr (Or.inr ⟨rfl, rfl⟩)) ⟨by omega, by omega⟩) (is := cod m5_addToTotal 9) (L := [some (.inl 3), some (.inr w), some (.inr m)]) (st := [.inr (100 + w), .inl 3]) rfl rfl rfl ?_
    show Ex _ _ (cod m5_addToTotal 9, [some (.inl 3), some (.inr w), some (.inr m)], [.inr (cel (τ 6) (100 + w)), .inr (100 + w), .inl 3], τ) _ _
    refine ex_k 2 (P := none) (g := (cod m5_addToTotal 11, [some (.inl 3), some (.inr w), some (.inr m)], [.inr ((cel (τ 6) (100 + w)) + m), .inr (100 + w), .inl 3], τ)) rfl trivial ?_
    refine ex_c (s_setCell (τ := τ) (z := 100 + w) (v := (cel (τ 6) (100 + w)) + m) (Or.inr (Or.inr ⟨rfl, rfl⟩)) ⟨by omega, by omega⟩) (is := cod m5_addToTotal 12) (L := [some (.inl 3), some (.inr w), some (.inr m)]) (st := []) rfl rfl rfl ?_
    show Ex _ _ (cod m5_addToTotal 12, [some (.inl 3), some (.inr w), some (.inr m)], [], (zr τ 6 (sce (τ 6) (100 + w) ((cel (τ 6) (100 + w)) + m)))) _ _
    exact ex_r rfl rfl rfl (rfl)
theorem s_changeTurn {ρ a : Nat}  {τ : SZ} (hρ : RA ρ a) : RZ 2 m5_changeTurn [.inl ρ] τ (.inl (none, zr τ a (sce (τ a) 108 (1 - cel (τ a) 108)))) := by
  rcases hρ with ⟨rfl, rfl⟩ | ⟨rfl, rfl⟩ | ⟨rfl, rfl⟩
  · refine Ex.call ?_ rfl rfl
    show Ex _ _ (cod m5_changeTurn 0, [some (.inl 1)], [], τ) _ _
    refine ex_k 5 (P := none) (g := (cod m5_changeTurn 5, [some (.inl 1)], [.inr 108, .inl 1, .inr 1, .inr 108, .inl 1], τ)) rfl trivial ?_
    refine ex_c (s_cell (τ := τ) (z := 108) (Or.inl ⟨rfl, rfl⟩) ⟨by omega, by omega⟩) (is := cod m5_changeTurn 6) (L := [some (.inl 1)]) (st := [.inr 1, .inr 108, .inl 1]) rfl rfl rfl ?_
    show Ex _ _ (cod m5_changeTurn 6, [some (.inl 1)], [.inr (cel (τ 4) 108), .inr 1, .inr 108, .inl 1], τ) _ _
    refine ex_k 1 (P := none) (g := (cod m5_changeTurn 7, [some (.inl 1)], [.inr (1 - (cel (τ 4) 108)), .inr 108, .inl 1], τ)) rfl trivial ?_
    refine ex_c (s_setCell (τ := τ) (z := 108) (v := 1 - (cel (τ 4) 108)) (Or.inl ⟨rfl, rfl⟩) ⟨by omega, by omega⟩) (is := cod m5_changeTurn 8) (L := [some (.inl 1)]) (st := []) rfl rfl rfl ?_
    show Ex _ _ (cod m5_changeTurn 8, [some (.inl 1)], [], (zr τ 4 (sce (τ 4) 108 (1 - (cel (τ 4) 108))))) _ _
    exact ex_r rfl rfl rfl (rfl)
  · refine Ex.call ?_ rfl rfl
    show Ex _ _ (cod m5_changeTurn 0, [some (.inl 2)], [], τ) _ _
    refine ex_k 5 (P := none) (g := (cod m5_changeTurn 5, [some (.inl 2)], [.inr 108, .inl 2, .inr 1, .inr 108, .inl 2], τ)) rfl trivial ?_
    refine ex_c (s_cell (τ := τ) (z := 108) (Or.inr (Or.inl ⟨rfl, rfl⟩)) ⟨by omega, by omega⟩) (is := cod m5_changeTurn 6) (L := [some (.inl 2)]) (st := [.inr 1, .inr 108, .inl 2]) rfl rfl rfl ?_
    show Ex _ _ (cod m5_changeTurn 6, [some (.inl 2)], [.inr (cel (τ 5) 108), .inr 1, .inr 108, .inl 2], τ) _ _
    refine ex_k 1 (P := none) (g := (cod m5_changeTurn 7, [some (.inl 2)], [.inr (1 - (cel (τ 5) 108)), .inr 108, .inl 2], τ)) rfl trivial ?_
    refine ex_c (s_setCell (τ := τ) (z := 108) (v := 1 - (cel (τ 5) 108)) (Or.inr (Or.inl ⟨rfl, rfl⟩)) ⟨by omega, by omega⟩) (is := cod m5_changeTurn 8) (L := [some (.inl 2)]) (st := []) rfl rfl rfl ?_
    show Ex _ _ (cod m5_changeTurn 8, [some (.inl 2)], [], (zr τ 5 (sce (τ 5) 108 (1 - (cel (τ 5) 108))))) _ _
    exact ex_r rfl rfl rfl (rfl)
  · refine Ex.call ?_ rfl rfl
    show Ex _ _ (cod m5_changeTurn 0, [some (.inl 3)], [], τ) _ _
    refine ex_k 5 (P := none) (g := (cod m5_changeTurn 5, [some (.inl 3)], [.inr 108, .inl 3, .inr 1, .inr 108, .inl 3], τ)) rfl trivial ?_
    refine ex_c (s_cell (τ := τ) (z := 108) (Or.inr (Or.inr ⟨rfl, rfl⟩)) ⟨by omega, by omega⟩) (is := cod m5_changeTurn 6) (L := [some (.inl 3)]) (st := [.inr 1, .inr 108, .inl 3]) rfl rfl rfl ?_
    show Ex _ _ (cod m5_changeTurn 6, [some (.inl 3)], [.inr (cel (τ 6) 108), .inr 1, .inr 108, .inl 3], τ) _ _
    refine ex_k 1 (P := none) (g := (cod m5_changeTurn 7, [some (.inl 3)], [.inr (1 - (cel (τ 6) 108)), .inr 108, .inl 3], τ)) rfl trivial ?_
    refine ex_c (s_setCell (τ := τ) (z := 108) (v := 1 - (cel (τ 6) 108)) (Or.inr (Or.inr ⟨rfl, rfl⟩)) ⟨by omega, by omega⟩) (is := cod m5_changeTurn 8) (L := [some (.inl 3)]) (st := []) rfl rfl rfl ?_
    show Ex _ _ (cod m5_changeTurn 8, [some (.inl 3)], [], (zr τ 6 (sce (τ 6) 108 (1 - (cel (τ 6) 108))))) _ _
    exact ex_r rfl rfl rfl (rfl)
theorem s_isFerry {ρ a : Nat} {f : Int} {τ : SZ} (hρ : RA ρ a) (hf : Rng f) (hB : Bd (τ a)) : RZ 2 m5_isFerry [.inl ρ, .inr f] τ (.inl (some (.inr (b2 (0 ≤ f ∧ f < cel (τ a) 107))), τ)) := by
  obtain ⟨hf1, hf2⟩ := hf
  have hb1 := cel_bd hB 107
  rcases hρ with ⟨rfl, rfl⟩ | ⟨rfl, rfl⟩ | ⟨rfl, rfl⟩
  · refine Ex.call ?_ rfl rfl
    show Ex _ _ (cod m5_isFerry 0, [some (.inl 1), some (.inr f)], [], τ) _ _
    refine ex_k 1 (P := none) (g := (cod m5_isFerry 1, [some (.inl 1), some (.inr f)], [.inr f], τ)) rfl trivial ?_
    refine ex_b (P := f < 0) (ct := (cod m5_isFerry 9, [some (.inl 1), some (.inr f)], [], τ)) (cf := (cod m5_isFerry 2, [some (.inl 1), some (.inr f)], [], τ)) rfl ⟨by omega, by omega⟩ (fun h1 => ?_) (fun h1 => ?_)
    · first
      | (exfalso; omega)
      | (
          refine ex_k 1 (P := none) (g := (cod m5_isFerry 10, [some (.inl 1), some (.inr f)], [.inr 0], τ)) rfl trivial ?_
          exact ex_r rfl (by first | exact Or.inl rfl | exact Or.inr rfl | omega) rfl (rI (by first | rw [b2_t (by omega)] | rw [b2_f (by omega)])))
    · first
      | (exfalso; omega)
      | (
          refine ex_k 3 (P := none) (g := (cod m5_isFerry 5, [some (.inl 1), some (.inr f)], [.inr 107, .inl 1, .inr f], τ)) rfl trivial ?_
          refine ex_c (s_cell (τ := τ) (z := 107) (Or.inl ⟨rfl, rfl⟩) ⟨by omega, by omega⟩) (is := cod m5_isFerry 6) (L := [some (.inl 1), some (.inr f)]) (st := [.inr f]) rfl rfl rfl ?_
          show Ex _ _ (cod m5_isFerry 6, [some (.inl 1), some (.inr f)], [.inr (cel (τ 4) 107), .inr f], τ) _ _
          refine ex_b (P := (cel (τ 4) 107) ≤ f) (ct := (cod m5_isFerry 9, [some (.inl 1), some (.inr f)], [], τ)) (cf := (cod m5_isFerry 7, [some (.inl 1), some (.inr f)], [], τ)) rfl ⟨⟨by omega, by omega⟩, ⟨by omega, by omega⟩⟩ (fun h2 => ?_) (fun h2 => ?_)
          · first
            | (exfalso; omega)
            | (
                refine ex_k 1 (P := none) (g := (cod m5_isFerry 10, [some (.inl 1), some (.inr f)], [.inr 0], τ)) rfl trivial ?_
                exact ex_r rfl (by first | exact Or.inl rfl | exact Or.inr rfl | omega) rfl (rI (by first | rw [b2_t (by omega)] | rw [b2_f (by omega)])))
          · first
            | (exfalso; omega)
            | (
                refine ex_k 2 (P := none) (g := (cod m5_isFerry 10, [some (.inl 1), some (.inr f)], [.inr 1], τ)) rfl trivial ?_
                exact ex_r rfl (by first | exact Or.inl rfl | exact Or.inr rfl | omega) rfl (rI (by first | rw [b2_t (by omega)] | rw [b2_f (by omega)]))))
  · refine Ex.call ?_ rfl rfl
    show Ex _ _ (cod m5_isFerry 0, [some (.inl 2), some (.inr f)], [], τ) _ _
    refine ex_k 1 (P := none) (g := (cod m5_isFerry 1, [some (.inl 2), some (.inr f)], [.inr f], τ)) rfl trivial ?_
    refine ex_b (P := f < 0) (ct := (cod m5_isFerry 9, [some (.inl 2), some (.inr f)], [], τ)) (cf := (cod m5_isFerry 2, [some (.inl 2), some (.inr f)], [], τ)) rfl ⟨by omega, by omega⟩ (fun h1 => ?_) (fun h1 => ?_)
    · first
      | (exfalso; omega)
      | (
          refine ex_k 1 (P := none) (g := (cod m5_isFerry 10, [some (.inl 2), some (.inr f)], [.inr 0], τ)) rfl trivial ?_
          exact ex_r rfl (by first | exact Or.inl rfl | exact Or.inr rfl | omega) rfl (rI (by first | rw [b2_t (by omega)] | rw [b2_f (by omega)])))
    · first
      | (exfalso; omega)
      | (
          refine ex_k 3 (P := none) (g := (cod m5_isFerry 5, [some (.inl 2), some (.inr f)], [.inr 107, .inl 2, .inr f], τ)) rfl trivial ?_
          refine ex_c (s_cell (τ := τ) (z := 107) (Or.inr (Or.inl ⟨rfl, rfl⟩)) ⟨by omega, by omega⟩) (is := cod m5_isFerry 6) (L := [some (.inl 2), some (.inr f)]) (st := [.inr f]) rfl rfl rfl ?_
          show Ex _ _ (cod m5_isFerry 6, [some (.inl 2), some (.inr f)], [.inr (cel (τ 5) 107), .inr f], τ) _ _
          refine ex_b (P := (cel (τ 5) 107) ≤ f) (ct := (cod m5_isFerry 9, [some (.inl 2), some (.inr f)], [], τ)) (cf := (cod m5_isFerry 7, [some (.inl 2), some (.inr f)], [], τ)) rfl ⟨⟨by omega, by omega⟩, ⟨by omega, by omega⟩⟩ (fun h2 => ?_) (fun h2 => ?_)
          · first
            | (exfalso; omega)
            | (
                refine ex_k 1 (P := none) (g := (cod m5_isFerry 10, [some (.inl 2), some (.inr f)], [.inr 0], τ)) rfl trivial ?_
                exact ex_r rfl (by first | exact Or.inl rfl | exact Or.inr rfl | omega) rfl (rI (by first | rw [b2_t (by omega)] | rw [b2_f (by omega)])))
          · first
            | (exfalso; omega)
            | (
                refine ex_k 2 (P := none) (g := (cod m5_isFerry 10, [some (.inl 2), some (.inr f)], [.inr 1], τ)) rfl trivial ?_
                exact ex_r rfl (by first | exact Or.inl rfl | exact Or.inr rfl | omega) rfl (rI (by first | rw [b2_t (by omega)] | rw [b2_f (by omega)]))))
  · refine Ex.call ?_ rfl rfl
    show Ex _ _ (cod m5_isFerry 0, [some (.inl 3), some (.inr f)], [], τ) _ _
    refine ex_k 1 (P := none) (g := (cod m5_isFerry 1, [some (.inl 3), some (.inr f)], [.inr f], τ)) rfl trivial ?_
    refine ex_b (P := f < 0) (ct := (cod m5_isFerry 9, [some (.inl 3), some (.inr f)], [], τ)) (cf := (cod m5_isFerry 2, [some (.inl 3), some (.inr f)], [], τ)) rfl ⟨by omega, by omega⟩ (fun h1 => ?_) (fun h1 => ?_)
    · first
      | (exfalso; omega)
      | (
          refine ex_k 1 (P := none) (g := (cod m5_isFerry 10, [some (.inl 3), some (.inr f)], [.inr 0], τ)) rfl trivial ?_
          exact ex_r rfl (by first | exact Or.inl rfl | exact Or.inr rfl | omega) rfl (rI (by first | rw [b2_t (by omega)] | rw [b2_f (by omega)])))
    · first
      | (exfalso; omega)
      | (
          refine ex_k 3 (P := none) (g := (cod m5_isFerry 5, [some (.inl 3), some (.inr f)], [.inr 107, .inl 3, .inr f], τ)) rfl trivial ?_
          refine ex_c (s_cell (τ := τ) (z := 107) (Or.inr (Or.inr ⟨rfl, rfl⟩)) ⟨by omega, by omega⟩) (is := cod m5_isFerry 6) (L := [some (.inl 3), some (.inr f)]) (st := [.inr f]) rfl rfl rfl ?_
          show Ex _ _ (cod m5_isFerry 6, [some (.inl 3), some (.inr f)], [.inr (cel (τ 6) 107), .inr f], τ) _ _
          refine ex_b (P := (cel (τ 6) 107) ≤ f) (ct := (cod m5_isFerry 9, [some (.inl 3), some (.inr f)], [], τ)) (cf := (cod m5_isFerry 7, [some (.inl 3), some (.inr f)], [], τ)) rfl ⟨⟨by omega, by omega⟩, ⟨by omega, by omega⟩⟩ (fun h2 => ?_) (fun h2 => ?_)
          · first
            | (exfalso; omega)
            | (
                refine ex_k 1 (P := none) (g := (cod m5_isFerry 10, [some (.inl 3), some (.inr f)], [.inr 0], τ)) rfl trivial ?_
                exact ex_r rfl (by first | exact Or.inl rfl | exact Or.inr rfl | omega) rfl (rI (by first | rw [b2_t (by omega)] | rw [b2_f (by omega)])))
          · first
            | (exfalso; omega)
            | (
                refine ex_k 2 (P := none) (g := (cod m5_isFerry 10, [some (.inl 3), some (.inr f)], [.inr 1], τ)) rfl trivial ?_
                exact ex_r rfl (by first | exact Or.inl rfl | exact Or.inr rfl | omega) rfl (rI (by first | rw [b2_t (by omega)] | rw [b2_f (by omega)]))))
theorem s_number {ρ a : Nat} {f w : Int} {τ : SZ} (hρ : RA ρ a) (hf : -1000 ≤ f ∧ f ≤ 1000) (hw : -1000 ≤ w ∧ w ≤ 1000) : RZ 1 m5_number [.inl ρ, .inr f, .inr w] τ (.inl (some (.inr (cel (τ a) (0 + f * 6 + w))), τ)) := by
  rcases hρ with ⟨rfl, rfl⟩ | ⟨rfl, rfl⟩ | ⟨rfl, rfl⟩
  · refine Ex.call ?_ rfl rfl
    show Ex _ _ (cod m5_number 0, [some (.inl 1), some (.inr f), some (.inr w), none], [], τ) _ _
    refine ex_k 9 (P := none) (g := (cod m5_number 9, [some (.inl 1), some (.inr f), some (.inr w), some (.inr ((0 + (f * 6)) + w))], [.inr ((0 + (f * 6)) + w)], τ)) rfl trivial ?_
    refine ex_b (P := ((0 + (f * 6)) + w) < 0) (ct := (cod m5_number 20, [some (.inl 1), some (.inr f), some (.inr w), some (.inr ((0 + (f * 6)) + w))], [], τ)) (cf := (cod m5_number 10, [some (.inl 1), some (.inr f), some (.inr w), some (.inr ((0 + (f * 6)) + w))], [], τ)) rfl ⟨by omega, by omega⟩ (fun h1 => ?_) (fun h1 => ?_)
    · first
      | (exfalso; omega)
      | (
          refine ex_k 1 (P := none) (g := (cod m5_number 21, [some (.inl 1), some (.inr f), some (.inr w), some (.inr ((0 + (f * 6)) + w))], [.inr 0], τ)) rfl trivial ?_
          exact ex_r rfl trivial rfl (rI (by simp only [cel]; first | rw [if_pos (by omega)] | rw [if_neg (by omega)])))
    · first
      | (exfalso; omega)
      | (
          refine ex_k 4 (P := none) (g := (cod m5_number 14, [some (.inl 1), some (.inr f), some (.inr w), some (.inr ((0 + (f * 6)) + w))], [.inr 109, .inr ((0 + (f * 6)) + w)], τ)) rfl trivial ?_
          refine ex_b (P := 109 ≤ ((0 + (f * 6)) + w)) (ct := (cod m5_number 20, [some (.inl 1), some (.inr f), some (.inr w), some (.inr ((0 + (f * 6)) + w))], [], τ)) (cf := (cod m5_number 15, [some (.inl 1), some (.inr f), some (.inr w), some (.inr ((0 + (f * 6)) + w))], [], τ)) rfl ⟨⟨by omega, by omega⟩, ⟨by decide, by decide⟩⟩ (fun h2 => ?_) (fun h2 => ?_)
          · first
            | (exfalso; omega)
            | (
                refine ex_k 1 (P := none) (g := (cod m5_number 21, [some (.inl 1), some (.inr f), some (.inr w), some (.inr ((0 + (f * 6)) + w))], [.inr 0], τ)) rfl trivial ?_
                exact ex_r rfl trivial rfl (rI (by simp only [cel]; first | rw [if_pos (by omega)] | rw [if_neg (by omega)])))
          · first
            | (exfalso; omega)
            | (
                refine ex_k 4 (P := some (0 ≤ ((0 + (f * 6)) + w) ∧ ((0 + (f * 6)) + w) < ((109 : Nat) : Int))) (g := (cod m5_number 19, [some (.inl 1), some (.inr f), some (.inr w), some (.inr ((0 + (f * 6)) + w))], [.inr ((τ 4) ((0 + (f * 6)) + w).toNat)], τ)) rfl (by show 0 ≤ ((0 + (f * 6)) + w) ∧ ((0 + (f * 6)) + w) < ((109 : Nat) : Int); omega) ?_
                refine ex_k 1 (P := none) (g := (cod m5_number 21, [some (.inl 1), some (.inr f), some (.inr w), some (.inr ((0 + (f * 6)) + w))], [.inr ((τ 4) ((0 + (f * 6)) + w).toNat)], τ)) rfl trivial ?_
                exact ex_r rfl trivial rfl (rI (by simp only [cel]; first | rw [if_pos (by omega)] | rw [if_neg (by omega)]))))
  · refine Ex.call ?_ rfl rfl
    show Ex _ _ (cod m5_number 0, [some (.inl 2), some (.inr f), some (.inr w), none], [], τ) _ _
    refine ex_k 9 (P := none) (g := (cod m5_number 9, [some (.inl 2), some (.inr f), some (.inr w), some (.inr ((0 + (f * 6)) + w))], [.inr ((0 + (f * 6)) + w)], τ)) rfl trivial ?_
    refine ex_b (P := ((0 + (f * 6)) + w) < 0) (ct := (cod m5_number 20, [some (.inl 2), some (.inr f), some (.inr w), some (.inr ((0 + (f * 6)) + w))], [], τ)) (cf := (cod m5_number 10, [some (.inl 2), some (.inr f), some (.inr w), some (.inr ((0 + (f * 6)) + w))], [], τ)) rfl ⟨by omega, by omega⟩ (fun h1 => ?_) (fun h1 => ?_)
    · first
      | (exfalso; omega)
      | (
          refine ex_k 1 (P := none) (g := (cod m5_number 21, [some (.inl 2), some (.inr f), some (.inr w), some (.inr ((0 + (f * 6)) + w))], [.inr 0], τ)) rfl trivial ?_
          exact ex_r rfl trivial rfl (rI (by simp only [cel]; first | rw [if_pos (by omega)] | rw [if_neg (by omega)])))
    · first
      | (exfalso; omega)
      | (
          refine ex_k 4 (P := none) (g := (cod m5_number 14, [some (.inl 2), some (.inr f), some (.inr w), some (.inr ((0 + (f * 6)) + w))], [.inr 109, .inr ((0 + (f * 6)) + w)], τ)) rfl trivial ?_
          refine ex_b (P := 109 ≤ ((0 + (f * 6)) + w)) (ct := (cod m5_number 20, [some (.inl 2), some (.inr f), some (.inr w), some (.inr ((0 + (f * 6)) + w))], [], τ)) (cf := (cod m5_number 15, [some (.inl 2), some (.inr f), some (.inr w), some (.inr ((0 + (f * 6)) + w))], [], τ)) rfl ⟨⟨by omega, by omega⟩, ⟨by decide, by decide⟩⟩ (fun h2 => ?_) (fun h2 => ?_)
          · first
            | (exfalso; omega)
            | (
                refine ex_k 1 (P := none) (g := (cod m5_number 21, [some (.inl 2), some (.inr f), some (.inr w), some (.inr ((0 + (f * 6)) + w))], [.inr 0], τ)) rfl trivial ?_
                exact ex_r rfl trivial rfl (rI (by simp only [cel]; first | rw [if_pos (by omega)] | rw [if_neg (by omega)])))
          · first
            | (exfalso; omega)
            | (
                refine ex_k 4 (P := some (0 ≤ ((0 + (f * 6)) + w) ∧ ((0 + (f * 6)) + w) < ((109 : Nat) : Int))) (g := (cod m5_number 19, [some (.inl 2), some (.inr f), some (.inr w), some (.inr ((0 + (f * 6)) + w))], [.inr ((τ 5) ((0 + (f * 6)) + w).toNat)], τ)) rfl (by show 0 ≤ ((0 + (f * 6)) + w) ∧ ((0 + (f * 6)) + w) < ((109 : Nat) : Int); omega) ?_
                refine ex_k 1 (P := none) (g := (cod m5_number 21, [some (.inl 2), some (.inr f), some (.inr w), some (.inr ((0 + (f * 6)) + w))], [.inr ((τ 5) ((0 + (f * 6)) + w).toNat)], τ)) rfl trivial ?_
                exact ex_r rfl trivial rfl (rI (by simp only [cel]; first | rw [if_pos (by omega)] | rw [if_neg (by omega)]))))
  · refine Ex.call ?_ rfl rfl
    show Ex _ _ (cod m5_number 0, [some (.inl 3), some (.inr f), some (.inr w), none], [], τ) _ _
    refine ex_k 9 (P := none) (g := (cod m5_number 9, [some (.inl 3), some (.inr f), some (.inr w), some (.inr ((0 + (f * 6)) + w))], [.inr ((0 + (f * 6)) + w)], τ)) rfl trivial ?_
    refine ex_b (P := ((0 + (f * 6)) + w) < 0) (ct := (cod m5_number 20, [some (.inl 3), some (.inr f), some (.inr w), some (.inr ((0 + (f * 6)) + w))], [], τ)) (cf := (cod m5_number 10, [some (.inl 3), some (.inr f), some (.inr w), some (.inr ((0 + (f * 6)) + w))], [], τ)) rfl ⟨by omega, by omega⟩ (fun h1 => ?_) (fun h1 => ?_)
    · first
      | (exfalso; omega)
      | (
          refine ex_k 1 (P := none) (g := (cod m5_number 21, [some (.inl 3), some (.inr f), some (.inr w), some (.inr ((0 + (f * 6)) + w))], [.inr 0], τ)) rfl trivial ?_
          exact ex_r rfl trivial rfl (rI (by simp only [cel]; first | rw [if_pos (by omega)] | rw [if_neg (by omega)])))
    · first
      | (exfalso; omega)
      | (
          refine ex_k 4 (P := none) (g := (cod m5_number 14, [some (.inl 3), some (.inr f), some (.inr w), some (.inr ((0 + (f * 6)) + w))], [.inr 109, .inr ((0 + (f * 6)) + w)], τ)) rfl trivial ?_
          refine ex_b (P := 109 ≤ ((0 + (f * 6)) + w)) (ct := (cod m5_number 20, [some (.inl 3), some (.inr f), some (.inr w), some (.inr ((0 + (f * 6)) + w))], [], τ)) (cf := (cod m5_number 15, [some (.inl 3), some (.inr f), some (.inr w), some (.inr ((0 + (f * 6)) + w))], [], τ)) rfl ⟨⟨by omega, by omega⟩, ⟨by decide, by decide⟩⟩ (fun h2 => ?_) (fun h2 => ?_)
          · first
            | (exfalso; omega)
            | (
                refine ex_k 1 (P := none) (g := (cod m5_number 21, [some (.inl 3), some (.inr f), some (.inr w), some (.inr ((0 + (f * 6)) + w))], [.inr 0], τ)) rfl trivial ?_
                exact ex_r rfl trivial rfl (rI (by simp only [cel]; first | rw [if_pos (by omega)] | rw [if_neg (by omega)])))
          · first
            | (exfalso; omega)
            | (
                refine ex_k 4 (P := some (0 ≤ ((0 + (f * 6)) + w) ∧ ((0 + (f * 6)) + w) < ((109 : Nat) : Int))) (g := (cod m5_number 19, [some (.inl 3), some (.inr f), some (.inr w), some (.inr ((0 + (f * 6)) + w))], [.inr ((τ 6) ((0 + (f * 6)) + w).toNat)], τ)) rfl (by show 0 ≤ ((0 + (f * 6)) + w) ∧ ((0 + (f * 6)) + w) < ((109 : Nat) : Int); omega) ?_
                refine ex_k 1 (P := none) (g := (cod m5_number 21, [some (.inl 3), some (.inr f), some (.inr w), some (.inr ((0 + (f * 6)) + w))], [.inr ((τ 6) ((0 + (f * 6)) + w).toNat)], τ)) rfl trivial ?_
                exact ex_r rfl trivial rfl (rI (by simp only [cel]; first | rw [if_pos (by omega)] | rw [if_neg (by omega)]))))
theorem s_setNumber {ρ a : Nat} {f w v : Int} {τ : SZ} (hρ : RA ρ a) (hf : -1000 ≤ f ∧ f ≤ 1000) (hw : -1000 ≤ w ∧ w ≤ 1000) : RZ 2 m5_setNumber [.inl ρ, .inr f, .inr w, .inr v] τ (.inl (none, zr τ a (sce (τ a) (0 + f * 6 + w) v))) := by
  rcases hρ with ⟨rfl, rfl⟩ | ⟨rfl, rfl⟩ | ⟨rfl, rfl⟩
  · refine Ex.call ?_ rfl rfl
    show Ex _ _ (cod m5_setNumber 0, [some (.inl 1), some (.inr f), some (.inr w), some (.inr v)], [], τ) _ _
    refine ex_k 9 (P := none) (g := (cod m5_setNumber 9, [some (.inl 1), some (.inr f), some (.inr w), some (.inr v)], [.inr v, .inr ((0 + (f * 6)) + w), .inl 1], τ)) rfl trivial ?_
    refine ex_c (s_setCell (τ := τ) (z := (0 + (f * 6)) + w) (v := v) (Or.inl ⟨rfl, rfl⟩) ⟨by omega, by omega⟩) (is := cod m5_setNumber 10) (L := [some (.inl 1), some (.inr f), some (.inr w), some (.inr v)]) (st := []) rfl rfl rfl ?_
    show Ex _ _ (cod m5_setNumber 10, [some (.inl 1), some (.inr f), some (.inr w), some (.inr v)], [], (zr τ 4 (sce (τ 4) ((0 + (f * 6)) + w) v))) _ _
    exact ex_r rfl rfl rfl (rfl)
  · refine Ex.call ?_ rfl rfl
    show Ex _ _ (cod m5_setNumber 0, [some (.inl 2), some (.inr f), some (.inr w), some (.inr v)], [], τ) _ _
    refine ex_k 9 (P := none) (g := (cod m5_setNumber 9, [some (.inl 2), some (.inr f), some (.inr w), some (.inr v)], [.inr v, .inr ((0 + (f * 6)) + w), .inl 2], τ)) rfl trivial ?_
    refine ex_c (s_setCell (τ := τ) (z := (0 + (f * 6)) + w) (v := v) (Or.inr (Or.inl ⟨rfl, rfl⟩)) ⟨by omega, by omega⟩) (is := cod m5_setNumber 10) (L := [some (.inl 2), some (.inr f), some (.inr w), some (.inr v)]) (st := []) rfl rfl rfl ?_
    show Ex _ _ (cod m5_setNumber 10, [some (.inl 2), some (.inr f), some (.inr w), some (.inr v)], [], (zr τ 5 (sce (τ 5) ((0 + (f * 6)) + w) v))) _ _
    exact ex_r rfl rfl rfl (rfl)
  · refine Ex.call ?_ rfl rfl
    show Ex _ _ (cod m5_setNumber 0, [some (.inl 3), some (.inr f), some (.inr w), some (.inr v)], [], τ) _ _
    refine ex_k 9 (P := none) (g := (cod m5_setNumber 9, [some (.inl 3), some (.inr f), some (.inr w), some (.inr v)], [.inr v, .inr ((0 + (f * 6)) + w), .inl 3], τ)) rfl trivial ?_
    refine ex_c (s_setCell (τ := τ) (z := (0 + (f * 6)) + w) (v := v) (Or.inr (Or.inr ⟨rfl, rfl⟩)) ⟨by omega, by omega⟩) (is := cod m5_setNumber 10) (L := [some (.inl 3), some (.inr f), some (.inr w), some (.inr v)]) (st := []) rfl rfl rfl ?_
    show Ex _ _ (cod m5_setNumber 10, [some (.inl 3), some (.inr f), some (.inr w), some (.inr v)], [], (zr τ 6 (sce (τ 6) ((0 + (f * 6)) + w) v))) _ _
    exact ex_r rfl rfl rfl (rfl)
theorem s_addToNumber {ρ a : Nat} {f w m : Int} {τ : SZ} (hρ : RA ρ a) (hf : -1000 ≤ f ∧ f ≤ 1000) (hw : -1000 ≤ w ∧ w ≤ 1000) : RZ 3 m5_addToNumber [.inl ρ, .inr f, .inr w, .inr m] τ (.inl (none, zr τ a (sce (τ a) (0 + f * 6 + w) (cel (τ a) (0 + f * 6 + w) + m)))) := by
  rcases hρ with ⟨rfl, rfl⟩ | ⟨rfl, rfl⟩ | ⟨rfl, rfl⟩
  · refine Ex.call ?_ rfl rfl
    show Ex _ _ (cod m5_addToNumber 0, [some (.inl 1), some (.inr f), some (.inr w), some (.inr m)], [], τ) _ _
    refine ex_k 6 (P := none) (g := (cod m5_addToNumber 6, [some (.inl 1), some (.inr f), some (.inr w), some (.inr m)], [.inr w, .inr f, .inl 1, .inr w, .inr f, .inl 1], τ)) rfl trivial ?_
    refine ex_c (s_number (τ := τ) (f := f) (w := w) (Or.inl ⟨rfl, rfl⟩) (by omega) (by omega)) (is := cod m5_addToNumber 7) (L := [some (.inl 1), some (.inr f), some (.inr w), some (.inr m)]) (st := [.inr w, .inr f, .inl 1]) rfl rfl rfl ?_
    show Ex _ _ (cod m5_addToNumber 7, [some (.inl 1), some (.inr f), some (.inr w), some (.inr m)], [.inr (cel (τ 4) (0 + f * 6 + w)), .inr w, .inr f, .inl 1], τ) _ _
    refine ex_k 2 (P := none) (g := (cod m5_addToNumber 9, [some (.inl 1), some (.inr f), some (.inr w), some (.inr m)], [.inr ((cel (τ 4) (0 + f * 6 + w)) + m), .inr w, .inr f, .inl 1], τ)) rfl trivial ?_
    refine ex_c (s_setNumber (τ := τ) (f := f) (w := w) (v := (cel (τ 4) (0 + f * 6 + w)) + m) (Or.inl ⟨rfl, rfl⟩) (by omega) (by omega)) (is := cod m5_addToNumber 10) (L := [some (.inl 1), some (.inr f), some (.inr w), some (.inr m)]) (st := []) rfl rfl rfl ?_
    show Ex _ _ (cod m5_addToNumber 10, [some (.inl 1), some (.inr f), some (.inr w), some (.inr m)], [], (zr τ 4 (sce (τ 4) (0 + f * 6 + w) ((cel (τ 4) (0 + f * 6 + w)) + m)))) _ _
    exact ex_r rfl rfl rfl (rfl)
  · refine Ex.call ?_ rfl rfl
    show Ex _ _ (cod m5_addToNumber 0, [some (.inl 2), some (.inr f), some (.inr w), some (.inr m)], [], τ) _ _
    refine ex_k 6 (P := none) (g := (cod m5_addToNumber 6, [some (.inl 2), some (.inr f), some (.inr w), some (.inr m)], [.inr w, .inr f, .inl 2, .inr w, .inr f, .inl 2], τ)) rfl trivial ?_
    refine ex_c (s_number (τ := τ) (f := f) (w := w) (Or.inr (Or.inl ⟨rfl, rfl⟩)) (by omega) (by omega)) (is := cod m5_addToNumber 7) (L := [some (.inl 2), some (.inr f), some (.inr w), some (.inr m)]) (st := [.inr w, .inr f, .inl 2]) rfl rfl rfl ?_
    show Ex _ _ (cod m5_addToNumber 7, [some (.inl 2), some (.inr f), some (.inr w), some (.inr m)], [.inr (cel (τ 5) (0 + f * 6 + w)), .inr w, .inr f, .inl 2], τ) _ _
    refine ex_k 2 (P := none) (g := (cod m5_addToNumber 9, [some (.inl 2), some (.inr f), some (.inr w), some (.inr m)], [.inr ((cel (τ 5) (0 + f * 6 + w)) + m), .inr w, .inr f, .inl 2], τ)) rfl trivial ?_
    refine ex_c (s_setNumber (τ := τ) (f := f) (w := w) (v := (cel (τ 5) (0 + f * 6 + w)) + m) (Or.inr (Or.inl ⟨rfl, rfl⟩)) (by omega) (by omega)) (is := cod m5_addToNumber 10) (L := [some (.inl 2), some (.inr f), some (.inr w), some (.inr m)]) (st := []) rfl rfl rfl ?_
    show Ex _ _ (cod m5_addToNumber 10, [some (.inl 2), some (.inr f), some (.inr w), some (.inr m)], [], (zr τ 5 (sce (τ 5) (0 + f * 6 + w) ((cel (τ 5) (0 + f * 6 + w)) + m)))) _ _
    exact ex_r rfl rfl rfl (rfl)
  · refine Ex.call ?_ rfl rfl
    show Ex _ _ (cod m5_addToNumber 0, [some (.inl 3), some (.inr f), some (.inr w), some (.inr m)], [], τ) _ _
    refine ex_k 6 (P := none) (g := (cod m5_addToNumber 6, [some (.inl 3), some (.inr f), some (.inr w), some (.inr m)], [.inr w, .inr f, .inl 3, .inr w, .inr f, .inl 3], τ)) rfl trivial ?_
    refine ex_c (s_number (τ := τ) (f := f) (w := w) (Or.inr (Or.inr ⟨rfl, rfl⟩)) (by omega) (by omega)) (is := cod m5_addToNumber 7) (L := [some (.inl 3), some (.inr f), some (.inr w), some (.inr m)]) (st := [.inr w, .inr f, .inl 3]) rfl rfl rfl ?_
    show Ex _ _ (cod m5_addToNumber 7, [some (.inl 3), some (.inr f), some (.inr w), some (.inr m)], [.inr (cel (τ 6) (0 + f * 6 + w)), .inr w, .inr f, .inl 3], τ) _ _
    refine ex_k 2 (P := none) (g := (cod m5_addToNumber 9, [some (.inl 3), some (.inr f), some (.inr w), some (.inr m)], [.inr ((cel (τ 6) (0 + f * 6 + w)) + m), .inr w, .inr f, .inl 3], τ)) rfl trivial ?_
    refine ex_c (s_setNumber (τ := τ) (f := f) (w := w) (v := (cel (τ 6) (0 + f * 6 + w)) + m) (Or.inr (Or.inr ⟨rfl, rfl⟩)) (by omega) (by omega)) (is := cod m5_addToNumber 10) (L := [some (.inl 3), some (.inr f), some (.inr w), some (.inr m)]) (st := []) rfl rfl rfl ?_
    show Ex _ _ (cod m5_addToNumber 10, [some (.inl 3), some (.inr f), some (.inr w), some (.inr m)], [], (zr τ 6 (sce (τ 6) (0 + f * 6 + w) ((cel (τ 6) (0 + f * 6 + w)) + m)))) _ _
    exact ex_r rfl rfl rfl (rfl)
theorem s_whoIsAt {ρ a : Nat} {r p : Int} {τ : SZ} (hρ : RA ρ a) (hr : -1000 ≤ r ∧ r ≤ 1000) (hp : Rng p) : RZ 2 m5_whoIsAt [.inl ρ, .inr r, .inr p] τ (.inl (some (.inr (whz (τ a) r p)), τ)) := by
  obtain ⟨hp1, hp2⟩ := hp
  rcases hρ with ⟨rfl, rfl⟩ | ⟨rfl, rfl⟩ | ⟨rfl, rfl⟩
  · refine Ex.call ?_ rfl rfl
    show Ex _ _ (cod m5_whoIsAt 0, [some (.inl 1), some (.inr r), some (.inr p)], [], τ) _ _
    refine ex_k 1 (P := none) (g := (cod m5_whoIsAt 1, [some (.inl 1), some (.inr r), some (.inr p)], [.inr p], τ)) rfl trivial ?_
    refine ex_c (s_isPlace (τ := τ) (z := p) ⟨by omega, by omega⟩) (is := cod m5_whoIsAt 2) (L := [some (.inl 1), some (.inr r), some (.inr p)]) (st := []) rfl rfl rfl ?_
    show Ex _ _ (cod m5_whoIsAt 2, [some (.inl 1), some (.inr r), some (.inr p)], [.inr (b2 (0 ≤ p ∧ p < 12))], τ) _ _
    refine ex_b (P := (b2 (0 ≤ p ∧ p < 12)) = 0) (ct := (cod m5_whoIsAt 13, [some (.inl 1), some (.inr r), some (.inr p)], [], τ)) (cf := (cod m5_whoIsAt 3, [some (.inl 1), some (.inr r), some (.inr p)], [], τ)) rfl b2_rng (fun h1 => ?_) (fun h1 => ?_)
    · first
      | (exfalso; have h1 := b2_e0 h1; omega)
      | (
          have h1 := b2_e0 h1
          refine ex_k 1 (P := none) (g := (cod m5_whoIsAt 14, [some (.inl 1), some (.inr r), some (.inr p)], [.inr (-1)], τ)) rfl trivial ?_
          exact ex_r rfl trivial rfl (rI (by simp only [whz]; first | rw [if_pos (by omega)] | rw [if_neg (by omega)])))
    · first
      | (exfalso; have h1 := b2_n0 h1; omega)
      | (
          have h1 := b2_n0 h1
          refine ex_k 8 (P := none) (g := (cod m5_whoIsAt 11, [some (.inl 1), some (.inr r), some (.inr p)], [.inr ((48 + (r * 12)) + p), .inl 1], τ)) rfl trivial ?_
          refine ex_c (s_cell (τ := τ) (z := (48 + (r * 12)) + p) (Or.inl ⟨rfl, rfl⟩) ⟨by omega, by omega⟩) (is := cod m5_whoIsAt 12) (L := [some (.inl 1), some (.inr r), some (.inr p)]) (st := []) rfl rfl rfl ?_
          show Ex _ _ (cod m5_whoIsAt 12, [some (.inl 1), some (.inr r), some (.inr p)], [.inr (cel (τ 4) ((48 + (r * 12)) + p))], τ) _ _
          refine ex_k 1 (P := none) (g := (cod m5_whoIsAt 14, [some (.inl 1), some (.inr r), some (.inr p)], [.inr (cel (τ 4) ((48 + (r * 12)) + p))], τ)) rfl trivial ?_
          exact ex_r rfl trivial rfl (rI (by simp only [whz]; first | rw [if_pos (by omega)] | rw [if_neg (by omega)])))
  · refine Ex.call ?_ rfl rfl
    show Ex _ _ (cod m5_whoIsAt 0, [some (.inl 2), some (.inr r), some (.inr p)], [], τ) _ _
    refine ex_k 1 (P := none) (g := (cod m5_whoIsAt 1, [some (.inl 2), some (.inr r), some (.inr p)], [.inr p], τ)) rfl trivial ?_
    refine ex_c (s_isPlace (τ := τ) (z := p) ⟨by omega, by omega⟩) (is := cod m5_whoIsAt 2) (L := [some (.inl 2), some (.inr r), some (.inr p)]) (st := []) rfl rfl rfl ?_
    show Ex _ _ (cod m5_whoIsAt 2, [some (.inl 2), some (.inr r), some (.inr p)], [.inr (b2 (0 ≤ p ∧ p < 12))], τ) _ _
    refine ex_b (P := (b2 (0 ≤ p ∧ p < 12)) = 0) (ct := (cod m5_whoIsAt 13, [some (.inl 2), some (.inr r), some (.inr p)], [], τ)) (cf := (cod m5_whoIsAt 3, [some (.inl 2), some (.inr r), some (.inr p)], [], τ)) rfl b2_rng (fun h1 => ?_) (fun h1 => ?_)
    · first
      | (exfalso; have h1 := b2_e0 h1; omega)
      | (
          have h1 := b2_e0 h1
          refine ex_k 1 (P := none) (g := (cod m5_whoIsAt 14, [some (.inl 2), some (.inr r), some (.inr p)], [.inr (-1)], τ)) rfl trivial ?_
          exact ex_r rfl trivial rfl (rI (by simp only [whz]; first | rw [if_pos (by omega)] | rw [if_neg (by omega)])))
    · first
      | (exfalso; have h1 := b2_n0 h1; omega)
      | (
          have h1 := b2_n0 h1
          refine ex_k 8 (P := none) (g := (cod m5_whoIsAt 11, [some (.inl 2), some (.inr r), some (.inr p)], [.inr ((48 + (r * 12)) + p), .inl 2], τ)) rfl trivial ?_
          refine ex_c (s_cell (τ := τ) (z := (48 + (r * 12)) + p) (Or.inr (Or.inl ⟨rfl, rfl⟩)) ⟨by omega, by omega⟩) (is := cod m5_whoIsAt 12) (L := [some (.inl 2), some (.inr r), some (.inr p)]) (st := []) rfl rfl rfl ?_
          show Ex _ _ (cod m5_whoIsAt 12, [some (.inl 2), some (.inr r), some (.inr p)], [.inr (cel (τ 5) ((48 + (r * 12)) + p))], τ) _ _
          refine ex_k 1 (P := none) (g := (cod m5_whoIsAt 14, [some (.inl 2), some (.inr r), some (.inr p)], [.inr (cel (τ 5) ((48 + (r * 12)) + p))], τ)) rfl trivial ?_
          exact ex_r rfl trivial rfl (rI (by simp only [whz]; first | rw [if_pos (by omega)] | rw [if_neg (by omega)])))
  · refine Ex.call ?_ rfl rfl
    show Ex _ _ (cod m5_whoIsAt 0, [some (.inl 3), some (.inr r), some (.inr p)], [], τ) _ _
    refine ex_k 1 (P := none) (g := (cod m5_whoIsAt 1, [some (.inl 3), some (.inr r), some (.inr p)], [.inr p], τ)) rfl trivial ?_
    refine ex_c (s_isPlace (τ := τ) (z := p) ⟨by omega, by omega⟩) (is := cod m5_whoIsAt 2) (L := [some (.inl 3), some (.inr r), some (.inr p)]) (st := []) rfl rfl rfl ?_
    show Ex _ _ (cod m5_whoIsAt 2, [some (.inl 3), some (.inr r), some (.inr p)], [.inr (b2 (0 ≤ p ∧ p < 12))], τ) _ _
    refine ex_b (P := (b2 (0 ≤ p ∧ p < 12)) = 0) (ct := (cod m5_whoIsAt 13, [some (.inl 3), some (.inr r), some (.inr p)], [], τ)) (cf := (cod m5_whoIsAt 3, [some (.inl 3), some (.inr r), some (.inr p)], [], τ)) rfl b2_rng (fun h1 => ?_) (fun h1 => ?_)
    · first
      | (exfalso; have h1 := b2_e0 h1; omega)
      | (
          have h1 := b2_e0 h1
          refine ex_k 1 (P := none) (g := (cod m5_whoIsAt 14, [some (.inl 3), some (.inr r), some (.inr p)], [.inr (-1)], τ)) rfl trivial ?_
          exact ex_r rfl trivial rfl (rI (by simp only [whz]; first | rw [if_pos (by omega)] | rw [if_neg (by omega)])))
    · first
      | (exfalso; have h1 := b2_n0 h1; omega)
      | (
          have h1 := b2_n0 h1
          refine ex_k 8 (P := none) (g := (cod m5_whoIsAt 11, [some (.inl 3), some (.inr r), some (.inr p)], [.inr ((48 + (r * 12)) + p), .inl 3], τ)) rfl trivial ?_
          refine ex_c (s_cell (τ := τ) (z := (48 + (r * 12)) + p) (Or.inr (Or.inr ⟨rfl, rfl⟩)) ⟨by omega, by omega⟩) (is := cod m5_whoIsAt 12) (L := [some (.inl 3), some (.inr r), some (.inr p)]) (st := []) rfl rfl rfl ?_
          show Ex _ _ (cod m5_whoIsAt 12, [some (.inl 3), some (.inr r), some (.inr p)], [.inr (cel (τ 6) ((48 + (r * 12)) + p))], τ) _ _
          refine ex_k 1 (P := none) (g := (cod m5_whoIsAt 14, [some (.inl 3), some (.inr r), some (.inr p)], [.inr (cel (τ 6) ((48 + (r * 12)) + p))], τ)) rfl trivial ?_
          exact ex_r rfl trivial rfl (rI (by simp only [whz]; first | rw [if_pos (by omega)] | rw [if_neg (by omega)])))
theorem s_usesAt {ρ a : Nat} {r p : Int} {τ : SZ} (hρ : RA ρ a) (hr : -1000 ≤ r ∧ r ≤ 1000) (hp : Rng p) : RZ 2 m5_usesAt [.inl ρ, .inr r, .inr p] τ (.inl (some (.inr (usz (τ a) r p)), τ)) := by
  obtain ⟨hp1, hp2⟩ := hp
  rcases hρ with ⟨rfl, rfl⟩ | ⟨rfl, rfl⟩ | ⟨rfl, rfl⟩
  · refine Ex.call ?_ rfl rfl
    show Ex _ _ (cod m5_usesAt 0, [some (.inl 1), some (.inr r), some (.inr p)], [], τ) _ _
    refine ex_k 1 (P := none) (g := (cod m5_usesAt 1, [some (.inl 1), some (.inr r), some (.inr p)], [.inr p], τ)) rfl trivial ?_
    refine ex_c (s_isPlace (τ := τ) (z := p) ⟨by omega, by omega⟩) (is := cod m5_usesAt 2) (L := [some (.inl 1), some (.inr r), some (.inr p)]) (st := []) rfl rfl rfl ?_
    show Ex _ _ (cod m5_usesAt 2, [some (.inl 1), some (.inr r), some (.inr p)], [.inr (b2 (0 ≤ p ∧ p < 12))], τ) _ _
    refine ex_b (P := (b2 (0 ≤ p ∧ p < 12)) = 0) (ct := (cod m5_usesAt 13, [some (.inl 1), some (.inr r), some (.inr p)], [], τ)) (cf := (cod m5_usesAt 3, [some (.inl 1), some (.inr r), some (.inr p)], [], τ)) rfl b2_rng (fun h1 => ?_) (fun h1 => ?_)
    · first
      | (exfalso; have h1 := b2_e0 h1; omega)
      | (
          have h1 := b2_e0 h1
          refine ex_k 1 (P := none) (g := (cod m5_usesAt 14, [some (.inl 1), some (.inr r), some (.inr p)], [.inr 0], τ)) rfl trivial ?_
          exact ex_r rfl trivial rfl (rI (by simp only [usz]; first | rw [if_pos (by omega)] | rw [if_neg (by omega)])))
    · first
      | (exfalso; have h1 := b2_n0 h1; omega)
      | (
          have h1 := b2_n0 h1
          refine ex_k 8 (P := none) (g := (cod m5_usesAt 11, [some (.inl 1), some (.inr r), some (.inr p)], [.inr ((72 + (r * 12)) + p), .inl 1], τ)) rfl trivial ?_
          refine ex_c (s_cell (τ := τ) (z := (72 + (r * 12)) + p) (Or.inl ⟨rfl, rfl⟩) ⟨by omega, by omega⟩) (is := cod m5_usesAt 12) (L := [some (.inl 1), some (.inr r), some (.inr p)]) (st := []) rfl rfl rfl ?_
          show Ex _ _ (cod m5_usesAt 12, [some (.inl 1), some (.inr r), some (.inr p)], [.inr (cel (τ 4) ((72 + (r * 12)) + p))], τ) _ _
          refine ex_k 1 (P := none) (g := (cod m5_usesAt 14, [some (.inl 1), some (.inr r), some (.inr p)], [.inr (cel (τ 4) ((72 + (r * 12)) + p))], τ)) rfl trivial ?_
          exact ex_r rfl trivial rfl (rI (by simp only [usz]; first | rw [if_pos (by omega)] | rw [if_neg (by omega)])))
  · refine Ex.call ?_ rfl rfl
    show Ex _ _ (cod m5_usesAt 0, [some (.inl 2), some (.inr r), some (.inr p)], [], τ) _ _
    refine ex_k 1 (P := none) (g := (cod m5_usesAt 1, [some (.inl 2), some (.inr r), some (.inr p)], [.inr p], τ)) rfl trivial ?_
    refine ex_c (s_isPlace (τ := τ) (z := p) ⟨by omega, by omega⟩) (is := cod m5_usesAt 2) (L := [some (.inl 2), some (.inr r), some (.inr p)]) (st := []) rfl rfl rfl ?_
    show Ex _ _ (cod m5_usesAt 2, [some (.inl 2), some (.inr r), some (.inr p)], [.inr (b2 (0 ≤ p ∧ p < 12))], τ) _ _
    refine ex_b (P := (b2 (0 ≤ p ∧ p < 12)) = 0) (ct := (cod m5_usesAt 13, [some (.inl 2), some (.inr r), some (.inr p)], [], τ)) (cf := (cod m5_usesAt 3, [some (.inl 2), some (.inr r), some (.inr p)], [], τ)) rfl b2_rng (fun h1 => ?_) (fun h1 => ?_)
    · first
      | (exfalso; have h1 := b2_e0 h1; omega)
      | (
          have h1 := b2_e0 h1
          refine ex_k 1 (P := none) (g := (cod m5_usesAt 14, [some (.inl 2), some (.inr r), some (.inr p)], [.inr 0], τ)) rfl trivial ?_
          exact ex_r rfl trivial rfl (rI (by simp only [usz]; first | rw [if_pos (by omega)] | rw [if_neg (by omega)])))
    · first
      | (exfalso; have h1 := b2_n0 h1; omega)
      | (
          have h1 := b2_n0 h1
          refine ex_k 8 (P := none) (g := (cod m5_usesAt 11, [some (.inl 2), some (.inr r), some (.inr p)], [.inr ((72 + (r * 12)) + p), .inl 2], τ)) rfl trivial ?_
          refine ex_c (s_cell (τ := τ) (z := (72 + (r * 12)) + p) (Or.inr (Or.inl ⟨rfl, rfl⟩)) ⟨by omega, by omega⟩) (is := cod m5_usesAt 12) (L := [some (.inl 2), some (.inr r), some (.inr p)]) (st := []) rfl rfl rfl ?_
          show Ex _ _ (cod m5_usesAt 12, [some (.inl 2), some (.inr r), some (.inr p)], [.inr (cel (τ 5) ((72 + (r * 12)) + p))], τ) _ _
          refine ex_k 1 (P := none) (g := (cod m5_usesAt 14, [some (.inl 2), some (.inr r), some (.inr p)], [.inr (cel (τ 5) ((72 + (r * 12)) + p))], τ)) rfl trivial ?_
          exact ex_r rfl trivial rfl (rI (by simp only [usz]; first | rw [if_pos (by omega)] | rw [if_neg (by omega)])))
  · refine Ex.call ?_ rfl rfl
    show Ex _ _ (cod m5_usesAt 0, [some (.inl 3), some (.inr r), some (.inr p)], [], τ) _ _
    refine ex_k 1 (P := none) (g := (cod m5_usesAt 1, [some (.inl 3), some (.inr r), some (.inr p)], [.inr p], τ)) rfl trivial ?_
    refine ex_c (s_isPlace (τ := τ) (z := p) ⟨by omega, by omega⟩) (is := cod m5_usesAt 2) (L := [some (.inl 3), some (.inr r), some (.inr p)]) (st := []) rfl rfl rfl ?_
    show Ex _ _ (cod m5_usesAt 2, [some (.inl 3), some (.inr r), some (.inr p)], [.inr (b2 (0 ≤ p ∧ p < 12))], τ) _ _
    refine ex_b (P := (b2 (0 ≤ p ∧ p < 12)) = 0) (ct := (cod m5_usesAt 13, [some (.inl 3), some (.inr r), some (.inr p)], [], τ)) (cf := (cod m5_usesAt 3, [some (.inl 3), some (.inr r), some (.inr p)], [], τ)) rfl b2_rng (fun h1 => ?_) (fun h1 => ?_)
    · first
      | (exfalso; have h1 := b2_e0 h1; omega)
      | (
          have h1 := b2_e0 h1
          refine ex_k 1 (P := none) (g := (cod m5_usesAt 14, [some (.inl 3), some (.inr r), some (.inr p)], [.inr 0], τ)) rfl trivial ?_
          exact ex_r rfl trivial rfl (rI (by simp only [usz]; first | rw [if_pos (by omega)] | rw [if_neg (by omega)])))
    · first
      | (exfalso; have h1 := b2_n0 h1; omega)
      | (
          have h1 := b2_n0 h1
          refine ex_k 8 (P := none) (g := (cod m5_usesAt 11, [some (.inl 3), some (.inr r), some (.inr p)], [.inr ((72 + (r * 12)) + p), .inl 3], τ)) rfl trivial ?_
          refine ex_c (s_cell (τ := τ) (z := (72 + (r * 12)) + p) (Or.inr (Or.inr ⟨rfl, rfl⟩)) ⟨by omega, by omega⟩) (is := cod m5_usesAt 12) (L := [some (.inl 3), some (.inr r), some (.inr p)]) (st := []) rfl rfl rfl ?_
          show Ex _ _ (cod m5_usesAt 12, [some (.inl 3), some (.inr r), some (.inr p)], [.inr (cel (τ 6) ((72 + (r * 12)) + p))], τ) _ _
          refine ex_k 1 (P := none) (g := (cod m5_usesAt 14, [some (.inl 3), some (.inr r), some (.inr p)], [.inr (cel (τ 6) ((72 + (r * 12)) + p))], τ)) rfl trivial ?_
          exact ex_r rfl trivial rfl (rI (by simp only [usz]; first | rw [if_pos (by omega)] | rw [if_neg (by omega)])))
theorem s_setWho {ρ a : Nat} {r p v : Int} {τ : SZ} (hρ : RA ρ a) (hr : -1000 ≤ r ∧ r ≤ 1000) (hp : Rng p) : RZ 2 m5_setWho [.inl ρ, .inr r, .inr p, .inr v] τ (.inl (none, zr τ a (swh (τ a) r p v))) := by
  obtain ⟨hp1, hp2⟩ := hp
  rcases hρ with ⟨rfl, rfl⟩ | ⟨rfl, rfl⟩ | ⟨rfl, rfl⟩
  · refine Ex.call ?_ rfl rfl
    show Ex _ _ (cod m5_setWho 0, [some (.inl 1), some (.inr r), some (.inr p), some (.inr v)], [], τ) _ _
    refine ex_k 1 (P := none) (g := (cod m5_setWho 1, [some (.inl 1), some (.inr r), some (.inr p), some (.inr v)], [.inr p], τ)) rfl trivial ?_
    refine ex_c (s_isPlace (τ := τ) (z := p) ⟨by omega, by omega⟩) (is := cod m5_setWho 2) (L := [some (.inl 1), some (.inr r), some (.inr p), some (.inr v)]) (st := []) rfl rfl rfl ?_
    show Ex _ _ (cod m5_setWho 2, [some (.inl 1), some (.inr r), some (.inr p), some (.inr v)], [.inr (b2 (0 ≤ p ∧ p < 12))], τ) _ _
    refine ex_b (P := (b2 (0 ≤ p ∧ p < 12)) = 0) (ct := (cod m5_setWho 13, [some (.inl 1), some (.inr r), some (.inr p), some (.inr v)], [], τ)) (cf := (cod m5_setWho 3, [some (.inl 1), some (.inr r), some (.inr p), some (.inr v)], [], τ)) rfl b2_rng (fun h1 => ?_) (fun h1 => ?_)
    · first
      | (exfalso; have h1 := b2_e0 h1; omega)
      | (
          have h1 := b2_e0 h1
          exact ex_r rfl rfl rfl (rV (by simp only [swh]; first | rw [if_pos (by omega)] | (rw [if_neg (by omega)]; exact zr_self))))
    · first
      | (exfalso; have h1 := b2_n0 h1; omega)
      | (
          have h1 := b2_n0 h1
          refine ex_k 9 (P := none) (g := (cod m5_setWho 12, [some (.inl 1), some (.inr r), some (.inr p), some (.inr v)], [.inr v, .inr ((48 + (r * 12)) + p), .inl 1], τ)) rfl trivial ?_
          refine ex_c (s_setCell (τ := τ) (z := (48 + (r * 12)) + p) (v := v) (Or.inl ⟨rfl, rfl⟩) ⟨by omega, by omega⟩) (is := cod m5_setWho 13) (L := [some (.inl 1), some (.inr r), some (.inr p), some (.inr v)]) (st := []) rfl rfl rfl ?_
          show Ex _ _ (cod m5_setWho 13, [some (.inl 1), some (.inr r), some (.inr p), some (.inr v)], [], (zr τ 4 (sce (τ 4) ((48 + (r * 12)) + p) v))) _ _
          exact ex_r rfl rfl rfl (rV (by simp only [swh]; first | rw [if_pos (by omega)] | (rw [if_neg (by omega)]; exact zr_self))))
  · refine Ex.call ?_ rfl rfl
    show Ex _ _ (cod m5_setWho 0, [some (.inl 2), some (.inr r), some (.inr p), some (.inr v)], [], τ) _ _
    refine ex_k 1 (P := none) (g := (cod m5_setWho 1, [some (.inl 2), some (.inr r), some (.inr p), some (.inr v)], [.inr p], τ)) rfl trivial ?_
    refine ex_c (s_isPlace (τ := τ) (z := p) ⟨by omega, by omega⟩) (is := cod m5_setWho 2) (L := [some (.inl 2), some (.inr r), some (.inr p), some (.inr v)]) (st := []) rfl rfl rfl ?_
    show Ex _ _ (cod m5_setWho 2, [some (.inl 2), some (.inr r), some (.inr p), some (.inr v)], [.inr (b2 (0 ≤ p ∧ p < 12))], τ) _ _
    refine ex_b (P := (b2 (0 ≤ p ∧ p < 12)) = 0) (ct := (cod m5_setWho 13, [some (.inl 2), some (.inr r), some (.inr p), some (.inr v)], [], τ)) (cf := (cod m5_setWho 3, [some (.inl 2), some (.inr r), some (.inr p), some (.inr v)], [], τ)) rfl b2_rng (fun h1 => ?_) (fun h1 => ?_)
    · first
      | (exfalso; have h1 := b2_e0 h1; omega)
      | (
          have h1 := b2_e0 h1
          exact ex_r rfl rfl rfl (rV (by simp only [swh]; first | rw [if_pos (by omega)] | (rw [if_neg (by omega)]; exact zr_self))))
    · first
      | (exfalso; have h1 := b2_n0 h1; omega)
      | (
          have h1 := b2_n0 h1
          refine ex_k 9 (P := none) (g := (cod m5_setWho 12, [some (.inl 2), some (.inr r), some (.inr p), some (.inr v)], [.inr v, .inr ((48 + (r * 12)) + p), .inl 2], τ)) rfl trivial ?_
          refine ex_c (s_setCell (τ := τ) (z := (48 + (r * 12)) + p) (v := v) (Or.inr (Or.inl ⟨rfl, rfl⟩)) ⟨by omega, by omega⟩) (is := cod m5_setWho 13) (L := [some (.inl 2), some (.inr r), some (.inr p), some (.inr v)]) (st := []) rfl rfl rfl ?_
          show Ex _ _ (cod m5_setWho 13, [some (.inl 2), some (.inr r), some (.inr p), some (.inr v)], [], (zr τ 5 (sce (τ 5) ((48 + (r * 12)) + p) v))) _ _
          exact ex_r rfl rfl rfl (rV (by simp only [swh]; first | rw [if_pos (by omega)] | (rw [if_neg (by omega)]; exact zr_self))))
  · refine Ex.call ?_ rfl rfl
    show Ex _ _ (cod m5_setWho 0, [some (.inl 3), some (.inr r), some (.inr p), some (.inr v)], [], τ) _ _
    refine ex_k 1 (P := none) (g := (cod m5_setWho 1, [some (.inl 3), some (.inr r), some (.inr p), some (.inr v)], [.inr p], τ)) rfl trivial ?_
    refine ex_c (s_isPlace (τ := τ) (z := p) ⟨by omega, by omega⟩) (is := cod m5_setWho 2) (L := [some (.inl 3), some (.inr r), some (.inr p), some (.inr v)]) (st := []) rfl rfl rfl ?_
    show Ex _ _ (cod m5_setWho 2, [some (.inl 3), some (.inr r), some (.inr p), some (.inr v)], [.inr (b2 (0 ≤ p ∧ p < 12))], τ) _ _
    refine ex_b (P := (b2 (0 ≤ p ∧ p < 12)) = 0) (ct := (cod m5_setWho 13, [some (.inl 3), some (.inr r), some (.inr p), some (.inr v)], [], τ)) (cf := (cod m5_setWho 3, [some (.inl 3), some (.inr r), some (.inr p), some (.inr v)], [], τ)) rfl b2_rng (fun h1 => ?_) (fun h1 => ?_)
    · first
      | (exfalso; have h1 := b2_e0 h1; omega)
      | (
          have h1 := b2_e0 h1
          exact ex_r rfl rfl rfl (rV (by simp only [swh]; first | rw [if_pos (by omega)] | (rw [if_neg (by omega)]; exact zr_self))))
    · first
      | (exfalso; have h1 := b2_n0 h1; omega)
      | (
          have h1 := b2_n0 h1
          refine ex_k 9 (P := none) (g := (cod m5_setWho 12, [some (.inl 3), some (.inr r), some (.inr p), some (.inr v)], [.inr v, .inr ((48 + (r * 12)) + p), .inl 3], τ)) rfl trivial ?_
          refine ex_c (s_setCell (τ := τ) (z := (48 + (r * 12)) + p) (v := v) (Or.inr (Or.inr ⟨rfl, rfl⟩)) ⟨by omega, by omega⟩) (is := cod m5_setWho 13) (L := [some (.inl 3), some (.inr r), some (.inr p), some (.inr v)]) (st := []) rfl rfl rfl ?_
          show Ex _ _ (cod m5_setWho 13, [some (.inl 3), some (.inr r), some (.inr p), some (.inr v)], [], (zr τ 6 (sce (τ 6) ((48 + (r * 12)) + p) v))) _ _
          exact ex_r rfl rfl rfl (rV (by simp only [swh]; first | rw [if_pos (by omega)] | (rw [if_neg (by omega)]; exact zr_self))))
theorem s_setUses {ρ a : Nat} {r p v : Int} {τ : SZ} (hρ : RA ρ a) (hr : -1000 ≤ r ∧ r ≤ 1000) (hp : Rng p) : RZ 2 m5_setUses [.inl ρ, .inr r, .inr p, .inr v] τ (.inl (none, zr τ a (sus (τ a) r p v))) := by
  obtain ⟨hp1, hp2⟩ := hp
  rcases hρ with ⟨rfl, rfl⟩ | ⟨rfl, rfl⟩ | ⟨rfl, rfl⟩
  · refine Ex.call ?_ rfl rfl
    show Ex _ _ (cod m5_setUses 0, [some (.inl 1), some (.inr r), some (.inr p), some (.inr v)], [], τ) _ _
    refine ex_k 1 (P := none) (g := (cod m5_setUses 1, [some (.inl 1), some (.inr r), some (.inr p), some (.inr v)], [.inr p], τ)) rfl trivial ?_
    refine ex_c (s_isPlace (τ := τ) (z := p) ⟨by omega, by omega⟩) (is := cod m5_setUses 2) (L := [some (.inl 1), some (.inr r), some (.inr p), some (.inr v)]) (st := []) rfl rfl rfl ?_
    show Ex _ _ (cod m5_setUses 2, [some (.inl 1), some (.inr r), some (.inr p), some (.inr v)], [.inr (b2 (0 ≤ p ∧ p < 12))], τ) _ _
    refine ex_b (P := (b2 (0 ≤ p ∧ p < 12)) = 0) (ct := (cod m5_setUses 13, [some (.inl 1), some (.inr r), some (.inr p), some (.inr v)], [], τ)) (cf := (cod m5_setUses 3, [some (.inl 1), some (.inr r), some (.inr p), some (.inr v)], [], τ)) rfl b2_rng (fun h1 => ?_) (fun h1 => ?_)
    · first
      | (exfalso; have h1 := b2_e0 h1; omega)
      | (
          have h1 := b2_e0 h1
          exact ex_r rfl rfl rfl (rV (by simp only [sus]; first | rw [if_pos (by omega)] | (rw [if_neg (by omega)]; exact zr_self))))
    · first
      | (exfalso; have h1 := b2_n0 h1; omega)
      | (
          have h1 := b2_n0 h1
          refine ex_k 9 (P := none) (g := (cod m5_setUses 12, [some (.inl 1), some (.inr r), some (.inr p), some (.inr v)], [.inr v, .inr ((72 + (r * 12)) + p), .inl 1], τ)) rfl trivial ?_
          refine ex_c (s_setCell (τ := τ) (z := (72 + (r * 12)) + p) (v := v) (Or.inl ⟨rfl, rfl⟩) ⟨by omega, by omega⟩) (is := cod m5_setUses 13) (L := [some (.inl 1), some (.inr r), some (.inr p), some (.inr v)]) (st := []) rfl rfl rfl ?_
          show Ex _ _ (cod m5_setUses 13, [some (.inl 1), some (.inr r), some (.inr p), some (.inr v)], [], (zr τ 4 (sce (τ 4) ((72 + (r * 12)) + p) v))) _ _
          exact ex_r rfl rfl rfl (rV (by simp only [sus]; first | rw [if_pos (by omega)] | (rw [if_neg (by omega)]; exact zr_self))))
  · refine Ex.call ?_ rfl rfl
    show Ex _ _ (cod m5_setUses 0, [some (.inl 2), some (.inr r), some (.inr p), some (.inr v)], [], τ) _ _
    refine ex_k 1 (P := none) (g := (cod m5_setUses 1, [some (.inl 2), some (.inr r), some (.inr p), some (.inr v)], [.inr p], τ)) rfl trivial ?_
    refine ex_c (s_isPlace (τ := τ) (z := p) ⟨by omega, by omega⟩) (is := cod m5_setUses 2) (L := [some (.inl 2), some (.inr r), some (.inr p), some (.inr v)]) (st := []) rfl rfl rfl ?_
    show Ex _ _ (cod m5_setUses 2, [some (.inl 2), some (.inr r), some (.inr p), some (.inr v)], [.inr (b2 (0 ≤ p ∧ p < 12))], τ) _ _
    refine ex_b (P := (b2 (0 ≤ p ∧ p < 12)) = 0) (ct := (cod m5_setUses 13, [some (.inl 2), some (.inr r), some (.inr p), some (.inr v)], [], τ)) (cf := (cod m5_setUses 3, [some (.inl 2), some (.inr r), some (.inr p), some (.inr v)], [], τ)) rfl b2_rng (fun h1 => ?_) (fun h1 => ?_)
    · first
      | (exfalso; have h1 := b2_e0 h1; omega)
      | (
          have h1 := b2_e0 h1
          exact ex_r rfl rfl rfl (rV (by simp only [sus]; first | rw [if_pos (by omega)] | (rw [if_neg (by omega)]; exact zr_self))))
    · first
      | (exfalso; have h1 := b2_n0 h1; omega)
      | (
          have h1 := b2_n0 h1
          refine ex_k 9 (P := none) (g := (cod m5_setUses 12, [some (.inl 2), some (.inr r), some (.inr p), some (.inr v)], [.inr v, .inr ((72 + (r * 12)) + p), .inl 2], τ)) rfl trivial ?_
          refine ex_c (s_setCell (τ := τ) (z := (72 + (r * 12)) + p) (v := v) (Or.inr (Or.inl ⟨rfl, rfl⟩)) ⟨by omega, by omega⟩) (is := cod m5_setUses 13) (L := [some (.inl 2), some (.inr r), some (.inr p), some (.inr v)]) (st := []) rfl rfl rfl ?_
          show Ex _ _ (cod m5_setUses 13, [some (.inl 2), some (.inr r), some (.inr p), some (.inr v)], [], (zr τ 5 (sce (τ 5) ((72 + (r * 12)) + p) v))) _ _
          exact ex_r rfl rfl rfl (rV (by simp only [sus]; first | rw [if_pos (by omega)] | (rw [if_neg (by omega)]; exact zr_self))))
  · refine Ex.call ?_ rfl rfl
    show Ex _ _ (cod m5_setUses 0, [some (.inl 3), some (.inr r), some (.inr p), some (.inr v)], [], τ) _ _
    refine ex_k 1 (P := none) (g := (cod m5_setUses 1, [some (.inl 3), some (.inr r), some (.inr p), some (.inr v)], [.inr p], τ)) rfl trivial ?_
    refine ex_c (s_isPlace (τ := τ) (z := p) ⟨by omega, by omega⟩) (is := cod m5_setUses 2) (L := [some (.inl 3), some (.inr r), some (.inr p), some (.inr v)]) (st := []) rfl rfl rfl ?_
    show Ex _ _ (cod m5_setUses 2, [some (.inl 3), some (.inr r), some (.inr p), some (.inr v)], [.inr (b2 (0 ≤ p ∧ p < 12))], τ) _ _
    refine ex_b (P := (b2 (0 ≤ p ∧ p < 12)) = 0) (ct := (cod m5_setUses 13, [some (.inl 3), some (.inr r), some (.inr p), some (.inr v)], [], τ)) (cf := (cod m5_setUses 3, [some (.inl 3), some (.inr r), some (.inr p), some (.inr v)], [], τ)) rfl b2_rng (fun h1 => ?_) (fun h1 => ?_)
    · first
      | (exfalso; have h1 := b2_e0 h1; omega)
      | (
          have h1 := b2_e0 h1
          exact ex_r rfl rfl rfl (rV (by simp only [sus]; first | rw [if_pos (by omega)] | (rw [if_neg (by omega)]; exact zr_self))))
    · first
      | (exfalso; have h1 := b2_n0 h1; omega)
      | (
          have h1 := b2_n0 h1
          refine ex_k 9 (P := none) (g := (cod m5_setUses 12, [some (.inl 3), some (.inr r), some (.inr p), some (.inr v)], [.inr v, .inr ((72 + (r * 12)) + p), .inl 3], τ)) rfl trivial ?_
          refine ex_c (s_setCell (τ := τ) (z := (72 + (r * 12)) + p) (v := v) (Or.inr (Or.inr ⟨rfl, rfl⟩)) ⟨by omega, by omega⟩) (is := cod m5_setUses 13) (L := [some (.inl 3), some (.inr r), some (.inr p), some (.inr v)]) (st := []) rfl rfl rfl ?_
          show Ex _ _ (cod m5_setUses 13, [some (.inl 3), some (.inr r), some (.inr p), some (.inr v)], [], (zr τ 6 (sce (τ 6) ((72 + (r * 12)) + p) v))) _ _
          exact ex_r rfl rfl rfl (rV (by simp only [sus]; first | rw [if_pos (by omega)] | (rw [if_neg (by omega)]; exact zr_self))))
/-- a place is there and free -/
def frz (c : Nat → Int) (r p : Int) : Prop := (0 ≤ p ∧ p < 12) ∧ cel c (48 + r * 12 + p) = -1
abbrev frd (c : Nat → Int) (r p : Int) : Prop := (0 ≤ p ∧ p < 12) ∧ cel c (48 + r * 12 + p) = -1
theorem s_isFree {ρ a : Nat} {r p : Int} {τ : SZ} (hρ : RA ρ a) (hr : -1000 ≤ r ∧ r ≤ 1000) (hp : Rng p) (hB : Bd (τ a)) : RZ 2 m5_isFree [.inl ρ, .inr r, .inr p] τ (.inl (some (.inr (b2 (frd (τ a) r p))), τ)) := by
  obtain ⟨hp1, hp2⟩ := hp
  have hb1 := cel_bd hB (48 + r * 12 + p)
  rcases hρ with ⟨rfl, rfl⟩ | ⟨rfl, rfl⟩ | ⟨rfl, rfl⟩
  · refine Ex.call ?_ rfl rfl
    show Ex _ _ (cod m5_isFree 0, [some (.inl 1), some (.inr r), some (.inr p)], [], τ) _ _
    refine ex_k 1 (P := none) (g := (cod m5_isFree 1, [some (.inl 1), some (.inr r), some (.inr p)], [.inr p], τ)) rfl trivial ?_
    refine ex_c (s_isPlace (τ := τ) (z := p) ⟨by omega, by omega⟩) (is := cod m5_isFree 2) (L := [some (.inl 1), some (.inr r), some (.inr p)]) (st := []) rfl rfl rfl ?_
    show Ex _ _ (cod m5_isFree 2, [some (.inl 1), some (.inr r), some (.inr p)], [.inr (b2 (0 ≤ p ∧ p < 12))], τ) _ _
    refine ex_b (P := (b2 (0 ≤ p ∧ p < 12)) = 0) (ct := (cod m5_isFree 16, [some (.inl 1), some (.inr r), some (.inr p)], [], τ)) (cf := (cod m5_isFree 3, [some (.inl 1), some (.inr r), some (.inr p)], [], τ)) rfl b2_rng (fun h1 => ?_) (fun h1 => ?_)
    · first
      | (exfalso; have h1 := b2_e0 h1; omega)
      | (
          have h1 := b2_e0 h1
          refine ex_k 1 (P := none) (g := (cod m5_isFree 17, [some (.inl 1), some (.inr r), some (.inr p)], [.inr 0], τ)) rfl trivial ?_
          exact ex_r rfl (by first | exact Or.inl rfl | exact Or.inr rfl | omega) rfl (rI (by first | rw [b2_t (show _ ∧ _ from ⟨by omega, by omega⟩)] | rw [b2_f (fun q => by have q1 := q.1; have q2 := q.2; omega)])))
    · first
      | (exfalso; have h1 := b2_n0 h1; omega)
      | (
          have h1 := b2_n0 h1
          refine ex_k 8 (P := none) (g := (cod m5_isFree 11, [some (.inl 1), some (.inr r), some (.inr p)], [.inr ((48 + (r * 12)) + p), .inl 1], τ)) rfl trivial ?_
          refine ex_c (s_cell (τ := τ) (z := (48 + (r * 12)) + p) (Or.inl ⟨rfl, rfl⟩) ⟨by omega, by omega⟩) (is := cod m5_isFree 12) (L := [some (.inl 1), some (.inr r), some (.inr p)]) (st := []) rfl rfl rfl ?_
          show Ex _ _ (cod m5_isFree 12, [some (.inl 1), some (.inr r), some (.inr p)], [.inr (cel (τ 4) ((48 + (r * 12)) + p))], τ) _ _
          refine ex_k 1 (P := none) (g := (cod m5_isFree 13, [some (.inl 1), some (.inr r), some (.inr p)], [.inr (-1), .inr (cel (τ 4) ((48 + (r * 12)) + p))], τ)) rfl trivial ?_
          refine ex_b (P := ¬ (cel (τ 4) ((48 + (r * 12)) + p)) = (-1)) (ct := (cod m5_isFree 16, [some (.inl 1), some (.inr r), some (.inr p)], [], τ)) (cf := (cod m5_isFree 14, [some (.inl 1), some (.inr r), some (.inr p)], [], τ)) rfl ⟨⟨by omega, by omega⟩, ⟨by decide, by decide⟩⟩ (fun h2 => ?_) (fun h2 => ?_)
          · first
            | (exfalso; omega)
            | (
                refine ex_k 1 (P := none) (g := (cod m5_isFree 17, [some (.inl 1), some (.inr r), some (.inr p)], [.inr 0], τ)) rfl trivial ?_
                exact ex_r rfl (by first | exact Or.inl rfl | exact Or.inr rfl | omega) rfl (rI (by first | rw [b2_t (show _ ∧ _ from ⟨by omega, by omega⟩)] | rw [b2_f (fun q => by have q1 := q.1; have q2 := q.2; omega)])))
          · first
            | (exfalso; omega)
            | (
                refine ex_k 2 (P := none) (g := (cod m5_isFree 17, [some (.inl 1), some (.inr r), some (.inr p)], [.inr 1], τ)) rfl trivial ?_
                exact ex_r rfl (by first | exact Or.inl rfl | exact Or.inr rfl | omega) rfl (rI (by first | rw [b2_t (show _ ∧ _ from ⟨by omega, by omega⟩)] | rw [b2_f (fun q => by have q1 := q.1; have q2 := q.2; omega)]))))
  · refine Ex.call ?_ rfl rfl
    show Ex _ _ (cod m5_isFree 0, [some (.inl 2), some (.inr r), some (.inr p)], [], τ) _ _
    refine ex_k 1 (P := none) (g := (cod m5_isFree 1, [some (.inl 2), some (.inr r), some (.inr p)], [.inr p], τ)) rfl trivial ?_
    refine ex_c (s_isPlace (τ := τ) (z := p) ⟨by omega, by omega⟩) (is := cod m5_isFree 2) (L := [some (.inl 2), some (.inr r), some (.inr p)]) (st := []) rfl rfl rfl ?_
    show Ex _ _ (cod m5_isFree 2, [some (.inl 2), some (.inr r), some (.inr p)], [.inr (b2 (0 ≤ p ∧ p < 12))], τ) _ _
    refine ex_b (P := (b2 (0 ≤ p ∧ p < 12)) = 0) (ct := (cod m5_isFree 16, [some (.inl 2), some (.inr r), some (.inr p)], [], τ)) (cf := (cod m5_isFree 3, [some (.inl 2), some (.inr r), some (.inr p)], [], τ)) rfl b2_rng (fun h1 => ?_) (fun h1 => ?_)
    · first
      | (exfalso; have h1 := b2_e0 h1; omega)
      | (
          have h1 := b2_e0 h1
          refine ex_k 1 (P := none) (g := (cod m5_isFree 17, [some (.inl 2), some (.inr r), some (.inr p)], [.inr 0], τ)) rfl trivial ?_
          exact ex_r rfl (by first | exact Or.inl rfl | exact Or.inr rfl | omega) rfl (rI (by first | rw [b2_t (show _ ∧ _ from ⟨by omega, by omega⟩)] | rw [b2_f (fun q => by have q1 := q.1; have q2 := q.2; omega)])))
    · first
      | (exfalso; have h1 := b2_n0 h1; omega)
      | (
          have h1 := b2_n0 h1
          refine ex_k 8 (P := none) (g := (cod m5_isFree 11, [some (.inl 2), some (.inr r), some (.inr p)], [.inr ((48 + (r * 12)) + p), .inl 2], τ)) rfl trivial ?_
          refine ex_c (s_cell (τ := τ) (z := (48 + (r * 12)) + p) (Or.inr (Or.inl ⟨rfl, rfl⟩)) ⟨by omega, by omega⟩) (is := cod m5_isFree 12) (L := [some (.inl 2), some (.inr r), some (.inr p)]) (st := []) rfl rfl rfl ?_
          show Ex _ _ (cod m5_isFree 12, [some (.inl 2), some (.inr r), some (.inr p)], [.inr (cel (τ 5) ((48 + (r * 12)) + p))], τ) _ _
          refine ex_k 1 (P := none) (g := (cod m5_isFree 13, [some (.inl 2), some (.inr r), some (.inr p)], [.inr (-1), .inr (cel (τ 5) ((48 + (r * 12)) + p))], τ)) rfl trivial ?_
          refine ex_b (P := ¬ (cel (τ 5) ((48 + (r * 12)) + p)) = (-1)) (ct := (cod m5_isFree 16, [some (.inl 2), some (.inr r), some (.inr p)], [], τ)) (cf := (cod m5_isFree 14, [some (.inl 2), some (.inr r), some (.inr p)], [], τ)) rfl ⟨⟨by omega, by omega⟩, ⟨by decide, by decide⟩⟩ (fun h2 => ?_) (fun h2 => ?_)
          · first
            | (exfalso; omega)
            | (
                refine ex_k 1 (P := none) (g := (cod m5_isFree 17, [some (.inl 2), some (.inr r), some (.inr p)], [.inr 0], τ)) rfl trivial ?_
                exact ex_r rfl (by first | exact Or.inl rfl | exact Or.inr rfl | omega) rfl (rI (by first | rw [b2_t (show _ ∧ _ from ⟨by omega, by omega⟩)] | rw [b2_f (fun q => by have q1 := q.1; have q2 := q.2; omega)])))
          · first
            | (exfalso; omega)
            | (
                refine ex_k 2 (P := none) (g := (cod m5_isFree 17, [some (.inl 2), some (.inr r), some (.inr p)], [.inr 1], τ)) rfl trivial ?_
                exact ex_r rfl (by first | exact Or.inl rfl | exact Or.inr rfl | omega) rfl (rI (by first | rw [b2_t (show _ ∧ _ from ⟨by omega, by omega⟩)] | rw [b2_f (fun q => by have q1 := q.1; have q2 := q.2; omega)]))))
  · refine Ex.call ?_ rfl rfl
    show Ex _ _ (cod m5_isFree 0, [some (.inl 3), some (.inr r), some (.inr p)], [], τ) _ _
    refine ex_k 1 (P := none) (g := (cod m5_isFree 1, [some (.inl 3), some (.inr r), some (.inr p)], [.inr p], τ)) rfl trivial ?_
    refine ex_c (s_isPlace (τ := τ) (z := p) ⟨by omega, by omega⟩) (is := cod m5_isFree 2) (L := [some (.inl 3), some (.inr r), some (.inr p)]) (st := []) rfl rfl rfl ?_
    show Ex _ _ (cod m5_isFree 2, [some (.inl 3), some (.inr r), some (.inr p)], [.inr (b2 (0 ≤ p ∧ p < 12))], τ) _ _
    refine ex_b (P := (b2 (0 ≤ p ∧ p < 12)) = 0) (ct := (cod m5_isFree 16, [some (.inl 3), some (.inr r), some (.inr p)], [], τ)) (cf := (cod m5_isFree 3, [some (.inl 3), some (.inr r), some (.inr p)], [], τ)) rfl b2_rng (fun h1 => ?_) (fun h1 => ?_)
    · first
      | (exfalso; have h1 := b2_e0 h1; omega)
      | (
          have h1 := b2_e0 h1
          refine ex_k 1 (P := none) (g := (cod m5_isFree 17, [some (.inl 3), some (.inr r), some (.inr p)], [.inr 0], τ)) rfl trivial ?_
          exact ex_r rfl (by first | exact Or.inl rfl | exact Or.inr rfl | omega) rfl (rI (by first | rw [b2_t (show _ ∧ _ from ⟨by omega, by omega⟩)] | rw [b2_f (fun q => by have q1 := q.1; have q2 := q.2; omega)])))
    · first
      | (exfalso; have h1 := b2_n0 h1; omega)
      | (
          have h1 := b2_n0 h1
          refine ex_k 8 (P := none) (g := (cod m5_isFree 11, [some (.inl 3), some (.inr r), some (.inr p)], [.inr ((48 + (r * 12)) + p), .inl 3], τ)) rfl trivial ?_
          refine ex_c (s_cell (τ := τ) (z := (48 + (r * 12)) + p) (Or.inr (Or.inr ⟨rfl, rfl⟩)) ⟨by omega, by omega⟩) (is := cod m5_isFree 12) (L := [some (.inl 3), some (.inr r), some (.inr p)]) (st := []) rfl rfl rfl ?_
          show Ex _ _ (cod m5_isFree 12, [some (.inl 3), some (.inr r), some (.inr p)], [.inr (cel (τ 6) ((48 + (r * 12)) + p))], τ) _ _
          refine ex_k 1 (P := none) (g := (cod m5_isFree 13, [some (.inl 3), some (.inr r), some (.inr p)], [.inr (-1), .inr (cel (τ 6) ((48 + (r * 12)) + p))], τ)) rfl trivial ?_
          refine ex_b (P := ¬ (cel (τ 6) ((48 + (r * 12)) + p)) = (-1)) (ct := (cod m5_isFree 16, [some (.inl 3), some (.inr r), some (.inr p)], [], τ)) (cf := (cod m5_isFree 14, [some (.inl 3), some (.inr r), some (.inr p)], [], τ)) rfl ⟨⟨by omega, by omega⟩, ⟨by decide, by decide⟩⟩ (fun h2 => ?_) (fun h2 => ?_)
          · first
            | (exfalso; omega)
            | (
                refine ex_k 1 (P := none) (g := (cod m5_isFree 17, [some (.inl 3), some (.inr r), some (.inr p)], [.inr 0], τ)) rfl trivial ?_
                exact ex_r rfl (by first | exact Or.inl rfl | exact Or.inr rfl | omega) rfl (rI (by first | rw [b2_t (show _ ∧ _ from ⟨by omega, by omega⟩)] | rw [b2_f (fun q => by have q1 := q.1; have q2 := q.2; omega)])))
          · first
            | (exfalso; omega)
            | (
                refine ex_k 2 (P := none) (g := (cod m5_isFree 17, [some (.inl 3), some (.inr r), some (.inr p)], [.inr 1], τ)) rfl trivial ?_
                exact ex_r rfl (by first | exact Or.inl rfl | exact Or.inr rfl | omega) rfl (rI (by first | rw [b2_t (show _ ∧ _ from ⟨by omega, by omega⟩)] | rw [b2_f (fun q => by have q1 := q.1; have q2 := q.2; omega)]))))
theorem s_fogBegin {ρ a : Nat} {r : Int} {τ : SZ} (hρ : RA ρ a) (hr : -1000 ≤ r ∧ r ≤ 1000) : RZ 2 m5_fogBegin [.inl ρ, .inr r] τ (.inl (some (.inr (cel (τ a) (96 + r))), τ)) := by
  rcases hρ with ⟨rfl, rfl⟩ | ⟨rfl, rfl⟩ | ⟨rfl, rfl⟩
  · refine Ex.call ?_ rfl rfl
    show Ex _ _ (cod m5_fogBegin 0, [some (.inl 1), some (.inr r)], [], τ) _ _
    refine ex_k 4 (P := none) (g := (cod m5_fogBegin 4, [some (.inl 1), some (.inr r)], [.inr (96 + r), .inl 1], τ)) rfl trivial ?_
    refine ex_c (s_cell (τ := τ) (z := 96 + r) (Or.inl ⟨rfl, rfl⟩) ⟨by omega, by omega⟩) (is := cod m5_fogBegin 5) (L := [some (.inl 1), some (.inr r)]) (st := []) rfl rfl rfl ?_
    show Ex _ _ (cod m5_fogBegin 5, [some (.inl 1), some (.inr r)], [.inr (cel (τ 4) (96 + r))], τ) _ _
    exact ex_r rfl trivial rfl (rfl)
  · refine Ex.call ?_ rfl rfl
    show Ex _ _ (cod m5_fogBegin 0, [some (.inl 2), some (.inr r)], [], τ) _ _
    refine ex_k 4 (P := none) (g := (cod m5_fogBegin 4, [some (.inl 2), some (.inr r)], [.inr (96 + r), .inl 2], τ)) rfl trivial ?_
    refine ex_c (s_cell (τ := τ) (z := 96 + r) (Or.inr (Or.inl ⟨rfl, rfl⟩)) ⟨by omega, by omega⟩) (is := cod m5_fogBegin 5) (L := [some (.inl 2), some (.inr r)]) (st := []) rfl rfl rfl ?_
    show Ex _ _ (cod m5_fogBegin 5, [some (.inl 2), some (.inr r)], [.inr (cel (τ 5) (96 + r))], τ) _ _
    exact ex_r rfl trivial rfl (rfl)
  · refine Ex.call ?_ rfl rfl
    show Ex _ _ (cod m5_fogBegin 0, [some (.inl 3), some (.inr r)], [], τ) _ _
    refine ex_k 4 (P := none) (g := (cod m5_fogBegin 4, [some (.inl 3), some (.inr r)], [.inr (96 + r), .inl 3], τ)) rfl trivial ?_
    refine ex_c (s_cell (τ := τ) (z := 96 + r) (Or.inr (Or.inr ⟨rfl, rfl⟩)) ⟨by omega, by omega⟩) (is := cod m5_fogBegin 5) (L := [some (.inl 3), some (.inr r)]) (st := []) rfl rfl rfl ?_
    show Ex _ _ (cod m5_fogBegin 5, [some (.inl 3), some (.inr r)], [.inr (cel (τ 6) (96 + r))], τ) _ _
    exact ex_r rfl trivial rfl (rfl)
theorem s_fogWidth {ρ a : Nat} {r : Int} {τ : SZ} (hρ : RA ρ a) (hr : -1000 ≤ r ∧ r ≤ 1000) : RZ 2 m5_fogWidth [.inl ρ, .inr r] τ (.inl (some (.inr (cel (τ a) (98 + r))), τ)) := by
  rcases hρ with ⟨rfl, rfl⟩ | ⟨rfl, rfl⟩ | ⟨rfl, rfl⟩
  · refine Ex.call ?_ rfl rfl
    show Ex _ _ (cod m5_fogWidth 0, [some (.inl 1), some (.inr r)], [], τ) _ _
    refine ex_k 4 (P := none) (g := (cod m5_fogWidth 4, [some (.inl 1), some (.inr r)], [.inr (98 + r), .inl 1], τ)) rfl trivial ?_
    refine ex_c (s_cell (τ := τ) (z := 98 + r) (Or.inl ⟨rfl, rfl⟩) ⟨by omega, by omega⟩) (is := cod m5_fogWidth 5) (L := [some (.inl 1), some (.inr r)]) (st := []) rfl rfl rfl ?_
    show Ex _ _ (cod m5_fogWidth 5, [some (.inl 1), some (.inr r)], [.inr (cel (τ 4) (98 + r))], τ) _ _
    exact ex_r rfl trivial rfl (rfl)
  · refine Ex.call ?_ rfl rfl
    show Ex _ _ (cod m5_fogWidth 0, [some (.inl 2), some (.inr r)], [], τ) _ _
    refine ex_k 4 (P := none) (g := (cod m5_fogWidth 4, [some (.inl 2), some (.inr r)], [.inr (98 + r), .inl 2], τ)) rfl trivial ?_
    refine ex_c (s_cell (τ := τ) (z := 98 + r) (Or.inr (Or.inl ⟨rfl, rfl⟩)) ⟨by omega, by omega⟩) (is := cod m5_fogWidth 5) (L := [some (.inl 2), some (.inr r)]) (st := []) rfl rfl rfl ?_
    show Ex _ _ (cod m5_fogWidth 5, [some (.inl 2), some (.inr r)], [.inr (cel (τ 5) (98 + r))], τ) _ _
    exact ex_r rfl trivial rfl (rfl)
  · refine Ex.call ?_ rfl rfl
    show Ex _ _ (cod m5_fogWidth 0, [some (.inl 3), some (.inr r)], [], τ) _ _
    refine ex_k 4 (P := none) (g := (cod m5_fogWidth 4, [some (.inl 3), some (.inr r)], [.inr (98 + r), .inl 3], τ)) rfl trivial ?_
    refine ex_c (s_cell (τ := τ) (z := 98 + r) (Or.inr (Or.inr ⟨rfl, rfl⟩)) ⟨by omega, by omega⟩) (is := cod m5_fogWidth 5) (L := [some (.inl 3), some (.inr r)]) (st := []) rfl rfl rfl ?_
    show Ex _ _ (cod m5_fogWidth 5, [some (.inl 3), some (.inr r)], [.inr (cel (τ 6) (98 + r))], τ) _ _
    exact ex_r rfl trivial rfl (rfl)
theorem s_tellFog {ρ a : Nat} {r b w : Int} {τ : SZ} (hρ : RA ρ a) (hr : -1000 ≤ r ∧ r ≤ 1000) : RZ 3 m5_tellFog [.inl ρ, .inr r, .inr b, .inr w] τ (.inl (some (.inr (cel (τ a) (98 + r))), zr τ a (sce (sce (τ a) (96 + r) b) (98 + r) w))) := by
  rcases hρ with ⟨rfl, rfl⟩ | ⟨rfl, rfl⟩ | ⟨rfl, rfl⟩
  · refine Ex.call ?_ rfl rfl
    show Ex _ _ (cod m5_tellFog 0, [some (.inl 1), some (.inr r), some (.inr b), some (.inr w), none], [], τ) _ _
    refine ex_k 2 (P := none) (g := (cod m5_tellFog 2, [some (.inl 1), some (.inr r), some (.inr b), some (.inr w), none], [.inr r, .inl 1], τ)) rfl trivial ?_
    refine ex_c (s_fogWidth (τ := τ) (r := r) (Or.inl ⟨rfl, rfl⟩) (by omega)) (is := cod m5_tellFog 3) (L := [some (.inl 1), some (.inr r), some (.inr b), some (.inr w), none]) (st := []) rfl rfl rfl ?_
    show Ex _ _ (cod m5_tellFog 3, [some (.inl 1), some (.inr r), some (.inr b), some (.inr w), none], [.inr (cel (τ 4) (98 + r))], τ) _ _
    refine ex_k 6 (P := none) (g := (cod m5_tellFog 9, [some (.inl 1), some (.inr r), some (.inr b), some (.inr w), some (.inr (cel (τ 4) (98 + r)))], [.inr b, .inr (96 + r), .inl 1], τ)) rfl trivial ?_
    refine ex_c (s_setCell (τ := τ) (z := 96 + r) (v := b) (Or.inl ⟨rfl, rfl⟩) ⟨by omega, by omega⟩) (is := cod m5_tellFog 10) (L := [some (.inl 1), some (.inr r), some (.inr b), some (.inr w), some (.inr (cel (τ 4) (98 + r)))]) (st := []) rfl rfl rfl ?_
    show Ex _ _ (cod m5_tellFog 10, [some (.inl 1), some (.inr r), some (.inr b), some (.inr w), some (.inr (cel (τ 4) (98 + r)))], [], (zr τ 4 (sce (τ 4) (96 + r) b))) _ _
    refine ex_k 5 (P := none) (g := (cod m5_tellFog 15, [some (.inl 1), some (.inr r), some (.inr b), some (.inr w), some (.inr (cel (τ 4) (98 + r)))], [.inr w, .inr (98 + r), .inl 1], (zr τ 4 (sce (τ 4) (96 + r) b)))) rfl trivial ?_
    refine ex_c (s_setCell (τ := (zr τ 4 (sce (τ 4) (96 + r) b))) (z := 98 + r) (v := w) (Or.inl ⟨rfl, rfl⟩) ⟨by omega, by omega⟩) (is := cod m5_tellFog 16) (L := [some (.inl 1), some (.inr r), some (.inr b), some (.inr w), some (.inr (cel (τ 4) (98 + r)))]) (st := []) rfl rfl rfl ?_
    show Ex _ _ (cod m5_tellFog 16, [some (.inl 1), some (.inr r), some (.inr b), some (.inr w), some (.inr (cel (τ 4) (98 + r)))], [], (zr (zr τ 4 (sce (τ 4) (96 + r) b)) 4 (sce (sce (τ 4) (96 + r) b) (98 + r) w))) _ _
    refine ex_k 1 (P := none) (g := (cod m5_tellFog 17, [some (.inl 1), some (.inr r), some (.inr b), some (.inr w), some (.inr (cel (τ 4) (98 + r)))], [.inr (cel (τ 4) (98 + r))], (zr (zr τ 4 (sce (τ 4) (96 + r) b)) 4 (sce (sce (τ 4) (96 + r) b) (98 + r) w)))) rfl trivial ?_
    exact ex_r rfl trivial rfl (rIV rfl (by rw [zr_zr]))
  · refine Ex.call ?_ rfl rfl
    show Ex _ _ (cod m5_tellFog 0, [some (.inl 2), some (.inr r), some (.inr b), some (.inr w), none], [], τ) _ _
    refine ex_k 2 (P := none) (g := (cod m5_tellFog 2, [some (.inl 2), some (.inr r), some (.inr b), some (.inr w), none], [.inr r, .inl 2], τ)) rfl trivial ?_
    refine ex_c (s_fogWidth (τ := τ) (r := r) (Or.inr (Or.inl ⟨rfl, rfl⟩)) (by omega)) (is := cod m5_tellFog 3) (L := [some (.inl 2), some (.inr r), some (.inr b), some (.inr w), none]) (st := []) rfl rfl rfl ?_
    show Ex _ _ (cod m5_tellFog 3, [some (.inl 2), some (.inr r), some (.inr b), some (.inr w), none], [.inr (cel (τ 5) (98 + r))], τ) _ _
    refine ex_k 6 (P := none) (g := (cod m5_tellFog 9, [some (.inl 2), some (.inr r), some (.inr b), some (.inr w), some (.inr (cel (τ 5) (98 + r)))], [.inr b, .inr (96 + r), .inl 2], τ)) rfl trivial ?_
    refine ex_c (s_setCell (τ := τ) (z := 96 + r) (v := b) (Or.inr (Or.inl ⟨rfl, rfl⟩)) ⟨by omega, by omega⟩) (is := cod m5_tellFog 10) (L := [some (.inl 2), some (.inr r), some (.inr b), some (.inr w), some (.inr (cel (τ 5) (98 + r)))]) (st := []) rfl rfl rfl ?_
    show Ex _ _ (cod m5_tellFog 10, [some (.inl 2), some (.inr r), some (.inr b), some (.inr w), some (.inr (cel (τ 5) (98 + r)))], [], (zr τ 5 (sce (τ 5) (96 + r) b))) _ _
    refine ex_k 5 (P := none) (g := (cod m5_tellFog 15, [some (.inl 2), some (.inr r), some (.inr b), some (.inr w), some (.inr (cel (τ 5) (98 + r)))], [.inr w, .inr (98 + r), .inl 2], (zr τ 5 (sce (τ 5) (96 + r) b)))) rfl trivial ?_
    refine ex_c (s_setCell (τ := (zr τ 5 (sce (τ 5) (96 + r) b))) (z := 98 + r) (v := w) (Or.inr (Or.inl ⟨rfl, rfl⟩)) ⟨by omega, by omega⟩) (is := cod m5_tellFog 16) (L := [some (.inl 2), some (.inr r), some (.inr b), some (.inr w), some (.inr (cel (τ 5) (98 + r)))]) (st := []) rfl rfl rfl ?_
    show Ex _ _ (cod m5_tellFog 16, [some (.inl 2), some (.inr r), some (.inr b), some (.inr w), some (.inr (cel (τ 5) (98 + r)))], [], (zr (zr τ 5 (sce (τ 5) (96 + r) b)) 5 (sce (sce (τ 5) (96 + r) b) (98 + r) w))) _ _
    refine ex_k 1 (P := none) (g := (cod m5_tellFog 17, [some (.inl 2), some (.inr r), some (.inr b), some (.inr w), some (.inr (cel (τ 5) (98 + r)))], [.inr (cel (τ 5) (98 + r))], (zr (zr τ 5 (sce (τ 5) (96 + r) b)) 5 (sce (sce (τ 5) (96 + r) b) (98 + r) w)))) rfl trivial ?_
    exact ex_r rfl trivial rfl (rIV rfl (by rw [zr_zr]))
  · refine Ex.call ?_ rfl rfl
    show Ex _ _ (cod m5_tellFog 0, [some (.inl 3), some (.inr r), some (.inr b), some (.inr w), none], [], τ) _ _
    refine ex_k 2 (P := none) (g := (cod m5_tellFog 2, [some (.inl 3), some (.inr r), some (.inr b), some (.inr w), none], [.inr r, .inl 3], τ)) rfl trivial ?_
    refine ex_c (s_fogWidth (τ := τ) (r := r) (Or.inr (Or.inr ⟨rfl, rfl⟩)) (by omega)) (is := cod m5_tellFog 3) (L := [some (.inl 3), some (.inr r), some (.inr b), some (.inr w), none]) (st := []) rfl rfl rfl ?_
    show Ex _ _ (cod m5_tellFog 3, [some (.inl 3), some (.inr r), some (.inr b), some (.inr w), none], [.inr (cel (τ 6) (98 + r))], τ) _ _
    refine ex_k 6 (P := none) (g := (cod m5_tellFog 9, [some (.inl 3), some (.inr r), some (.inr b), some (.inr w), some (.inr (cel (τ 6) (98 + r)))], [.inr b, .inr (96 + r), .inl 3], τ)) rfl trivial ?_
    refine ex_c (s_setCell (τ := τ) (z := 96 + r) (v := b) (Or.inr (Or.inr ⟨rfl, rfl⟩)) ⟨by omega, by omega⟩) (is := cod m5_tellFog 10) (L := [some (.inl 3), some (.inr r), some (.inr b), some (.inr w), some (.inr (cel (τ 6) (98 + r)))]) (st := []) rfl rfl rfl ?_
    show Ex _ _ (cod m5_tellFog 10, [some (.inl 3), some (.inr r), some (.inr b), some (.inr w), some (.inr (cel (τ 6) (98 + r)))], [], (zr τ 6 (sce (τ 6) (96 + r) b))) _ _
    refine ex_k 5 (P := none) (g := (cod m5_tellFog 15, [some (.inl 3), some (.inr r), some (.inr b), some (.inr w), some (.inr (cel (τ 6) (98 + r)))], [.inr w, .inr (98 + r), .inl 3], (zr τ 6 (sce (τ 6) (96 + r) b)))) rfl trivial ?_
    refine ex_c (s_setCell (τ := (zr τ 6 (sce (τ 6) (96 + r) b))) (z := 98 + r) (v := w) (Or.inr (Or.inr ⟨rfl, rfl⟩)) ⟨by omega, by omega⟩) (is := cod m5_tellFog 16) (L := [some (.inl 3), some (.inr r), some (.inr b), some (.inr w), some (.inr (cel (τ 6) (98 + r)))]) (st := []) rfl rfl rfl ?_
    show Ex _ _ (cod m5_tellFog 16, [some (.inl 3), some (.inr r), some (.inr b), some (.inr w), some (.inr (cel (τ 6) (98 + r)))], [], (zr (zr τ 6 (sce (τ 6) (96 + r) b)) 6 (sce (sce (τ 6) (96 + r) b) (98 + r) w))) _ _
    refine ex_k 1 (P := none) (g := (cod m5_tellFog 17, [some (.inl 3), some (.inr r), some (.inr b), some (.inr w), some (.inr (cel (τ 6) (98 + r)))], [.inr (cel (τ 6) (98 + r))], (zr (zr τ 6 (sce (τ 6) (96 + r) b)) 6 (sce (sce (τ 6) (96 + r) b) (98 + r) w)))) rfl trivial ?_
    exact ex_r rfl trivial rfl (rIV rfl (by rw [zr_zr]))
theorem s_tellUses {ρ a : Nat} {r p v : Int} {τ : SZ} (hρ : RA ρ a) (hr : -1000 ≤ r ∧ r ≤ 1000) (hp : Rng p) : RZ 3 m5_tellUses [.inl ρ, .inr r, .inr p, .inr v] τ (.inl (some (.inr (usz (τ a) r p)), zr τ a (sus (τ a) r p v))) := by
  obtain ⟨hp1, hp2⟩ := hp
  rcases hρ with ⟨rfl, rfl⟩ | ⟨rfl, rfl⟩ | ⟨rfl, rfl⟩
  · refine Ex.call ?_ rfl rfl
    show Ex _ _ (cod m5_tellUses 0, [some (.inl 1), some (.inr r), some (.inr p), some (.inr v), none], [], τ) _ _
    refine ex_k 3 (P := none) (g := (cod m5_tellUses 3, [some (.inl 1), some (.inr r), some (.inr p), some (.inr v), none], [.inr p, .inr r, .inl 1], τ)) rfl trivial ?_
    refine ex_c (s_usesAt (τ := τ) (r := r) (p := p) (Or.inl ⟨rfl, rfl⟩) (by omega) ⟨by omega, by omega⟩) (is := cod m5_tellUses 4) (L := [some (.inl 1), some (.inr r), some (.inr p), some (.inr v), none]) (st := []) rfl rfl rfl ?_
    show Ex _ _ (cod m5_tellUses 4, [some (.inl 1), some (.inr r), some (.inr p), some (.inr v), none], [.inr (usz (τ 4) r p)], τ) _ _
    refine ex_k 5 (P := none) (g := (cod m5_tellUses 9, [some (.inl 1), some (.inr r), some (.inr p), some (.inr v), some (.inr (usz (τ 4) r p))], [.inr v, .inr p, .inr r, .inl 1], τ)) rfl trivial ?_
    refine ex_c (s_setUses (τ := τ) (r := r) (p := p) (v := v) (Or.inl ⟨rfl, rfl⟩) (by omega) ⟨by omega, by omega⟩) (is := cod m5_tellUses 10) (L := [some (.inl 1), some (.inr r), some (.inr p), some (.inr v), some (.inr (usz (τ 4) r p))]) (st := []) rfl rfl rfl ?_
    show Ex _ _ (cod m5_tellUses 10, [some (.inl 1), some (.inr r), some (.inr p), some (.inr v), some (.inr (usz (τ 4) r p))], [], (zr τ 4 (sus (τ 4) r p v))) _ _
    refine ex_k 1 (P := none) (g := (cod m5_tellUses 11, [some (.inl 1), some (.inr r), some (.inr p), some (.inr v), some (.inr (usz (τ 4) r p))], [.inr (usz (τ 4) r p)], (zr τ 4 (sus (τ 4) r p v)))) rfl trivial ?_
    exact ex_r rfl trivial rfl (rfl)
  · refine Ex.call ?_ rfl rfl
    show Ex _ _ (cod m5_tellUses 0, [some (.inl 2), some (.inr r), some (.inr p), some (.inr v), none], [], τ) _ _
    refine ex_k 3 (P := none) (g := (cod m5_tellUses 3, [some (.inl 2), some (.inr r), some (.inr p), some (.inr v), none], [.inr p, .inr r, .inl 2], τ)) rfl trivial ?_
    refine ex_c (s_usesAt (τ := τ) (r := r) (p := p) (Or.inr (Or.inl ⟨rfl, rfl⟩)) (by omega) ⟨by omega, by omega⟩) (is := cod m5_tellUses 4) (L := [some (.inl 2), some (.inr r), some (.inr p), some (.inr v), none]) (st := []) rfl rfl rfl ?_
    show Ex _ _ (cod m5_tellUses 4, [some (.inl 2), some (.inr r), some (.inr p), some (.inr v), none], [.inr (usz (τ 5) r p)], τ) _ _
    refine ex_k 5 (P := none) (g := (cod m5_tellUses 9, [some (.inl 2), some (.inr r), some (.inr p), some (.inr v), some (.inr (usz (τ 5) r p))], [.inr v, .inr p, .inr r, .inl 2], τ)) rfl trivial ?_
    refine ex_c (s_setUses (τ := τ) (r := r) (p := p) (v := v) (Or.inr (Or.inl ⟨rfl, rfl⟩)) (by omega) ⟨by omega, by omega⟩) (is := cod m5_tellUses 10) (L := [some (.inl 2), some (.inr r), some (.inr p), some (.inr v), some (.inr (usz (τ 5) r p))]) (st := []) rfl rfl rfl ?_
    show Ex _ _ (cod m5_tellUses 10, [some (.inl 2), some (.inr r), some (.inr p), some (.inr v), some (.inr (usz (τ 5) r p))], [], (zr τ 5 (sus (τ 5) r p v))) _ _
    refine ex_k 1 (P := none) (g := (cod m5_tellUses 11, [some (.inl 2), some (.inr r), some (.inr p), some (.inr v), some (.inr (usz (τ 5) r p))], [.inr (usz (τ 5) r p)], (zr τ 5 (sus (τ 5) r p v)))) rfl trivial ?_
    exact ex_r rfl trivial rfl (rfl)
  · refine Ex.call ?_ rfl rfl
    show Ex _ _ (cod m5_tellUses 0, [some (.inl 3), some (.inr r), some (.inr p), some (.inr v), none], [], τ) _ _
    refine ex_k 3 (P := none) (g := (cod m5_tellUses 3, [some (.inl 3), some (.inr r), some (.inr p), some (.inr v), none], [.inr p, .inr r, .inl 3], τ)) rfl trivial ?_
    refine ex_c (s_usesAt (τ := τ) (r := r) (p := p) (Or.inr (Or.inr ⟨rfl, rfl⟩)) (by omega) ⟨by omega, by omega⟩) (is := cod m5_tellUses 4) (L := [some (.inl 3), some (.inr r), some (.inr p), some (.inr v), none]) (st := []) rfl rfl rfl ?_
    show Ex _ _ (cod m5_tellUses 4, [some (.inl 3), some (.inr r), some (.inr p), some (.inr v), none], [.inr (usz (τ 6) r p)], τ) _ _
    refine ex_k 5 (P := none) (g := (cod m5_tellUses 9, [some (.inl 3), some (.inr r), some (.inr p), some (.inr v), some (.inr (usz (τ 6) r p))], [.inr v, .inr p, .inr r, .inl 3], τ)) rfl trivial ?_
    refine ex_c (s_setUses (τ := τ) (r := r) (p := p) (v := v) (Or.inr (Or.inr ⟨rfl, rfl⟩)) (by omega) ⟨by omega, by omega⟩) (is := cod m5_tellUses 10) (L := [some (.inl 3), some (.inr r), some (.inr p), some (.inr v), some (.inr (usz (τ 6) r p))]) (st := []) rfl rfl rfl ?_
    show Ex _ _ (cod m5_tellUses 10, [some (.inl 3), some (.inr r), some (.inr p), some (.inr v), some (.inr (usz (τ 6) r p))], [], (zr τ 6 (sus (τ 6) r p v))) _ _
    refine ex_k 1 (P := none) (g := (cod m5_tellUses 11, [some (.inl 3), some (.inr r), some (.inr p), some (.inr v), some (.inr (usz (τ 6) r p))], [.inr (usz (τ 6) r p)], (zr τ 6 (sus (τ 6) r p v)))) rfl trivial ?_
    exact ex_r rfl trivial rfl (rfl)
abbrev fgd (c : Nat → Int) (r p : Int) : Prop := (p - cel c (96 + r) + 12) % 12 < cel c (98 + r)
/-- the fog of both rivers begins at a place -/
def Fb (c : Nat → Int) : Prop := ∀ r, 0 ≤ r → r < 2 → 0 ≤ cel c (96 + r) ∧ cel c (96 + r) < 12
theorem s_liesInFog {ρ a : Nat} {r p : Int} {τ : SZ} (hρ : RA ρ a) (hr : 0 ≤ r ∧ r < 2) (hp : 0 ≤ p ∧ p < 12) (hF : Fb (τ a)) (hB : Bd (τ a)) : RZ 2 m5_liesInFog [.inl ρ, .inr r, .inr p] τ (.inl (some (.inr (b2 (fgd (τ a) r p))), τ)) := by
  have hb1 := cel_bd hB (96 + r)
  have hb2 := cel_bd hB (98 + r)
  have hf := hF r hr.1 hr.2
  rcases hρ with ⟨rfl, rfl⟩ | ⟨rfl, rfl⟩ | ⟨rfl, rfl⟩
  · refine Ex.call ?_ rfl rfl
    show Ex _ _ (cod m5_liesInFog 0, [some (.inl 1), some (.inr r), some (.inr p), none], [], τ) _ _
    refine ex_k 5 (P := none) (g := (cod m5_liesInFog 5, [some (.inl 1), some (.inr r), some (.inr p), none], [.inr (96 + r), .inl 1, .inr p], τ)) rfl trivial ?_
    refine ex_c (s_cell (τ := τ) (z := 96 + r) (Or.inl ⟨rfl, rfl⟩) ⟨by omega, by omega⟩) (is := cod m5_liesInFog 6) (L := [some (.inl 1), some (.inr r), some (.inr p), none]) (st := [.inr p]) rfl rfl rfl ?_
    show Ex _ _ (cod m5_liesInFog 6, [some (.inl 1), some (.inr r), some (.inr p), none], [.inr (cel (τ 4) (96 + r)), .inr p], τ) _ _
    refine ex_k 5 (P := some (0 ≤ ((p - (cel (τ 4) (96 + r))) + 12) ∧ ((p - (cel (τ 4) (96 + r))) + 12) < 2147483648 ∧ 0 < 12 ∧ 12 < 2147483648)) (g := (cod m5_liesInFog 11, [some (.inl 1), some (.inr r), some (.inr p), none], [.inr (((p - (cel (τ 4) (96 + r))) + 12) % 12)], τ)) rfl (by show 0 ≤ ((p - (cel (τ 4) (96 + r))) + 12) ∧ ((p - (cel (τ 4) (96 + r))) + 12) < 2147483648 ∧ 0 < 12 ∧ 12 < 2147483648; omega) ?_
    refine ex_k 6 (P := none) (g := (cod m5_liesInFog 17, [some (.inl 1), some (.inr r), some (.inr p), some (.inr (((p - (cel (τ 4) (96 + r))) + 12) % 12))], [.inr (98 + r), .inl 1, .inr (((p - (cel (τ 4) (96 + r))) + 12) % 12)], τ)) rfl trivial ?_
    refine ex_c (s_cell (τ := τ) (z := 98 + r) (Or.inl ⟨rfl, rfl⟩) ⟨by omega, by omega⟩) (is := cod m5_liesInFog 18) (L := [some (.inl 1), some (.inr r), some (.inr p), some (.inr (((p - (cel (τ 4) (96 + r))) + 12) % 12))]) (st := [.inr (((p - (cel (τ 4) (96 + r))) + 12) % 12)]) rfl rfl rfl ?_
    show Ex _ _ (cod m5_liesInFog 18, [some (.inl 1), some (.inr r), some (.inr p), some (.inr (((p - (cel (τ 4) (96 + r))) + 12) % 12))], [.inr (cel (τ 4) (98 + r)), .inr (((p - (cel (τ 4) (96 + r))) + 12) % 12)], τ) _ _
    refine ex_b (P := (cel (τ 4) (98 + r)) ≤ (((p - (cel (τ 4) (96 + r))) + 12) % 12)) (ct := (cod m5_liesInFog 21, [some (.inl 1), some (.inr r), some (.inr p), some (.inr (((p - (cel (τ 4) (96 + r))) + 12) % 12))], [], τ)) (cf := (cod m5_liesInFog 19, [some (.inl 1), some (.inr r), some (.inr p), some (.inr (((p - (cel (τ 4) (96 + r))) + 12) % 12))], [], τ)) rfl ⟨⟨by omega, by omega⟩, ⟨by omega, by omega⟩⟩ (fun h1 => ?_) (fun h1 => ?_)
    · first
      | (exfalso; omega)
      | (
          refine ex_k 1 (P := none) (g := (cod m5_liesInFog 22, [some (.inl 1), some (.inr r), some (.inr p), some (.inr (((p - (cel (τ 4) (96 + r))) + 12) % 12))], [.inr 0], τ)) rfl trivial ?_
          exact ex_r rfl (by first | exact Or.inl rfl | exact Or.inr rfl | omega) rfl (rI (by first | rw [b2_t (by show _ < _; omega)] | rw [b2_f (by show ¬ _ < _; omega)])))
    · first
      | (exfalso; omega)
      | (
          refine ex_k 2 (P := none) (g := (cod m5_liesInFog 22, [some (.inl 1), some (.inr r), some (.inr p), some (.inr (((p - (cel (τ 4) (96 + r))) + 12) % 12))], [.inr 1], τ)) rfl trivial ?_
          exact ex_r rfl (by first | exact Or.inl rfl | exact Or.inr rfl | omega) rfl (rI (by first | rw [b2_t (by show _ < _; omega)] | rw [b2_f (by show ¬ _ < _; omega)])))
  · refine Ex.call ?_ rfl rfl
    show Ex _ _ (cod m5_liesInFog 0, [some (.inl 2), some (.inr r), some (.inr p), none], [], τ) _ _
    refine ex_k 5 (P := none) (g := (cod m5_liesInFog 5, [some (.inl 2), some (.inr r), some (.inr p), none], [.inr (96 + r), .inl 2, .inr p], τ)) rfl trivial ?_
    refine ex_c (s_cell (τ := τ) (z := 96 + r) (Or.inr (Or.inl ⟨rfl, rfl⟩)) ⟨by omega, by omega⟩) (is := cod m5_liesInFog 6) (L := [some (.inl 2), some (.inr r), some (.inr p), none]) (st := [.inr p]) rfl rfl rfl ?_
    show Ex _ _ (cod m5_liesInFog 6, [some (.inl 2), some (.inr r), some (.inr p), none], [.inr (cel (τ 5) (96 + r)), .inr p], τ) _ _
    refine ex_k 5 (P := some (0 ≤ ((p - (cel (τ 5) (96 + r))) + 12) ∧ ((p - (cel (τ 5) (96 + r))) + 12) < 2147483648 ∧ 0 < 12 ∧ 12 < 2147483648)) (g := (cod m5_liesInFog 11, [some (.inl 2), some (.inr r), some (.inr p), none], [.inr (((p - (cel (τ 5) (96 + r))) + 12) % 12)], τ)) rfl (by show 0 ≤ ((p - (cel (τ 5) (96 + r))) + 12) ∧ ((p - (cel (τ 5) (96 + r))) + 12) < 2147483648 ∧ 0 < 12 ∧ 12 < 2147483648; omega) ?_
    refine ex_k 6 (P := none) (g := (cod m5_liesInFog 17, [some (.inl 2), some (.inr r), some (.inr p), some (.inr (((p - (cel (τ 5) (96 + r))) + 12) % 12))], [.inr (98 + r), .inl 2, .inr (((p - (cel (τ 5) (96 + r))) + 12) % 12)], τ)) rfl trivial ?_
    refine ex_c (s_cell (τ := τ) (z := 98 + r) (Or.inr (Or.inl ⟨rfl, rfl⟩)) ⟨by omega, by omega⟩) (is := cod m5_liesInFog 18) (L := [some (.inl 2), some (.inr r), some (.inr p), some (.inr (((p - (cel (τ 5) (96 + r))) + 12) % 12))]) (st := [.inr (((p - (cel (τ 5) (96 + r))) + 12) % 12)]) rfl rfl rfl ?_
    show Ex _ _ (cod m5_liesInFog 18, [some (.inl 2), some (.inr r), some (.inr p), some (.inr (((p - (cel (τ 5) (96 + r))) + 12) % 12))], [.inr (cel (τ 5) (98 + r)), .inr (((p - (cel (τ 5) (96 + r))) + 12) % 12)], τ) _ _
    refine ex_b (P := (cel (τ 5) (98 + r)) ≤ (((p - (cel (τ 5) (96 + r))) + 12) % 12)) (ct := (cod m5_liesInFog 21, [some (.inl 2), some (.inr r), some (.inr p), some (.inr (((p - (cel (τ 5) (96 + r))) + 12) % 12))], [], τ)) (cf := (cod m5_liesInFog 19, [some (.inl 2), some (.inr r), some (.inr p), some (.inr (((p - (cel (τ 5) (96 + r))) + 12) % 12))], [], τ)) rfl ⟨⟨by omega, by omega⟩, ⟨by omega, by omega⟩⟩ (fun h1 => ?_) (fun h1 => ?_)
    · first
      | (exfalso; omega)
      | (
          refine ex_k 1 (P := none) (g := (cod m5_liesInFog 22, [some (.inl 2), some (.inr r), some (.inr p), some (.inr (((p - (cel (τ 5) (96 + r))) + 12) % 12))], [.inr 0], τ)) rfl trivial ?_
          exact ex_r rfl (by first | exact Or.inl rfl | exact Or.inr rfl | omega) rfl (rI (by first | rw [b2_t (by show _ < _; omega)] | rw [b2_f (by show ¬ _ < _; omega)])))
    · first
      | (exfalso; omega)
      | (
          refine ex_k 2 (P := none) (g := (cod m5_liesInFog 22, [some (.inl 2), some (.inr r), some (.inr p), some (.inr (((p - (cel (τ 5) (96 + r))) + 12) % 12))], [.inr 1], τ)) rfl trivial ?_
          exact ex_r rfl (by first | exact Or.inl rfl | exact Or.inr rfl | omega) rfl (rI (by first | rw [b2_t (by show _ < _; omega)] | rw [b2_f (by show ¬ _ < _; omega)])))
  · refine Ex.call ?_ rfl rfl
    show Ex _ _ (cod m5_liesInFog 0, [some (.inl 3), some (.inr r), some (.inr p), none], [], τ) _ _
    refine ex_k 5 (P := none) (g := (cod m5_liesInFog 5, [some (.inl 3), some (.inr r), some (.inr p), none], [.inr (96 + r), .inl 3, .inr p], τ)) rfl trivial ?_
    refine ex_c (s_cell (τ := τ) (z := 96 + r) (Or.inr (Or.inr ⟨rfl, rfl⟩)) ⟨by omega, by omega⟩) (is := cod m5_liesInFog 6) (L := [some (.inl 3), some (.inr r), some (.inr p), none]) (st := [.inr p]) rfl rfl rfl ?_
    show Ex _ _ (cod m5_liesInFog 6, [some (.inl 3), some (.inr r), some (.inr p), none], [.inr (cel (τ 6) (96 + r)), .inr p], τ) _ _
    refine ex_k 5 (P := some (0 ≤ ((p - (cel (τ 6) (96 + r))) + 12) ∧ ((p - (cel (τ 6) (96 + r))) + 12) < 2147483648 ∧ 0 < 12 ∧ 12 < 2147483648)) (g := (cod m5_liesInFog 11, [some (.inl 3), some (.inr r), some (.inr p), none], [.inr (((p - (cel (τ 6) (96 + r))) + 12) % 12)], τ)) rfl (by show 0 ≤ ((p - (cel (τ 6) (96 + r))) + 12) ∧ ((p - (cel (τ 6) (96 + r))) + 12) < 2147483648 ∧ 0 < 12 ∧ 12 < 2147483648; omega) ?_
    refine ex_k 6 (P := none) (g := (cod m5_liesInFog 17, [some (.inl 3), some (.inr r), some (.inr p), some (.inr (((p - (cel (τ 6) (96 + r))) + 12) % 12))], [.inr (98 + r), .inl 3, .inr (((p - (cel (τ 6) (96 + r))) + 12) % 12)], τ)) rfl trivial ?_
    refine ex_c (s_cell (τ := τ) (z := 98 + r) (Or.inr (Or.inr ⟨rfl, rfl⟩)) ⟨by omega, by omega⟩) (is := cod m5_liesInFog 18) (L := [some (.inl 3), some (.inr r), some (.inr p), some (.inr (((p - (cel (τ 6) (96 + r))) + 12) % 12))]) (st := [.inr (((p - (cel (τ 6) (96 + r))) + 12) % 12)]) rfl rfl rfl ?_
    show Ex _ _ (cod m5_liesInFog 18, [some (.inl 3), some (.inr r), some (.inr p), some (.inr (((p - (cel (τ 6) (96 + r))) + 12) % 12))], [.inr (cel (τ 6) (98 + r)), .inr (((p - (cel (τ 6) (96 + r))) + 12) % 12)], τ) _ _
    refine ex_b (P := (cel (τ 6) (98 + r)) ≤ (((p - (cel (τ 6) (96 + r))) + 12) % 12)) (ct := (cod m5_liesInFog 21, [some (.inl 3), some (.inr r), some (.inr p), some (.inr (((p - (cel (τ 6) (96 + r))) + 12) % 12))], [], τ)) (cf := (cod m5_liesInFog 19, [some (.inl 3), some (.inr r), some (.inr p), some (.inr (((p - (cel (τ 6) (96 + r))) + 12) % 12))], [], τ)) rfl ⟨⟨by omega, by omega⟩, ⟨by omega, by omega⟩⟩ (fun h1 => ?_) (fun h1 => ?_)
    · first
      | (exfalso; omega)
      | (
          refine ex_k 1 (P := none) (g := (cod m5_liesInFog 22, [some (.inl 3), some (.inr r), some (.inr p), some (.inr (((p - (cel (τ 6) (96 + r))) + 12) % 12))], [.inr 0], τ)) rfl trivial ?_
          exact ex_r rfl (by first | exact Or.inl rfl | exact Or.inr rfl | omega) rfl (rI (by first | rw [b2_t (by show _ < _; omega)] | rw [b2_f (by show ¬ _ < _; omega)])))
    · first
      | (exfalso; omega)
      | (
          refine ex_k 2 (P := none) (g := (cod m5_liesInFog 22, [some (.inl 3), some (.inr r), some (.inr p), some (.inr (((p - (cel (τ 6) (96 + r))) + 12) % 12))], [.inr 1], τ)) rfl trivial ?_
          exact ex_r rfl (by first | exact Or.inl rfl | exact Or.inr rfl | omega) rfl (rI (by first | rw [b2_t (by show _ < _; omega)] | rw [b2_f (by show ¬ _ < _; omega)])))
end RIV
