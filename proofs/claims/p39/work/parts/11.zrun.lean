/-! what the machine over whole numbers answers, the small machine answers: whole runs -/
section ZR
theorem cmp_z {c : Jvm.ClassFile.Cond} {x y : Int} (hx : Rng x) (hy : Rng y) : brC c (iI x) (iI y) ↔ cmpZ c x y := by
  cases c with
  | eq => exact iI_eq hx hy
  | ne => exact not_congr (iI_eq hx hy)
  | lt => exact iI_lt hx hy
  | ge => exact iI_le hy hx
  | gt => exact iI_lt hy hx
  | le => exact iI_le hx hy
theorem bz_ok {i : Nat} {f : FZ} {G P : Prop} {ct cf : FZ} (h : bz i f = some (G, P, ct, cf)) (hG : G) : ∃ P', br i (mapF f) = some (P', mapF ct, mapF cf) ∧ (P' ↔ P) := by
  unfold bz at h
  split at h
  next pc cd off len is L x st τ =>
    split at h
    next t hz =>
      cases h
      refine ⟨brC cd (iI x) 0, ?_, cmp_z (y := 0) hG ⟨by decide, by decide⟩⟩
      show br i ((pc, .ifCond cd off, len) :: is, mapL L, .inr (iI x) :: st.map vz, sz τ) = _
      simp only [br, hz]
      rfl
    next => cases h
  next pc cd off len is L y x st τ =>
    split at h
    next t hz =>
      cases h
      refine ⟨brC cd (iI x) (iI y), ?_, cmp_z hG.1 hG.2⟩
      show br i ((pc, .if_icmp cd off, len) :: is, mapL L, .inr (iI y) :: .inr (iI x) :: st.map vz, sz τ) = _
      simp only [br, hz]
      rfl
    next => cases h
  next => cases h
theorem fz_ok {f : FZ} {v : Option VZ} (h : fz f = some v) : fin (mapF f) = some (v.map vz) := by
  unfold fz at h
  split at h
  next => cases h; rfl
  next => cases h; rfl
  next => cases h; rfl
  next => cases h
theorem retZ_ok {ret : Option FieldType} {v : Option VZ} (h : retZ ret v) : retOk ret (v.map vz) := by
  match v, ret, h with
  | none, _, h => exact h
  | some (.inr v), some .int, _ => exact ⟨_, rfl, rfl⟩
  | some (.inr v), some .boolean, h => rcases (h : v = 0 ∨ v = 1) with rfl | rfl <;> exact ⟨_, rfl, rfl⟩
  | some (.inr v), some .char, h =>
    obtain ⟨h1, h2⟩ := (h : 0 ≤ v ∧ v < 65536)
    refine ⟨_, rfl, ?_⟩
    show narrow .char (.int (iI v)) = .int (iI v)
    rw [iI_nat h1]
    exact (pk_charN (by omega)).1
  | some (.inl a), some (.object n), _ => exact ⟨n, rfl⟩
theorem tz_ok {i : Nat} {f : FZ} {E : String} (h : tz i f = some E) : thr i (mapF f) = some E := by
  unfold tz at h
  split at h
  next pc ik p1 p2 ic p3 is L st τ =>
    have e : thr i ((pc, .new ik, 3) :: (p1, .dup, 1) :: (p2, .invokespecial ic, 3) :: (p3, .athrow, 1) :: is, mapL L, st.map vz, sz τ) = (match xT (mC i) ik with
      | some (jc, E, _) => cond (Nat.beq ic jc && Nat.ble (st.map vz).length 8) (some E) none
      | none => none) := rfl
    refine e.trans ?_
    rw [List.length_map]
    exact h
  next => cases h
theorem cz_ok {i : Nat} {f : FZ} {j : Nat} {as : List VZ} {g : FZ} (h : cz i f = some (j, as, g)) : cll i (mapF f) = some (j, as.map vz, mapF g) := by
  unfold cz at h
  split at h
  next pc x len is L st τ =>
    show cll i ((pc, .invokevirtual x, len) :: is, mapL L, st.map vz, sz τ) = _
    unfold cll
    dsimp only
    split at h
    next j' q hv =>
      rw [hv]
      dsimp only
      split at h
      next a rest hd =>
        have hd' : (st.map vz).drop (mN j') = .inl a :: rest.map vz := by rw [← List.map_drop, hd]; rfl
        simp only [hd']
        split at h
        next ci fs hsh =>
          simp only [hsh]
          have e1 : ((st.map vz).take (mN j')).length = (st.take (mN j')).length := by rw [← List.map_take, List.length_map]
          rw [e1, List.length_map]
          cases e : (Nat.beq ci (mC j') && (!(mS j') && (Nat.beq (st.take (mN j')).length (mN j') && Nat.ble rest.length 8))) with
          | true =>
            rw [e] at h
            cases h
            rw [← List.map_take, ← List.map_reverse]
            rfl
          | false => rw [e] at h; cases h
        next => cases h
      next => cases h
    next => cases h
  next pc x len is L st τ =>
    show cll i ((pc, .invokestatic x, len) :: is, mapL L, st.map vz, sz τ) = _
    unfold cll
    dsimp only
    split at h
    next j' q hv =>
      rw [hv]
      dsimp only
      have e1 : ((st.map vz).take (mN j')).length = (st.take (mN j')).length := by rw [← List.map_take, List.length_map]
      have e2 : ((st.map vz).drop (mN j')).length = (st.drop (mN j')).length := by rw [← List.map_drop, List.length_map]
      simp only [e1, e2]
      cases e : (mS j' && (Nat.beq (st.take (mN j')).length (mN j') && Nat.ble (st.drop (mN j')).length 8)) with
      | true =>
        rw [e] at h
        cases h
        rw [← List.map_take, ← List.map_reverse, ← List.map_drop]
        rfl
      | false => rw [e] at h; cases h
    next => cases h
  next => cases h
theorem RunZ_ok {cal : Nat → List VV → Sg → RS → Prop} {calz : Nat → List VZ → SZ → RSZ → Prop} (hc : ∀ j as τ r, calz j as τ r → cal j (as.map vz) (sz τ) (mapR r)) {i : Nat} : ∀ (n : Nat) (f : FZ) (u : Nat) (r : RSZ), RunZ calz i n f u r → Run cal i n (mapF f) u (mapR r) := by
  intro n
  induction n with
  | zero => intro f u r h; exact h.elim
  | succ n ih =>
    intro f u r h
    rcases h with ⟨P, g, h1, hP, h2⟩ | ⟨G, P, ct, cf, h1, hG, h2⟩ | ⟨v, h1, h2, h3, rfl⟩ | ⟨E, h1, h2, rfl⟩ | ⟨j, as, is, L, st, τ, h1, h2, rj, h3, h4⟩
    · obtain ⟨is0, L, st, τ⟩ := f
      unfold nz at h1
      split at h1
      next pc0 ins len is L' st' τ' he =>
        cases he
        obtain ⟨P', q1, q2⟩ := nz_ok (len := len) h1 hP
        exact Or.inl ⟨P', mapF g, q1, q2, ih g u r h2⟩
      next => cases h1
    · obtain ⟨P', q1, q2⟩ := bz_ok h1 hG
      refine Or.inr (Or.inl ⟨P', mapF ct, mapF cf, q1, ?_⟩)
      rcases h2 with ⟨a, b⟩ | ⟨a, b⟩
      · exact Or.inl ⟨q2.mpr a, ih ct u r b⟩
      · exact Or.inr ⟨fun z => a (q2.mp z), ih cf u r b⟩
    · exact Or.inr (Or.inr (Or.inl ⟨v.map vz, fz_ok h1, retZ_ok h2, h3, rfl⟩))
    · exact Or.inr (Or.inr (Or.inr (Or.inl ⟨E, tz_ok h1, h2, rfl⟩)))
    · refine Or.inr (Or.inr (Or.inr (Or.inr ⟨j, as.map vz, is, mapL L, st.map vz, sz τ, cz_ok h1, h2, mapR rj, hc _ _ _ _ h3, ?_⟩)))
      rcases h4 with ⟨v, τ', rfl, h4⟩ | ⟨E, τ', rfl, rfl⟩
      · refine Or.inl ⟨v.map vz, sz τ', rfl, ?_⟩
        have h5 := ih _ _ r h4
        have e : mapF (is, L, v.toList ++ st, τ') = (is, mapL L, (v.map vz).toList ++ st.map vz, sz τ') := by cases v <;> rfl
        rw [e] at h5
        exact h5
      · exact Or.inr ⟨E, sz τ', rfl, rfl⟩
theorem RZ_ok : ∀ (d j : Nat) (as : List VZ) (τ : SZ) (r : RSZ), RZ d j as τ r → RR d j (as.map vz) (sz τ) (mapR r) := by
  intro d
  induction d with
  | zero => intro j as τ r h; exact h.elim
  | succ d ih =>
    intro i as τ r h
    obtain ⟨hi, hl, n, h1⟩ := h
    refine ⟨hi, by rw [List.length_map]; exact hl, n, ?_⟩
    have h2 := RunZ_ok ih n _ _ _ h1
    have e : mapF (mK i, iniz i as, [], τ) = (mK i, ini i (as.map vz), [], sz τ) := by
      show (mK i, mapL (iniz i as), [], sz τ) = _
      have : mapL (iniz i as) = ini i (as.map vz) := by
        unfold mapL iniz ini
        rw [List.map_append, List.map_replicate, List.length_map, List.map_map, List.map_map]
        rfl
      rw [this]
    rw [e] at h2
    exact h2
/-! ## rules for runs -/
theorem RunZ.mono {cal cal' : Nat → List VZ → SZ → RSZ → Prop} (hc : ∀ j as τ r, cal j as τ r → cal' j as τ r) {i : Nat} : ∀ (n : Nat) (f : FZ) (u : Nat) (r : RSZ), RunZ cal i n f u r → RunZ cal' i n f u r := by
  intro n
  induction n with
  | zero => intro f u r h; exact h.elim
  | succ n ih =>
    intro f u r h
    rcases h with ⟨P, g, h1, hP, h2⟩ | ⟨G, P, ct, cf, h1, hG, h2⟩ | h | h | ⟨j, as, is, L, st, τ, h1, h2, rj, h3, h4⟩
    · exact Or.inl ⟨P, g, h1, hP, ih _ _ _ h2⟩
    · refine Or.inr (Or.inl ⟨G, P, ct, cf, h1, hG, ?_⟩)
      rcases h2 with ⟨a, b⟩ | ⟨a, b⟩
      · exact Or.inl ⟨a, ih _ _ _ b⟩
      · exact Or.inr ⟨a, ih _ _ _ b⟩
    · exact Or.inr (Or.inr (Or.inl h))
    · exact Or.inr (Or.inr (Or.inr (Or.inl h)))
    · refine Or.inr (Or.inr (Or.inr (Or.inr ⟨j, as, is, L, st, τ, h1, h2, rj, hc _ _ _ _ h3, ?_⟩)))
      rcases h4 with ⟨v, τ', q, h4⟩ | h4
      · exact Or.inl ⟨v, τ', q, ih _ _ _ h4⟩
      · exact Or.inr h4
theorem RZ.mono {d d' j : Nat} {as : List VZ} {τ : SZ} {r : RSZ} (h : RZ d j as τ r) (hd : d ≤ d') : RZ d' j as τ r := by
  have step : ∀ d j as τ r, RZ d j as τ r → RZ (d + 1) j as τ r := by
    intro d
    induction d with
    | zero => intro j as τ r h; exact h.elim
    | succ d ih =>
      intro j as τ r h
      obtain ⟨h1, h2, n, h3⟩ := h
      exact ⟨h1, h2, n, RunZ.mono ih n _ _ _ h3⟩
  obtain ⟨k, rfl⟩ := Nat.le.dest hd
  clear hd
  induction k with
  | zero => exact h
  | succ k ih => exact step _ _ _ _ _ ih
/-- from here the method i ends with r; u: how many exceptions may have been made; d: the depth of what it calls -/
def Ex (d i : Nat) (f : FZ) (u : Nat) (r : RSZ) : Prop := ∃ n, RunZ (RZ d) i n f u r
theorem Ex.call {d i : Nat} {as : List VZ} {τ : SZ} {r : RSZ} (h : Ex d i (mK i, iniz i as, [], τ) 0 r) (hi : Nat.blt i NM = true) (hl : Nat.ble as.length (mL i) = true) : RZ (d + 1) i as τ r := ⟨by simpa using hi, Nat.le_of_ble_eq_true hl, h⟩
theorem ex_n {d i : Nat} {f g : FZ} {u : Nat} {r : RSZ} {P : Option Prop} (h : nz i f = some (P, g)) (hP : oP P) (k : Ex d i g u r) : Ex d i f u r := by
  obtain ⟨n, k⟩ := k
  exact ⟨n + 1, Or.inl ⟨P, g, h, hP, k⟩⟩
def nzK (i : Nat) : Nat → FZ → NXZ
  | 0, c => some (none, c)
  | k + 1, c => match nz i c with
    | some (P, c') => match nzK i k c' with
      | some (Q, c'') => some (oand P Q, c'')
      | none => none
    | none => none
theorem ex_k {d i : Nat} (k : Nat) {g : FZ} {u : Nat} {r : RSZ} {P : Option Prop} : ∀ {f : FZ}, nzK i k f = some (P, g) → oP P → Ex d i g u r → Ex d i f u r := by
  induction k generalizing P with
  | zero => intro f h hP kk; cases h; exact kk
  | succ k ih =>
    intro f h hP kk
    unfold nzK at h
    split at h
    next P1 c' h1 =>
      split at h
      next Q c'' h2 =>
        cases h
        obtain ⟨p1, p2⟩ := oand_iff.mp hP
        exact ex_n h1 p1 (ih h2 p2 kk)
      next => cases h
    next => cases h
theorem ex_b {d i : Nat} {f ct cf : FZ} {u : Nat} {r : RSZ} {G P : Prop} (h : bz i f = some (G, P, ct, cf)) (hG : G) (kt : P → Ex d i ct u r) (kf : ¬ P → Ex d i cf u r) : Ex d i f u r := by
  rcases Classical.em P with q | q
  · obtain ⟨n, k⟩ := kt q
    exact ⟨n + 1, Or.inr (Or.inl ⟨G, P, ct, cf, h, hG, Or.inl ⟨q, k⟩⟩)⟩
  · obtain ⟨n, k⟩ := kf q
    exact ⟨n + 1, Or.inr (Or.inl ⟨G, P, ct, cf, h, hG, Or.inr ⟨q, k⟩⟩)⟩
theorem ex_r {d i : Nat} {f : FZ} {u : Nat} {r : RSZ} {v : Option VZ} (h : fz f = some v) (hv : retZ (mR i) v) (hu : Nat.ble u (mX i) = true) (hr : r = .inl (v, f.2.2.2)) : Ex d i f u r := ⟨1, Or.inr (Or.inr (Or.inl ⟨v, h, hv, Nat.le_of_ble_eq_true hu, hr⟩))⟩
theorem ex_t {d i : Nat} {f : FZ} {u : Nat} {r : RSZ} {E : String} (h : tz i f = some E) (hu : Nat.ble (u + 1) (mX i) = true) (hr : r = .inr (E, f.2.2.2)) : Ex d i f u r := ⟨1, Or.inr (Or.inr (Or.inr (Or.inl ⟨E, h, Nat.le_of_ble_eq_true hu, hr⟩)))⟩
theorem ex_c {d d' i j : Nat} {f : FZ} {as : List VZ} {is : List CI} {L : List (Option VZ)} {st : List VZ} {τ τ' : SZ} {v : Option VZ} {u : Nat} {r : RSZ} (hM : RZ d' j as τ (.inl (v, τ'))) (h : cz i f = some (j, as, (is, L, st, τ))) (hd : Nat.ble d' d = true) (hu : Nat.ble (u + mX j) (mX i) = true) (k : Ex d i (is, L, v.toList ++ st, τ') (u + mX j) r) : Ex d i f u r := by
  obtain ⟨n, k⟩ := k
  exact ⟨n + 1, Or.inr (Or.inr (Or.inr (Or.inr ⟨j, as, is, L, st, τ, h, Nat.le_of_ble_eq_true hu, _, hM.mono (Nat.le_of_ble_eq_true hd), Or.inl ⟨v, τ', rfl, k⟩⟩)))⟩
theorem ex_x {d d' i j : Nat} {f : FZ} {as : List VZ} {is : List CI} {L : List (Option VZ)} {st : List VZ} {τ τ' : SZ} {E : String} {u : Nat} {r : RSZ} (hM : RZ d' j as τ (.inr (E, τ'))) (h : cz i f = some (j, as, (is, L, st, τ))) (hd : Nat.ble d' d = true) (hu : Nat.ble (u + mX j) (mX i) = true) (hr : r = .inr (E, τ')) : Ex d i f u r :=
  ⟨1, Or.inr (Or.inr (Or.inr (Or.inr ⟨j, as, is, L, st, τ, h, Nat.le_of_ble_eq_true hu, _, hM.mono (Nat.le_of_ble_eq_true hd), Or.inr ⟨E, τ', rfl, hr⟩⟩)))⟩
/-- the code of the method i from its instruction n on -/
def cod (i n : Nat) : List CI := (mK i).drop n
end ZR
