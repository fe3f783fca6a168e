/-! contracts of the second implementation: run: printed by wip/whole/db34.py -/
section MRN
def Prun (τ τ2 : SZ) (pr : Bool × Int × List (Int × List Int)) (c : Nat → Int) (V : Int) : Prop :=
  (∀ a, a ≠ 21 → a ≠ 22 → a ≠ 23 → a ≠ 26 → a ≠ 27 → a ≠ 30 → τ2 a = τ a) ∧ Tz (τ2 23) ∧ (∀ i, i ≠ 6 → i ≠ 7 → i ≠ 9 → i ≠ 10 → i ≠ 14 → i ≠ 15 → i ≠ 16 → i ≠ 17 → i ≠ 19 → τ2 21 i = τ 21 i) ∧ τ2 21 14 = 0 ∧ τ2 21 17 = pr.2.1 ∧
  (pr.1 = false → τ2 21 7 = 1 ∧ τ2 22 = τ 22 ∧ τ2 26 = τ 26 ∧ τ2 27 = τ 27 ∧ τ2 21 6 = τ 21 6 ∧ V = 0) ∧
  (pr.1 = true → (pr.2.2.length ≤ 13 ∧ ∀ e, e ∈ pr.2.2 → WFo e) ∧ V = (if (rnL pr.2.2 0 c).1 = 0 then (pr.2.2.length : Int) else 0) ∧ τ2 21 7 = (if (rnL pr.2.2 0 c).1 = 0 then 0 else if (rnL pr.2.2 0 c).1 = 3 then 2 else 1) ∧
    ((rnL pr.2.2 0 c).1 = 0 → Rs (rnL pr.2.2 0 c).2.2 (τ2 22) ∧ τ2 26 = hpm (τ 22) (τ 26) (τ 21 6) ∧ τ2 21 6 = hpn (τ 21 6)) ∧ (¬ (rnL pr.2.2 0 c).1 = 0 → τ2 22 = τ 22 ∧ τ2 26 = τ 26 ∧ τ2 21 6 = τ 21 6) ∧ (¬ (rnL pr.2.2 0 c).1 = 3 → τ2 27 = τ 27) ∧
    ((rnL pr.2.2 0 c).1 = 3 → (τ2 27 0 = 6 ∧ τ2 27 1 = ((rnL pr.2.2 0 c).2.1 : Int) ∧ (τ2 27 2, τ2 27 3, τ2 27 4, τ2 27 5) = rrW (rnL pr.2.2 0 c).2.2 (pr.2.2.getD (rnL pr.2.2 0 c).2.1 (0, [])).1 ((pr.2.2.getD (rnL pr.2.2 0 c).2.1 (0, [])).2.getD 0 0) ((pr.2.2.getD (rnL pr.2.2 0 c).2.1 (0, [])).2.getD 1 0) ((pr.2.2.getD (rnL pr.2.2 0 c).2.1 (0, [])).2.getD 2 0)) ∧ ∀ i, 6 ≤ i → τ2 27 i = τ 27 i))
/-- a state behind the reading of a text -/
def Kpr (τ τ' : SZ) : Prop := (∀ a, a ≠ 21 → a ≠ 30 → τ' a = τ a) ∧ ∀ i, i ≠ 15 → i ≠ 16 → i ≠ 19 → τ' 21 i = τ 21 i
theorem prun_x {τ τ' τ2 : SZ} {pr : Bool × Int × List (Int × List Int)} {c : Nat → Int} {V : Int} (hK : Kpr τ τ') (h22 : Tz (τ 22)) (h1 : pr.1 = true) (hl : pr.2.2.length ≤ 13 ∧ ∀ e, e ∈ pr.2.2 → WFo e)
    (h : QX pr.2.2 (kp (zr τ' 21 (zu (zu (zu (τ' 21) 16 0) 17 (-1)) 14 0))) (rnL pr.2.2 0 c) (.inl (some (.inr V), τ2))) (he : pr.2.1 = -1) : Prun τ τ2 pr c V := by
  obtain ⟨τ3, h0, k1, k2, k3, k4, k5, k6, k7⟩ := h
  cases h0
  have z22 : τ' 22 = τ 22 := hK.1 22 (by decide) (by decide)
  have z26 : τ' 26 = τ 26 := hK.1 26 (by decide) (by decide)
  have z27 : τ' 27 = τ 27 := hK.1 27 (by decide) (by decide)
  have z6 : τ' 21 6 = τ 21 6 := hK.2 6 (by decide) (by decide) (by decide)
  refine ⟨fun a n1 n2 n3 n4 n5 n6 => ?_, ?_, fun i n1 n2 n3 n4 n5 n6 n7 n8 n9 => ?_, ?_, ?_, fun q => ?_, fun _ => ⟨hl, rfl, k3, fun q => ?_, fun q => ?_, fun q => ?_, fun q => ?_⟩⟩
  · rw [k1 a n1 n2 n4 n5]
    unfold kp
    rw [zr_ne n3, zr_ne n1, zr_ne n1]
    exact hK.1 a n1 n6
  · rw [k1 23 (by decide) (by decide) (by decide) (by decide)]
    show Tz (τ' 22)
    rw [z22]; exact h22
  · rw [k2 i n1 n2 n3 n4]
    show zu (zu (zu (zu (τ' 21) 16 0) 17 (-1)) 14 0) 7 0 i = _
    rw [zu_ne n2, zu_ne n5, zu_ne n8, zu_ne n7]
    exact hK.2 i n6 n7 n9
  · rw [k2 14 (by decide) (by decide) (by decide) (by decide)]; rfl
  · rw [k2 17 (by decide) (by decide) (by decide) (by decide), he]; rfl
  · rw [h1] at q; exact Bool.noConfusion q
  · obtain ⟨a, b, d⟩ := k4 q
    refine ⟨a, ?_, ?_⟩
    · rw [b, ← z22, ← z26, ← z6]; rfl
    · rw [d, ← z6]; rfl
  · obtain ⟨a, b, d⟩ := k5 q
    refine ⟨?_, ?_, ?_⟩
    · rw [a, ← z22]; rfl
    · rw [b, ← z26]; rfl
    · rw [d, ← z6]; rfl
  · rw [k6 q, ← z27]; rfl
  · obtain ⟨a, b⟩ := k7 q
    refine ⟨a, fun i hi => ?_⟩
    rw [b i hi, ← z27]; rfl
theorem prun_f {τ τ' : SZ} {pr : Bool × Int × List (Int × List Int)} {c : Nat → Int} (hK : Kpr τ τ') (h1 : pr.1 = false) (h23 : Tz (τ 23)) (he : τ' 21 15 = pr.2.1) : Prun τ (th (zr τ' 21 (zu (zu (zu (τ' 21) 16 1) 17 (τ' 21 15)) 14 0)) 1) pr c 0 := by
  refine ⟨fun a n1 n2 n3 n4 n5 n6 => ?_, ?_, fun i n1 n2 n3 n4 n5 n6 n7 n8 n9 => ?_, rfl, he, fun _ => ⟨rfl, hK.1 22 (by decide) (by decide), hK.1 26 (by decide) (by decide), hK.1 27 (by decide) (by decide), hK.2 6 (by decide) (by decide) (by decide), rfl⟩, fun q => by rw [h1] at q; exact Bool.noConfusion q⟩
  · unfold th
    rw [zr_ne n1, zr_ne n1]
    exact hK.1 a n1 n6
  · show Tz (τ' 23)
    rw [hK.1 23 (by decide) (by decide)]; exact h23
  · show zu (zu (zu (zu (τ' 21) 16 1) 17 (τ' 21 15)) 14 0) 7 1 i = _
    rw [zu_ne n2, zu_ne n5, zu_ne n8, zu_ne n7]
    exact hK.2 i n6 n7 n9
set_option maxHeartbeats 1000000 in
theorem rn_f {τ τ' : SZ} {c : Nat → Int} {B : Int} (hI : Iv B c) (hR : Rs c (τ 22)) (hG : Tg c) (h14 : 0 ≤ τ 21 14 ∧ τ 21 14 ≤ 60) (h29 : ∀ i, 0 ≤ τ 29 i ∧ τ 29 i < 65536) (h23 : Tz (τ 23)) (h6 : 0 ≤ τ 21 6 ∧ τ 21 6 ≤ 8) (hB : B + 200 ≤ 100000000) (hpr : (prl (τ 21 14) (τ 29) 13 0 []).1 = false) (hK : Kpr τ τ') (hT : TM τ') (hP : Pout (τ 21 14) τ' (prl (τ 21 14) (τ 29) 13 0 [])) : Exq 10 m8_run (cod m8_run 25, [some (.inl 21), none], [], τ') 0 (fun q => ∃ V τ2, Prun τ τ2 (prl (τ 21 14) (τ 29) 13 0 []) c V ∧ q = .inl (some (.inr V), τ2)) := by
  obtain ⟨hT1, hT2, ⟨hT3, hT4⟩, hT5⟩ := hT
  have z14 : τ' 21 14 = τ 21 14 := hK.2 14 (by decide) (by decide) (by decide)
  have h22 := hR.tz
  obtain ⟨p1, p2⟩ := hP.2 hpr
  refine exq_k 3 (P := none) (g := (cod m8_run 28, [some (.inl 21), none], [.inr ((τ' 21) 16), .inl 21], τ')) rfl trivial ?_
  refine exq_b (P := ¬ ((τ' 21) 16) = 0) (ct := (cod m8_run 34, [some (.inl 21), none], [.inl 21], τ')) (cf := (cod m8_run 29, [some (.inl 21), none], [.inl 21], τ')) rfl ⟨by omega, by omega⟩ (fun h1 => ?_) (fun h1 => ?_)
  · first
    | (exfalso; omega)
    | (
        refine exq_k 3 (P := some (1 = 0 ∨ 1 = 1)) (g := (cod m8_run 38, [some (.inl 21), none], [], (zr τ' 21 (zu (τ' 21) 16 1)))) rfl (by show 1 = 0 ∨ 1 = 1; omega) ?_
        refine exq_k 3 (P := none) (g := (cod m8_run 41, [some (.inl 21), none], [.inr 1, .inl 21], (zr τ' 21 (zu (τ' 21) 16 1)))) rfl trivial ?_
        refine exq_b (P := 1 = 0) (ct := (cod m8_run 45, [some (.inl 21), none], [.inl 21], (zr τ' 21 (zu (τ' 21) 16 1)))) (cf := (cod m8_run 42, [some (.inl 21), none], [.inl 21], (zr τ' 21 (zu (τ' 21) 16 1)))) rfl ⟨by decide, by decide⟩ (fun hh => absurd hh (by decide)) (fun _ => ?_)
        refine exq_k 4 (P := none) (g := (cod m8_run 47, [some (.inl 21), none], [], (zr (zr τ' 21 (zu (τ' 21) 16 1)) 21 (zu (zu (τ' 21) 16 1) 17 ((τ' 21) 15))))) rfl trivial ?_
        rw [zr_zr]
        refine exq_k 3 (P := none) (g := (cod m8_run 50, [some (.inl 21), none], [], (zr (zr τ' 21 (zu (zu (τ' 21) 16 1) 17 ((τ' 21) 15))) 21 (zu (zu (zu (τ' 21) 16 1) 17 ((τ' 21) 15)) 14 0)))) rfl trivial ?_
        rw [zr_zr]
        refine exq_k 2 (P := none) (g := (cod m8_run 52, [some (.inl 21), none], [.inr 1], (zr τ' 21 (zu (zu (zu (τ' 21) 16 1) 17 ((τ' 21) 15)) 14 0)))) rfl trivial ?_
        refine exq_b (P := 1 = 0) (ct := (cod m8_run 57, [some (.inl 21), none], [], (zr τ' 21 (zu (zu (zu (τ' 21) 16 1) 17 ((τ' 21) 15)) 14 0)))) (cf := (cod m8_run 53, [some (.inl 21), none], [], (zr τ' 21 (zu (zu (zu (τ' 21) 16 1) 17 ((τ' 21) 15)) 14 0)))) rfl ⟨by decide, by decide⟩ (fun hh => absurd hh (by decide)) (fun _ => ?_)
        refine exq_k 2 (P := none) (g := (cod m8_run 55, [some (.inl 21), none], [.inr 1, .inl 21], (zr τ' 21 (zu (zu (zu (τ' 21) 16 1) 17 ((τ' 21) 15)) 14 0)))) rfl trivial ?_
        refine exq_c (m_fails (τ := (zr τ' 21 (zu (zu (zu (τ' 21) 16 1) 17 ((τ' 21) 15)) 14 0))) (k := 1)) (is := cod m8_run 56) (L := [some (.inl 21), none]) (st := []) rfl rfl rfl ?_
        show Exq _ _ (cod m8_run 56, [some (.inl 21), none], [.inr 0], (zr (zr τ' 21 (zu (zu (zu (τ' 21) 16 1) 17 ((τ' 21) 15)) 14 0)) 21 (zu (zu (zu (zu (τ' 21) 16 1) 17 ((τ' 21) 15)) 14 0) 7 1))) _ _
        rw [zr_zr]
        exact exq_r rfl trivial rfl (⟨0, _, prun_f hK hpr h23 p2, (by unfold th; rw [zr_zr]; rfl)⟩))
  · first
    | (exfalso; omega)
    | (
        refine exq_k 4 (P := none) (g := (cod m8_run 33, [some (.inl 21), none], [.inr ((τ' 21) 14), .inr ((τ' 21) 15), .inl 21], τ')) rfl trivial ?_
        refine exq_b (P := ((τ' 21) 14) ≤ ((τ' 21) 15)) (ct := (cod m8_run 36, [some (.inl 21), none], [.inl 21], τ')) (cf := (cod m8_run 34, [some (.inl 21), none], [.inl 21], τ')) rfl ⟨⟨by omega, by omega⟩, ⟨by omega, by omega⟩⟩ (fun h4 => ?_) (fun h4 => ?_)
        · first
          | (exfalso; omega)
          | (
              refine exq_k 2 (P := some (0 = 0 ∨ 0 = 1)) (g := (cod m8_run 38, [some (.inl 21), none], [], (zr τ' 21 (zu (τ' 21) 16 0)))) rfl (by show 0 = 0 ∨ 0 = 1; omega) ?_
              refine exq_k 3 (P := none) (g := (cod m8_run 41, [some (.inl 21), none], [.inr 0, .inl 21], (zr τ' 21 (zu (τ' 21) 16 0)))) rfl trivial ?_
              refine exq_b (P := 0 = 0) (ct := (cod m8_run 45, [some (.inl 21), none], [.inl 21], (zr τ' 21 (zu (τ' 21) 16 0)))) (cf := (cod m8_run 42, [some (.inl 21), none], [.inl 21], (zr τ' 21 (zu (τ' 21) 16 0)))) rfl ⟨by decide, by decide⟩ (fun hh => absurd hh (by decide)) (fun _ => ?_)
              refine exq_k 4 (P := none) (g := (cod m8_run 47, [some (.inl 21), none], [], (zr (zr τ' 21 (zu (τ' 21) 16 0)) 21 (zu (zu (τ' 21) 16 0) 17 ((τ' 21) 15))))) rfl trivial ?_
              rw [zr_zr]
              refine exq_k 3 (P := none) (g := (cod m8_run 50, [some (.inl 21), none], [], (zr (zr τ' 21 (zu (zu (τ' 21) 16 0) 17 ((τ' 21) 15))) 21 (zu (zu (zu (τ' 21) 16 0) 17 ((τ' 21) 15)) 14 0)))) rfl trivial ?_
              rw [zr_zr]
              refine exq_k 2 (P := none) (g := (cod m8_run 52, [some (.inl 21), none], [.inr 0], (zr τ' 21 (zu (zu (zu (τ' 21) 16 0) 17 ((τ' 21) 15)) 14 0)))) rfl trivial ?_
              refine exq_b (P := 0 = 0) (ct := (cod m8_run 57, [some (.inl 21), none], [], (zr τ' 21 (zu (zu (zu (τ' 21) 16 0) 17 ((τ' 21) 15)) 14 0)))) (cf := (cod m8_run 53, [some (.inl 21), none], [], (zr τ' 21 (zu (zu (zu (τ' 21) 16 0) 17 ((τ' 21) 15)) 14 0)))) rfl ⟨by decide, by decide⟩ (fun hh => absurd hh (by decide)) (fun _ => ?_)
              refine exq_k 2 (P := none) (g := (cod m8_run 55, [some (.inl 21), none], [.inr 1, .inl 21], (zr τ' 21 (zu (zu (zu (τ' 21) 16 0) 17 ((τ' 21) 15)) 14 0)))) rfl trivial ?_
              refine exq_c (m_fails (τ := (zr τ' 21 (zu (zu (zu (τ' 21) 16 0) 17 ((τ' 21) 15)) 14 0))) (k := 1)) (is := cod m8_run 56) (L := [some (.inl 21), none]) (st := []) rfl rfl rfl ?_
              show Exq _ _ (cod m8_run 56, [some (.inl 21), none], [.inr 0], (zr (zr τ' 21 (zu (zu (zu (τ' 21) 16 0) 17 ((τ' 21) 15)) 14 0)) 21 (zu (zu (zu (zu (τ' 21) 16 0) 17 ((τ' 21) 15)) 14 0) 7 1))) _ _
              rw [zr_zr]
              exact exq_r rfl trivial rfl (⟨0, _, prun_f hK hpr h23 p2, (by unfold th; rw [zr_zr]; rfl)⟩))
        · first
          | (exfalso; omega)
          | (
              refine exq_k 3 (P := some (1 = 0 ∨ 1 = 1)) (g := (cod m8_run 38, [some (.inl 21), none], [], (zr τ' 21 (zu (τ' 21) 16 1)))) rfl (by show 1 = 0 ∨ 1 = 1; omega) ?_
              refine exq_k 3 (P := none) (g := (cod m8_run 41, [some (.inl 21), none], [.inr 1, .inl 21], (zr τ' 21 (zu (τ' 21) 16 1)))) rfl trivial ?_
              refine exq_b (P := 1 = 0) (ct := (cod m8_run 45, [some (.inl 21), none], [.inl 21], (zr τ' 21 (zu (τ' 21) 16 1)))) (cf := (cod m8_run 42, [some (.inl 21), none], [.inl 21], (zr τ' 21 (zu (τ' 21) 16 1)))) rfl ⟨by decide, by decide⟩ (fun hh => absurd hh (by decide)) (fun _ => ?_)
              refine exq_k 4 (P := none) (g := (cod m8_run 47, [some (.inl 21), none], [], (zr (zr τ' 21 (zu (τ' 21) 16 1)) 21 (zu (zu (τ' 21) 16 1) 17 ((τ' 21) 15))))) rfl trivial ?_
              rw [zr_zr]
              refine exq_k 3 (P := none) (g := (cod m8_run 50, [some (.inl 21), none], [], (zr (zr τ' 21 (zu (zu (τ' 21) 16 1) 17 ((τ' 21) 15))) 21 (zu (zu (zu (τ' 21) 16 1) 17 ((τ' 21) 15)) 14 0)))) rfl trivial ?_
              rw [zr_zr]
              refine exq_k 2 (P := none) (g := (cod m8_run 52, [some (.inl 21), none], [.inr 1], (zr τ' 21 (zu (zu (zu (τ' 21) 16 1) 17 ((τ' 21) 15)) 14 0)))) rfl trivial ?_
              refine exq_b (P := 1 = 0) (ct := (cod m8_run 57, [some (.inl 21), none], [], (zr τ' 21 (zu (zu (zu (τ' 21) 16 1) 17 ((τ' 21) 15)) 14 0)))) (cf := (cod m8_run 53, [some (.inl 21), none], [], (zr τ' 21 (zu (zu (zu (τ' 21) 16 1) 17 ((τ' 21) 15)) 14 0)))) rfl ⟨by decide, by decide⟩ (fun hh => absurd hh (by decide)) (fun _ => ?_)
              refine exq_k 2 (P := none) (g := (cod m8_run 55, [some (.inl 21), none], [.inr 1, .inl 21], (zr τ' 21 (zu (zu (zu (τ' 21) 16 1) 17 ((τ' 21) 15)) 14 0)))) rfl trivial ?_
              refine exq_c (m_fails (τ := (zr τ' 21 (zu (zu (zu (τ' 21) 16 1) 17 ((τ' 21) 15)) 14 0))) (k := 1)) (is := cod m8_run 56) (L := [some (.inl 21), none]) (st := []) rfl rfl rfl ?_
              show Exq _ _ (cod m8_run 56, [some (.inl 21), none], [.inr 0], (zr (zr τ' 21 (zu (zu (zu (τ' 21) 16 1) 17 ((τ' 21) 15)) 14 0)) 21 (zu (zu (zu (zu (τ' 21) 16 1) 17 ((τ' 21) 15)) 14 0) 7 1))) _ _
              rw [zr_zr]
              exact exq_r rfl trivial rfl (⟨0, _, prun_f hK hpr h23 p2, (by unfold th; rw [zr_zr]; rfl)⟩)))
set_option maxHeartbeats 1000000 in
theorem rn_t {τ τ' : SZ} {c : Nat → Int} {B : Int} (hI : Iv B c) (hR : Rs c (τ 22)) (hG : Tg c) (h14 : 0 ≤ τ 21 14 ∧ τ 21 14 ≤ 60) (h29 : ∀ i, 0 ≤ τ 29 i ∧ τ 29 i < 65536) (h23 : Tz (τ 23)) (h6 : 0 ≤ τ 21 6 ∧ τ 21 6 ≤ 8) (hB : B + 200 ≤ 100000000) (hpr : (prl (τ 21 14) (τ 29) 13 0 []).1 = true) (hK : Kpr τ τ') (hT : TM τ') (hP : Pout (τ 21 14) τ' (prl (τ 21 14) (τ 29) 13 0 [])) : Exq 10 m8_run (cod m8_run 25, [some (.inl 21), none], [], τ') 0 (fun q => ∃ V τ2, Prun τ τ2 (prl (τ 21 14) (τ 29) 13 0 []) c V ∧ q = .inl (some (.inr V), τ2)) := by
  obtain ⟨hT1, hT2, ⟨hT3, hT4⟩, hT5⟩ := hT
  have z14 : τ' 21 14 = τ 21 14 := hK.2 14 (by decide) (by decide) (by decide)
  have h22 := hR.tz
  obtain ⟨p1, p2, p3, p4, p5, p6, p7⟩ := hP.1 hpr
  refine exq_k 3 (P := none) (g := (cod m8_run 28, [some (.inl 21), none], [.inr ((τ' 21) 16), .inl 21], τ')) rfl trivial ?_
  refine exq_b (P := ¬ ((τ' 21) 16) = 0) (ct := (cod m8_run 34, [some (.inl 21), none], [.inl 21], τ')) (cf := (cod m8_run 29, [some (.inl 21), none], [.inl 21], τ')) rfl ⟨by omega, by omega⟩ (fun hh => absurd hh (by omega)) (fun _ => ?_)
  refine exq_k 4 (P := none) (g := (cod m8_run 33, [some (.inl 21), none], [.inr ((τ' 21) 14), .inr ((τ' 21) 15), .inl 21], τ')) rfl trivial ?_
  refine exq_b (P := ((τ' 21) 14) ≤ ((τ' 21) 15)) (ct := (cod m8_run 36, [some (.inl 21), none], [.inl 21], τ')) (cf := (cod m8_run 34, [some (.inl 21), none], [.inl 21], τ')) rfl ⟨⟨by omega, by omega⟩, ⟨by omega, by omega⟩⟩ (fun _ => ?_) (fun hh => absurd (by omega) hh)
  refine exq_k 2 (P := some (0 = 0 ∨ 0 = 1)) (g := (cod m8_run 38, [some (.inl 21), none], [], (zr τ' 21 (zu (τ' 21) 16 0)))) rfl (by show 0 = 0 ∨ 0 = 1; omega) ?_
  refine exq_k 3 (P := none) (g := (cod m8_run 41, [some (.inl 21), none], [.inr 0, .inl 21], (zr τ' 21 (zu (τ' 21) 16 0)))) rfl trivial ?_
  refine exq_b (P := 0 = 0) (ct := (cod m8_run 45, [some (.inl 21), none], [.inl 21], (zr τ' 21 (zu (τ' 21) 16 0)))) (cf := (cod m8_run 42, [some (.inl 21), none], [.inl 21], (zr τ' 21 (zu (τ' 21) 16 0)))) rfl ⟨by decide, by decide⟩ (fun _ => ?_) (fun hh => absurd (by decide) hh)
  refine exq_k 2 (P := none) (g := (cod m8_run 47, [some (.inl 21), none], [], (zr (zr τ' 21 (zu (τ' 21) 16 0)) 21 (zu (zu (τ' 21) 16 0) 17 (-1))))) rfl trivial ?_
  rw [zr_zr]
  refine exq_k 3 (P := none) (g := (cod m8_run 50, [some (.inl 21), none], [], (zr (zr τ' 21 (zu (zu (τ' 21) 16 0) 17 (-1))) 21 (zu (zu (zu (τ' 21) 16 0) 17 (-1)) 14 0)))) rfl trivial ?_
  rw [zr_zr]
  refine exq_k 2 (P := none) (g := (cod m8_run 52, [some (.inl 21), none], [.inr 0], (zr τ' 21 (zu (zu (zu (τ' 21) 16 0) 17 (-1)) 14 0)))) rfl trivial ?_
  refine exq_b (P := 0 = 0) (ct := (cod m8_run 57, [some (.inl 21), none], [], (zr τ' 21 (zu (zu (zu (τ' 21) 16 0) 17 (-1)) 14 0)))) (cf := (cod m8_run 53, [some (.inl 21), none], [], (zr τ' 21 (zu (zu (zu (τ' 21) 16 0) 17 (-1)) 14 0)))) rfl ⟨by decide, by decide⟩ (fun _ => ?_) (fun hh => absurd (by decide) hh)
  have z22 : τ' 22 = τ 22 := hK.1 22 (by decide) (by decide)
  have z23 : τ' 23 = τ 23 := hK.1 23 (by decide) (by decide)
  have z6 : τ' 21 6 = τ 21 6 := hK.2 6 (by decide) (by decide) (by decide)
  refine exq_k 1 (P := none) (g := (cod m8_run 58, [some (.inl 21), none], [.inl 21], (zr τ' 21 (zu (zu (zu (τ' 21) 16 0) 17 (-1)) 14 0)))) rfl trivial ?_
  refine exq_c (m_keep (τ := (zr τ' 21 (zu (zu (zu (τ' 21) 16 0) 17 (-1)) 14 0))) (show Tz (τ' 22) by rw [z22]; exact h22) (show Tz (τ' 23) by rw [z23]; exact h23)) (is := cod m8_run 59) (L := [some (.inl 21), none]) (st := []) rfl rfl rfl ?_
  refine exq_k 2 (P := none) (g := (cod m8_run 61, [some (.inl 21), some (.inr 0)], [], kp (zr τ' 21 (zu (zu (zu (τ' 21) 16 0) 17 (-1)) 14 0)))) rfl trivial ?_
  have hx := lp_exec p6 p5 (B := B) (by omega) (prl (τ 21 14) (τ 29) 13 0 []).2.2.length 0 (kp (zr τ' 21 (zu (zu (zu (τ' 21) 16 0) 17 (-1)) 14 0))) c (by omega) (by rw [show B + 9 * ((0 : Nat) : Int) = B from by omega]; exact hI) (show Rs c (τ' 22) by rw [z22]; exact hR) hG ⟨p4, rfl, p3, (show Tz (τ' 22) by rw [z22]; exact h22), (show 0 ≤ τ' 21 6 ∧ τ' 21 6 ≤ 8 by rw [z6]; exact h6)⟩
  refine hx.mono (fun q h => ?_)
  have h' := h
  obtain ⟨τ2, h0, _⟩ := h'
  subst h0
  exact ⟨_, _, prun_x hK h22 hpr ⟨p5, p6⟩ h p7, rfl⟩
set_option maxHeartbeats 1000000 in
theorem p_run {τ : SZ} {c : Nat → Int} {B : Int} (hI : Iv B c) (hR : Rs c (τ 22)) (hG : Tg c) (h14 : 0 ≤ τ 21 14 ∧ τ 21 14 ≤ 60) (h29 : ∀ i, 0 ≤ τ 29 i ∧ τ 29 i < 65536) (h23 : Tz (τ 23)) (h6 : 0 ≤ τ 21 6 ∧ τ 21 6 ≤ 8) (hB : B + 200 ≤ 100000000) : ∃ V τ2, Prun τ τ2 (prl (τ 21 14) (τ 29) 13 0 []) c V ∧ RZ 11 m8_run [.inl 21] τ (.inl (some (.inr V), τ2)) := by
  have qh : RZq 11 m8_run [.inl 21] τ (fun q => ∃ V τ2, Prun τ τ2 (prl (τ 21 14) (τ 29) 13 0 []) c V ∧ q = .inl (some (.inr V), τ2)) := by
    refine Exq.call ?_ rfl rfl
    show Exq _ _ (cod m8_run 0, [some (.inl 21), none], [], τ) _ _
    refine exq_k 3 (P := none) (g := (cod m8_run 3, [some (.inl 21), none], [], (zr τ 21 (zu (τ 21) 15 0)))) rfl trivial ?_
    refine exq_k 3 (P := some (0 = 0 ∨ 0 = 1)) (g := (cod m8_run 6, [some (.inl 21), none], [], (zr (zr τ 21 (zu (τ 21) 15 0)) 21 (zu (zu (τ 21) 15 0) 16 0)))) rfl (by show 0 = 0 ∨ 0 = 1; omega) ?_
    rw [zr_zr]
    refine exq_k 3 (P := none) (g := (cod m8_run 9, [some (.inl 21), none], [], (zr (zr τ 21 (zu (zu (τ 21) 15 0) 16 0)) 21 (zu (zu (zu (τ 21) 15 0) 16 0) 19 0)))) rfl trivial ?_
    rw [zr_zr]
    refine exq_k 1 (P := none) (g := (cod m8_run 10, [some (.inl 21), none], [.inl 21], (zr τ 21 (zu (zu (zu (τ 21) 15 0) 16 0) 19 0)))) rfl trivial ?_
    have hTx : TM (zr τ 21 (zu (zu (zu (τ 21) 15 0) 16 0) 19 0)) := ⟨h14, h29, (show Zin (τ 21 14) 0 0 from ⟨by omega, by omega⟩)⟩
    refine exq_cq (m_readOrder (τ := (zr τ 21 (zu (zu (zu (τ 21) 15 0) 16 0) 19 0))) hTx rfl (show (0 : Int) ≤ 0 ∧ (0 : Int) < 60 by decide)) (is := cod m8_run 11) (L := [some (.inl 21), none]) (st := []) rfl rfl rfl (fun v τ1 hq => ?_) (fun E τ1 hq => by obtain ⟨z', w', vs, od', k1, k2, k3, k4, h⟩ := hq; cases h)
    obtain ⟨z', w', vs, od', k1, k2, k3, k4, h⟩ := hq
    cases h
    have k2 : RM (τ 21 14) (τ 29) (cho (τ 21 14) (τ 29) 0).2.2 0 z' w' vs := k2
    have k4 : w' = 0 → od' (4 * (0 : Int)).toNat = (cho (τ 21 14) (τ 29) 0).1 ∧ ∀ i : Nat, i < vs.length → od' (4 * (0 : Int) + 1 + (i : Int)).toNat = vs.getD i 0 := k4
    have hpl := prl_T (j := 12) (acc := []) (show 0 ≤ (0 : Int) ∧ 0 ≤ τ 21 14 by omega) k2
    have e13 : ∀ x : Int × List Int, OlM od' [] := fun _ m hm => absurd hm (by simp)
    refine lp_parse 12 _ (if w' = 0 then [] ++ [((cho (τ 21 14) (τ 29) 0).2.1, vs)] else []) ⟨h14, h29, k1⟩ ?_ ?_ ?_
    · by_cases q : w' = 0
      · rw [if_pos q]; intro e he; rcases List.mem_append.mp he with h | h; exact absurd h (by simp); rw [List.mem_singleton.mp h]; exact (k2.ok q).1
      · rw [if_neg q]; intro e he; exact absurd he (by simp)
    · intro (q : w' = 0)
      have ko := (k2.ok q).2
      rw [if_pos q]
      have k5 := k4 q
      refine ⟨rfl, (OlM.add (od := od') (l := []) (fun m hm => absurd hm (by simp)) (fun e he => absurd he (by simp)) (fun i hi => rfl) (k5.1.trans cho_cd) k5.2), rfl, ?_⟩
      show 5 * (1 : Int) ≤ z' + 1; omega
    · intro τ' h1 h2 h3
      have hK : Kpr τ τ' := ⟨fun a n1 n2 => by rw [h1.1 a n1 n2, zr_ne n2, zr_ne n1, zr_ne n1], fun i n1 n2 n3 => by rw [h1.2 i n1 n2 n3]; show zu (zu (zu (zu (zu (zu (τ 21) 15 0) 16 0) 19 0) 19 _) 15 z') 16 w' i = _; rw [zu_ne n2, zu_ne n1, zu_ne n3, zu_ne n3, zu_ne n2, zu_ne n1]⟩
      have h3 : Pout (τ 21 14) τ' (prT (τ 21 14) (τ 29) 12 z' w' (if w' = 0 then [] ++ [((cho (τ 21 14) (τ 29) 0).2.1, vs)] else [])) := h3
      rw [← hpl] at h3
      cases hb : (prl (τ 21 14) (τ 29) (12 + 1) 0 []).1 with
      | true => exact rn_t hI hR hG h14 h29 h23 h6 hB hb hK h2 h3
      | false => exact rn_f hI hR hG h14 h29 h23 h6 hB hb hK h2 h3
  obtain ⟨q, ⟨V, τ2, h1, rfl⟩, h⟩ := qh
  exact ⟨V, τ2, h1, h⟩
end MRN
