/-! what is written in the row of the second implementation, held against the row of the class -/
section MWR
def Rg (L : Int) (c s : Nat → Int) : Prop := (∀ i, 0 ≤ i → i < L → s i.toNat = ob c i) ∧ Tz s
theorem Rg.of {c s : Nat → Int} (h : Rs c s) : Rg (61 + 6 * cel c 107) c s := h
theorem Rg.rs {c s : Nat → Int} (h : Rg (61 + 6 * cel c 107) c s) : Rs c s := h
theorem Rg.mono {L L' : Int} {c s : Nat → Int} (h : Rg L c s) (hl : L' ≤ L) : Rg L' c s := ⟨fun i h0 h1 => h.1 i h0 (by omega), h.2⟩
theorem Rg.eo {L : Int} {c d s : Nat → Int} (h : Rg L c s) (e : ∀ y, 0 ≤ y → y < L → (cel d (oc y) = cel c (oc y) ∨ (9 ≤ y ∧ y < 61 ∧ 14 ≤ (y - 9) % 26 ∧ (cel d (oc y) = 8 ↔ cel c (oc y) = 8)))) : Rg L d s := by
  refine ⟨fun y h0 h1 => ?_, h.2⟩
  rw [h.1 y h0 h1]
  unfold ob
  rcases e y h0 h1 with q2 | ⟨a, b, g, q2⟩
  · rw [q2]
  · rw [if_pos ⟨a, b, g⟩, if_pos ⟨a, b, g⟩]
    exact b2_iff q2.symm
theorem Rg.put {L : Int} {c s : Nat → Int} (h : Rg L c s) (hL : L ≤ 109) {i w v : Int} (hi : 0 ≤ i ∧ i < 109) (hv : ob (sce c (oc i) w) i = v) : Rg L (sce c (oc i) w) (zu s i.toNat v) := by
  have ho := oc_in hi.1 hi.2
  refine ⟨fun y h0 h1 => ?_, fun k hk => ?_⟩
  · by_cases q : y = i
    · subst q; rw [zu_at, hv]
    · rw [zu_ne (by omega), h.1 y h0 h1]
      unfold ob
      have e : cel (sce c (oc i) w) (oc y) = cel c (oc y) := cel_ne (fun x => q (oc_inj (by omega) hi x.symm))
      rw [e]
  · rw [zu_ne (by omega)]; exact h.2 k hk
theorem Rg.sc {L : Int} {c s : Nat → Int} (h : Rg L c s) (hL : L ≤ 109) {i v : Int} (hi : 0 ≤ i ∧ i < 109) (hg : i < 9 ∨ 61 ≤ i ∨ (i - 9) % 26 < 14) : Rg L (sce c (oc i) v) (zu s i.toNat v) :=
  h.put hL hi (by rw [ob_n hg, cel_eq (oc_in hi.1 hi.2)])
theorem Rg.tg {L : Int} {c s : Nat → Int} (h : Rg L c s) (hL : L ≤ 109) {i w v : Int} (hi : 9 ≤ i ∧ i < 61 ∧ 14 ≤ (i - 9) % 26) (hv : b2 (w = 8) = v) : Rg L (sce c (oc i) w) (zu s i.toNat v) :=
  h.put hL (by omega) (by rw [ob_g hi, cel_eq (oc_in (by omega) (by omega))]; exact hv)
theorem Rg.ext {L : Int} {c s : Nat → Int} (h : Rg L c s) (hL : 61 ≤ L ∧ L < 109) {v : Int} : Rg (L + 1) (sce c (oc L) v) (zu s L.toNat v) := by
  have q := h.sc (by omega) (i := L) (v := v) (by omega) (by omega)
  refine ⟨fun y h0 h1 => ?_, q.2⟩
  by_cases e : y = L
  · subst e
    rw [zu_at, ob_n (by omega), cel_eq (oc_in (by omega) (by omega))]
  · exact q.1 y h0 (by omega)
/-- one number of a ferry -/
theorem Rs.kf {c s : Nat → Int} (h : Rs c s) (hn : 0 ≤ cel c 107 ∧ cel c 107 ≤ 8) {f w v : Int} (hf : 0 ≤ f ∧ f < 8) (hw : 0 ≤ w ∧ w < 6) : Rs (sce c (0 + f * 6 + w) v) (zu s ((61 + 6 * f) + w).toNat v) := by
  have q := (Rg.of h).sc (by omega) (i := (61 + 6 * f) + w) (v := v) (by omega) (by omega)
  rw [oc_f (by omega), show 61 + 6 * f + w - 61 = 0 + f * 6 + w from by omega] at q
  have e : cel (sce c (0 + f * 6 + w) v) 107 = cel c 107 := cel_ne (by omega)
  refine Rg.rs ?_
  rw [e]
  exact q
/-- one total -/
theorem Rs.kt {c s : Nat → Int} (h : Rs c s) (hn : 0 ≤ cel c 107 ∧ cel c 107 ≤ 8) {k v : Int} (hk : 1 ≤ k ∧ k < 9) : Rs (sce c (oc k) v) (zu s k.toNat v) := by
  have q := (Rg.of h).sc (by omega) (i := k) (v := v) (by omega) (by omega)
  have e : cel (sce c (oc k) v) 107 = cel c 107 := cel_ne (fun x => by
    have y := oc_inj (x := k) (y := 0) (by omega) (by omega) x
    omega)
  refine Rg.rs ?_
  rw [e]
  exact q
theorem oc_t {k : Int} (hk : 2 ≤ k ∧ k < 9) : oc k = 98 + k := by
  unfold oc
  rw [if_neg (by omega), if_neg (by omega), if_pos (by omega)]
theorem oc_r {r k : Int} (hr : 0 ≤ r ∧ r < 2) (hk : 0 ≤ k ∧ k < 26) : oc ((9 + 26 * r) + k) = if k = 0 then 96 + r else if k = 1 then 98 + r else if k < 14 then 72 + r * 12 + (k - 2) else 48 + r * 12 + (k - 14) := by
  unfold oc
  rw [if_neg (by omega), if_neg (by omega), if_neg (by omega), if_pos (by omega), show (9 + 26 * r + k - 9) % 26 = k from by omega, show (9 + 26 * r + k - 9) / 26 = r from by omega]
/-- fog and locks -/
theorem Rs.kr {c s : Nat → Int} (h : Rs c s) (hn : 0 ≤ cel c 107 ∧ cel c 107 ≤ 8) {r k v : Int} (hr : 0 ≤ r ∧ r < 2) (hk : 0 ≤ k ∧ k < 14) : Rs (sce c (oc ((9 + 26 * r) + k)) v) (zu s ((9 + 26 * r) + k).toNat v) := by
  have q := (Rg.of h).sc (by omega) (i := (9 + 26 * r) + k) (v := v) (by omega) (by omega)
  have e : cel (sce c (oc ((9 + 26 * r) + k)) v) 107 = cel c 107 := cel_ne (fun x => by
    have y := oc_inj (x := (9 + 26 * r) + k) (y := 0) (by omega) (by omega) x
    omega)
  refine Rg.rs ?_
  rw [e]
  exact q
/-- tugs -/
theorem Rs.kg {c s : Nat → Int} (h : Rs c s) (hn : 0 ≤ cel c 107 ∧ cel c 107 ≤ 8) {r p w v : Int} (hr : 0 ≤ r ∧ r < 2) (hp : 0 ≤ p ∧ p < 12) (hv : b2 (w = 8) = v) : Rs (swh c r p w) (zu s ((9 + 26 * r) + (14 + p)).toNat v) := by
  have q := (Rg.of h).tg (by omega) (i := (9 + 26 * r) + (14 + p)) (w := w) (by omega) hv
  rw [oc_r hr (by omega), if_neg (by omega), if_neg (by omega), if_neg (by omega), show 48 + r * 12 + (14 + p - 14) = 48 + r * 12 + p from by omega] at q
  have e : sce c (48 + r * 12 + p) w = swh c r p w := by unfold swh; rw [if_pos hp]
  rw [e] at q
  refine Rg.rs ?_
  rw [swh_107 hr]
  exact q
theorem Rs.ku {c s : Nat → Int} (h : Rs c s) (hn : 0 ≤ cel c 107 ∧ cel c 107 ≤ 8) {r p v : Int} (hr : 0 ≤ r ∧ r < 2) (hp : 0 ≤ p ∧ p < 12) : Rs (sus c r p v) (zu s ((9 + 26 * r) + (2 + p)).toNat v) := by
  have q := h.kr hn hr (k := 2 + p) (v := v) (by omega)
  rw [oc_r hr (by omega), if_neg (by omega), if_neg (by omega), if_pos (by omega), show 72 + r * 12 + (2 + p - 2) = 72 + r * 12 + p from by omega] at q
  unfold sus
  rw [if_pos hp]
  exact q
/-- who is where is not told by the other row, but for the tugs -/
theorem Rs.kw {c s : Nat → Int} (h : Rs c s) (hn8 : cel c 107 ≤ 8) {r p w : Int} (hr : 0 ≤ r ∧ r < 2) (hw : cel c (48 + r * 12 + p) = 8 ↔ w = 8) : Rs (swh c r p w) s := by
  refine Rg.rs ?_
  rw [swh_107 hr]
  refine (Rg.of h).eo (fun y h0 h1 => ?_)
  rw [cel_swh' hr]
  by_cases q : 48 + r * 12 + p = oc y ∧ 0 ≤ p ∧ p < 12
  · rw [if_pos q]
    by_cases ht : 9 ≤ y ∧ y < 61 ∧ 14 ≤ (y - 9) % 26
    · refine Or.inr ⟨ht.1, ht.2.1, ht.2.2, ?_⟩
      rw [← q.1]
      exact hw.symm
    · exfalso
      have q1 := q.1
      unfold oc at q1
      repeat (first | omega | split at q1)
  · rw [if_neg q]
    exact Or.inl rfl
theorem Rs.kshf {B : Int} {c s : Nat → Int} (hI : Iv B c) (h : Rs c s) {f r p : Int} (hf : 0 ≤ f ∧ f < cel c 107) (hr : 0 ≤ r ∧ r < 2) (hp : 0 ≤ p ∧ p < 12) (hfr : cel c (48 + r * 12 + p) = -1) : Rs (shf c f r p) (zu s ((61 + 6 * f) + (1 + r)).toNat p) := by
  have hn := hI.1.n
  have hat := hI.2.1.at hr hf
  have h1 := h.kw hn.2 (r := r) (p := cel c (0 + f * 6 + (1 + r))) (w := -1) hr (by omega)
  have h2 := h1.kw (by rw [swh_107 hr]; exact hn.2) (r := r) (p := p) (w := f) hr (by
    rw [cel_swh' hr]
    split <;> omega)
  have e2 : cel (swh (swh c r (cel c (0 + f * 6 + (1 + r))) (-1)) r p f) 107 = cel c 107 := by rw [swh_107 hr, swh_107 hr]
  exact h2.kf (by rw [e2]; exact hn) (f := f) (w := 1 + r) (v := p) (by omega) (by omega)
theorem Rs.kadm {c s : Nat → Int} (h : Rs c s) (hn : 0 ≤ cel c 107 ∧ cel c 107 ≤ 8) {k m : Int} (hk : 2 ≤ k ∧ k < 9) : Rs (adm c (98 + k) m) (zu s k.toNat (s k.toNat + m)) := by
  have q := h.kt hn (k := k) (v := s k.toNat + m) (by omega)
  rw [oc_t hk, h.to hn.1 hk] at q
  rw [h.to hn.1 hk]
  exact q
theorem Rs.kadf {c s : Nat → Int} (h : Rs c s) (hn : 0 ≤ cel c 107 ∧ cel c 107 ≤ 8) {f w m : Int} (hf : 0 ≤ f ∧ f < cel c 107) (hw : 0 ≤ w ∧ w < 6) : Rs (adm c (0 + f * 6 + w) m) (zu s ((61 + 6 * f) + w).toNat (cel c (0 + f * 6 + w) + m)) :=
  h.kf hn (by omega) hw
theorem Rs.kchg {c s : Nat → Int} (h : Rs c s) (hn : 0 ≤ cel c 107 ∧ cel c 107 ≤ 8) : Rs (chg c) (zu s 1 (1 - cel c 108)) := h.kt hn (k := 1) (by omega)
/-- a ferry is taken -/
theorem Rs.krmv {B : Int} {c s : Nat → Int} (hS : Sh B c) (hC : Co c) (h : Rs c s) {g : Int} (hg : 0 ≤ g ∧ g < cel c 107) : Rs (rmv c g) (zu (zc s s (61 + 6 * g + 6).toNat (61 + 6 * g).toNat (6 * (cel c 107 - 1 - g)).toNat) 0 (cel c 107 - 1)) := by
  obtain ⟨h1, h2, h3, h4⟩ := cel_rmv hS hC hg
  have hn := hS.n
  refine Rg.rs ?_
  rw [h4]
  refine ⟨fun y h0 hy => ?_, fun k hk => ?_⟩
  · by_cases q0 : y = 0
    · subst q0
      show zu _ 0 _ 0 = _
      rw [zu_at, ob_n (by omega)]
      exact h4.symm
    · rw [zu_ne (by omega)]
      by_cases q : 61 ≤ y
      · rw [ob_n (by omega), oc_f q, h1 _ (by omega) (by omega)]
        unfold zc
        by_cases w : g * 6 ≤ y - 61 ∧ y - 61 < (cel c 107 - 1) * 6
        · rw [if_pos w, if_pos (by omega)]
          have e := h.1 (y + 6) (by omega) (by omega)
          rw [ob_n (by omega), oc_f (by omega)] at e
          rw [show y - 61 + 6 = y + 6 - 61 from by omega, ← e]
          congr 1
          omega
        · rw [if_neg w, if_neg (by omega)]
          have e := h.1 y h0 (by omega)
          rw [ob_n (by omega), oc_f q] at e
          exact e
      · unfold zc
        rw [if_neg (by omega), h.1 y h0 (by omega)]
        have ho := oc_hi h0 (by omega)
        by_cases hw : 48 ≤ oc y ∧ oc y < 72
        · have ht : 9 ≤ y ∧ y < 61 ∧ 14 ≤ (y - 9) % 26 := by
            have q1 := hw
            unfold oc at q1
            repeat (first | omega | split at q1)
          rw [ob_g ht, ob_g ht, h2 _ hw.1 hw.2]
          refine b2_iff ?_
          split
          · omega
          · split <;> omega
        · have ne : oc y ≠ 107 := fun x => q0 (oc_inj (y := 0) (by omega) (by omega) (x.trans rfl))
          have e := h3 (oc y) (by omega) ne
          unfold ob
          rw [e]
  · rw [zu_ne (by omega)]
    unfold zc
    rw [if_neg (by omega)]
    exact h.2 k hk
end MWR
