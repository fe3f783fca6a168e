/-! the shape of a row of numbers: what each number may be, kept by all that changes it -/
section SHP
theorem cel_sce {c : Nat → Int} {z v y : Int} : cel (sce c z v) y = if z = y ∧ 0 ≤ z ∧ z < 109 then v else cel c y := by
  by_cases h : z = y
  · subst h
    by_cases h2 : 0 ≤ z ∧ z < 109
    · rw [if_pos ⟨rfl, h2⟩, cel_eq h2]
    · rw [if_neg (fun q => h2 q.2)]
      unfold sce
      rw [if_neg h2]
  · rw [if_neg (fun q => h q.1), cel_ne h]
theorem cel_swh' {c : Nat → Int} {r p v y : Int} (hr : 0 ≤ r ∧ r < 2) : cel (swh c r p v) y = if 48 + r * 12 + p = y ∧ 0 ≤ p ∧ p < 12 then v else cel c y := by
  unfold swh
  by_cases h : 0 ≤ p ∧ p < 12
  · rw [if_pos h, cel_sce]
    by_cases h2 : 48 + r * 12 + p = y
    · rw [if_pos ⟨h2, by omega⟩, if_pos ⟨h2, h⟩]
    · rw [if_neg (fun q => h2 q.1), if_neg (fun q => h2 q.1)]
  · rw [if_neg h, if_neg (fun q => h q.2)]
theorem cel_sus' {c : Nat → Int} {r p v y : Int} (hr : 0 ≤ r ∧ r < 2) : cel (sus c r p v) y = if 72 + r * 12 + p = y ∧ 0 ≤ p ∧ p < 12 then v else cel c y := by
  unfold sus
  by_cases h : 0 ≤ p ∧ p < 12
  · rw [if_pos h, cel_sce]
    by_cases h2 : 72 + r * 12 + p = y
    · rw [if_pos ⟨h2, by omega⟩, if_pos ⟨h2, h⟩]
    · rw [if_neg (fun q => h2 q.1), if_neg (fun q => h2 q.1)]
  · rw [if_neg h, if_neg (fun q => h q.2)]
def lo (z : Int) : Int := if 48 ≤ z ∧ z < 72 then -1 else 0
def hi (B z : Int) : Int := if z < 48 then (if z % 6 = 0 ∨ z % 6 = 3 then 1 else if z % 6 = 1 ∨ z % 6 = 2 then 11 else B) else if z < 72 then 8 else if z < 96 then 3 else if z < 98 then 11 else if z < 100 then 4 else if z < 107 then B else if z = 107 then 8 else 1
def Tz (c : Nat → Int) : Prop := ∀ k, 109 ≤ k → c k = 0
def Sh (B : Int) (c : Nat → Int) : Prop := ((Bd c ∧ Tz c) ∧ 100 ≤ B ∧ B ≤ 100000000) ∧ ∀ z, 0 ≤ z → z < 109 → lo z ≤ cel c z ∧ cel c z ≤ hi B z
theorem lohi {B z : Int} (hB : 100 ≤ B ∧ B ≤ 100000000) : -1000000000 ≤ lo z ∧ hi B z ≤ 1000000000 := by
  unfold lo hi
  refine ⟨?_, ?_⟩ <;> (repeat (first | omega | split))
theorem Sh.bd {B : Int} {c : Nat → Int} (h : Sh B c) : Bd c := h.1.1.1
theorem Sh.tz {B : Int} {c : Nat → Int} (h : Sh B c) : Tz c := h.1.1.2
theorem Tz.ksce {c : Nat → Int} (h : Tz c) {z v : Int} : Tz (sce c z v) := by
  intro k hk
  unfold sce
  split
  · unfold zu
    rw [if_neg (by omega)]
    exact h k hk
  · exact h k hk
theorem zc_full {f g : Nat → Int} (hf : Tz f) (hg : Tz g) : zc f g 0 0 109 = f := by
  funext k
  unfold zc
  by_cases h : k < 109
  · rw [if_pos ⟨by omega, by omega⟩]
    congr 1
    omega
  · rw [if_neg (fun q => h (by omega)), hf k (by omega), hg k (by omega)]
theorem Sh.B {B : Int} {c : Nat → Int} (h : Sh B c) : 100 ≤ B ∧ B ≤ 100000000 := h.1.2
theorem Sh.ksce {B : Int} {c : Nat → Int} (h : Sh B c) {z v : Int} (hv : 0 ≤ z → z < 109 → lo z ≤ v ∧ v ≤ hi B z) : Sh B (sce c z v) := by
  refine ⟨⟨⟨?_, h.tz.ksce⟩, h.B⟩, fun y h0 h1 => ?_⟩
  · have q := lohi (z := z) h.B
    by_cases hz : 0 ≤ z ∧ z < 109
    · have q2 := hv hz.1 hz.2
      exact sce_bd h.bd (by omega)
    · unfold sce
      rw [if_neg hz]
      exact h.bd
  · rw [cel_sce]
    split
    next q => rw [← q.1]; exact hv q.2.1 q.2.2
    next => exact h.2 y h0 h1
theorem Sh.kswh {B : Int} {c : Nat → Int} (h : Sh B c) {r p v : Int} (hr : 0 ≤ r ∧ r < 2) (hv : -1 ≤ v ∧ v ≤ 8) : Sh B (swh c r p v) := by
  unfold swh
  split
  · refine h.ksce (fun _ _ => ?_)
    unfold lo hi
    rw [if_pos (by omega), if_neg (by omega), if_pos (by omega)]
    exact hv
  · exact h
theorem Sh.ksus {B : Int} {c : Nat → Int} (h : Sh B c) {r p v : Int} (hr : 0 ≤ r ∧ r < 2) (hv : 0 ≤ v ∧ v ≤ 3) : Sh B (sus c r p v) := by
  unfold sus
  split
  · refine h.ksce (fun _ _ => ?_)
    unfold lo hi
    rw [if_neg (by omega), if_neg (by omega), if_neg (by omega), if_pos (by omega)]
    exact hv
  · exact h
theorem Sh.sd {B : Int} {c : Nat → Int} (h : Sh B c) {f : Int} (hf : 0 ≤ f ∧ f < 8) : 0 ≤ cel c (0 + f * 6 + 0) ∧ cel c (0 + f * 6 + 0) ≤ 1 := by
  have q := h.2 (0 + f * 6 + 0) (by omega) (by omega)
  unfold lo hi at q
  rw [if_neg (by omega), if_pos (by omega), if_pos (by omega)] at q
  exact q
theorem Sh.kg {B : Int} {c : Nat → Int} (h : Sh B c) {f : Int} (hf : 0 ≤ f ∧ f < 8) : 0 ≤ cel c (0 + f * 6 + 3) ∧ cel c (0 + f * 6 + 3) ≤ 1 := by
  have q := h.2 (0 + f * 6 + 3) (by omega) (by omega)
  unfold lo hi at q
  rw [if_neg (by omega), if_pos (by omega), if_pos (by omega)] at q
  exact q
theorem Sh.pl {B : Int} {c : Nat → Int} (h : Sh B c) {f r : Int} (hf : 0 ≤ f ∧ f < 8) (hr : 0 ≤ r ∧ r < 2) : 0 ≤ cel c (0 + f * 6 + (1 + r)) ∧ cel c (0 + f * 6 + (1 + r)) ≤ 11 := by
  have q := h.2 (0 + f * 6 + (1 + r)) (by omega) (by omega)
  unfold lo hi at q
  rw [if_neg (by omega), if_pos (by omega), if_neg (by omega), if_pos (by omega)] at q
  exact q
theorem Sh.p1 {B : Int} {c : Nat → Int} (h : Sh B c) {f : Int} (hf : 0 ≤ f ∧ f < 8) : 0 ≤ cel c (0 + f * 6 + 1) ∧ cel c (0 + f * 6 + 1) ≤ 11 := h.pl (r := 0) hf (by omega)
theorem Sh.p2 {B : Int} {c : Nat → Int} (h : Sh B c) {f : Int} (hf : 0 ≤ f ∧ f < 8) : 0 ≤ cel c (0 + f * 6 + 2) ∧ cel c (0 + f * 6 + 2) ≤ 11 := h.pl (r := 1) hf (by omega)
theorem Sh.ju {B : Int} {c : Nat → Int} (h : Sh B c) {f : Int} (hf : 0 ≤ f ∧ f < 8) : 0 ≤ cel c (0 + f * 6 + 4) ∧ cel c (0 + f * 6 + 4) ≤ B := by
  have q := h.2 (0 + f * 6 + 4) (by omega) (by omega)
  unfold lo hi at q
  rw [if_neg (by omega), if_pos (by omega), if_neg (by omega), if_neg (by omega)] at q
  exact q
theorem Sh.mo {B : Int} {c : Nat → Int} (h : Sh B c) {f : Int} (hf : 0 ≤ f ∧ f < 8) : 0 ≤ cel c (0 + f * 6 + 5) ∧ cel c (0 + f * 6 + 5) ≤ B := by
  have q := h.2 (0 + f * 6 + 5) (by omega) (by omega)
  unfold lo hi at q
  rw [if_neg (by omega), if_pos (by omega), if_neg (by omega), if_neg (by omega)] at q
  exact q
theorem Sh.wc {B : Int} {c : Nat → Int} (h : Sh B c) {z : Int} (hz : 48 ≤ z ∧ z < 72) : -1 ≤ cel c z ∧ cel c z ≤ 8 := by
  have q := h.2 z (by omega) (by omega)
  unfold lo hi at q
  rw [if_pos (by omega), if_neg (by omega), if_pos (by omega)] at q
  exact q
theorem Sh.wh {B : Int} {c : Nat → Int} (h : Sh B c) {r p : Int} (hr : 0 ≤ r ∧ r < 2) : -1 ≤ whz c r p ∧ whz c r p ≤ 8 := by
  unfold whz
  split
  · exact h.wc (by omega)
  · omega
theorem Sh.us {B : Int} {c : Nat → Int} (h : Sh B c) {r p : Int} (hr : 0 ≤ r ∧ r < 2) : 0 ≤ usz c r p ∧ usz c r p ≤ 3 := by
  unfold usz
  split
  · have q := h.2 (72 + r * 12 + p) (by omega) (by omega)
    unfold lo hi at q
    rw [if_neg (by omega), if_neg (by omega), if_neg (by omega), if_pos (by omega)] at q
    exact q
  · omega
theorem Sh.fb {B : Int} {c : Nat → Int} (h : Sh B c) {r : Int} (hr : 0 ≤ r ∧ r < 2) : 0 ≤ cel c (96 + r) ∧ cel c (96 + r) ≤ 11 := by
  have q := h.2 (96 + r) (by omega) (by omega)
  unfold lo hi at q
  rw [if_neg (by omega), if_neg (by omega), if_neg (by omega), if_neg (by omega), if_pos (by omega)] at q
  exact q
theorem Sh.fw {B : Int} {c : Nat → Int} (h : Sh B c) {r : Int} (hr : 0 ≤ r ∧ r < 2) : 0 ≤ cel c (98 + r) ∧ cel c (98 + r) ≤ 4 := by
  have q := h.2 (98 + r) (by omega) (by omega)
  unfold lo hi at q
  rw [if_neg (by omega), if_neg (by omega), if_neg (by omega), if_neg (by omega), if_neg (by omega), if_pos (by omega)] at q
  exact q
theorem Sh.to {B : Int} {c : Nat → Int} (h : Sh B c) {z : Int} (hz : 100 ≤ z ∧ z < 107) : 0 ≤ cel c z ∧ cel c z ≤ B := by
  have q := h.2 z (by omega) (by omega)
  unfold lo hi at q
  rw [if_neg (by omega), if_neg (by omega), if_neg (by omega), if_neg (by omega), if_neg (by omega), if_neg (by omega), if_pos (by omega)] at q
  exact q
theorem Sh.n {B : Int} {c : Nat → Int} (h : Sh B c) : 0 ≤ cel c 107 ∧ cel c 107 ≤ 8 := by
  have q := h.2 107 (by omega) (by omega)
  unfold lo hi at q
  rw [if_neg (by omega), if_neg (by omega), if_neg (by omega), if_neg (by omega), if_neg (by omega), if_neg (by omega), if_neg (by omega), if_pos (by omega)] at q
  exact q
theorem Sh.tu {B : Int} {c : Nat → Int} (h : Sh B c) : 0 ≤ cel c 108 ∧ cel c 108 ≤ 1 := by
  have q := h.2 108 (by omega) (by omega)
  unfold lo hi at q
  rw [if_neg (by omega), if_neg (by omega), if_neg (by omega), if_neg (by omega), if_neg (by omega), if_neg (by omega), if_neg (by omega), if_neg (by omega)] at q
  exact q
theorem Sh.fog {B : Int} {c : Nat → Int} (h : Sh B c) : Fb c := fun r h0 h1 => by have q := h.fb ⟨h0, h1⟩; omega
theorem Sh.cw {B : Int} {c : Nat → Int} (h : Sh B c) : Cw c :=
  ⟨h.bd, h.fog, fun z h0 h1 => h.wc ⟨h0, h1⟩, fun f r h0 h1 h2 h3 => by have q := h.pl ⟨h0, h1⟩ ⟨h2, h3⟩; omega⟩
theorem Sh.mono {B B' : Int} {c : Nat → Int} (h : Sh B c) (h1 : B ≤ B') (h2 : B' ≤ 100000000) : Sh B' c := by
  have q := h.B
  refine ⟨⟨h.1.1, by omega⟩, fun z h0 hz => ⟨(h.2 z h0 hz).1, ?_⟩⟩
  have q2 := (h.2 z h0 hz).2
  unfold hi at q2 ⊢
  repeat (first | omega | split at q2)
def adm (c : Nat → Int) (e m : Int) : Nat → Int := sce c e (cel c e + m)
def chg (c : Nat → Int) : Nat → Int := sce c 108 (1 - cel c 108)
theorem Sh.kadm {B k : Int} {c : Nat → Int} (h : Sh B c) {e m : Int} (he : (100 ≤ e ∧ e < 107) ∨ (0 ≤ e ∧ e < 48 ∧ (e % 6 = 4 ∨ e % 6 = 5))) (hm : 0 ≤ m ∧ m ≤ k) (hk : B + k ≤ 100000000) : Sh (B + k) (adm c e m) := by
  refine (h.mono (B' := B + k) (by omega) hk).ksce (fun h0 h1 => ?_)
  have q := h.2 e h0 h1
  unfold lo hi at q ⊢
  rcases he with he | he
  · rw [if_neg (by omega), if_neg (by omega), if_neg (by omega), if_neg (by omega), if_neg (by omega), if_neg (by omega), if_pos (by omega)] at q ⊢
    omega
  · rw [if_neg (by omega), if_pos (by omega), if_neg (by omega), if_neg (by omega)] at q ⊢
    omega
theorem Sh.kchg {B : Int} {c : Nat → Int} (h : Sh B c) : Sh B (chg c) := by
  have q := h.tu
  refine h.ksce (fun h0 h1 => ?_)
  unfold lo hi
  repeat rw [if_neg (by omega)]
  omega
theorem Sh.plc {B : Int} {c : Nat → Int} (h : Sh B c) {f r v : Int} (hf : 0 ≤ f ∧ f < 8) (hr : 0 ≤ r ∧ r < 2) (hv : 0 ≤ v ∧ v < 12) : Sh B (sce c (0 + f * 6 + (1 + r)) v) := by
  refine h.ksce (fun h0 h1 => ?_)
  unfold lo hi
  rw [if_neg (by omega), if_pos (by omega), if_neg (by omega), if_pos (by omega)]
  omega
theorem Sh.kshf {B : Int} {c : Nat → Int} (h : Sh B c) {f r p : Int} (hf : 0 ≤ f ∧ f < 8) (hr : 0 ≤ r ∧ r < 2) (hp : 0 ≤ p ∧ p < 12) : Sh B (shf c f r p) :=
  ((h.kswh hr (by omega)).kswh hr (by omega)).plc hf hr hp
theorem Sh.ksht {B : Int} {c : Nat → Int} (h : Sh B c) {r b p : Int} (hr : 0 ≤ r ∧ r < 2) : Sh B (sht c r b p) := (h.kswh hr (by omega)).kswh hr (by omega)
theorem Sh.fgs {B : Int} {c : Nat → Int} (h : Sh B c) {z v : Int} (hz : 96 ≤ z ∧ z < 98) (hv : 0 ≤ v ∧ v < 12) : Sh B (sce c z v) := by
  refine h.ksce (fun h0 h1 => ?_)
  unfold lo hi
  rw [if_neg (by omega), if_neg (by omega), if_neg (by omega), if_neg (by omega), if_pos (by omega)]
  omega
theorem Sh.fws {B : Int} {c : Nat → Int} (h : Sh B c) {z v : Int} (hz : 98 ≤ z ∧ z < 100) (hv : 0 ≤ v ∧ v ≤ 4) : Sh B (sce c z v) := by
  refine h.ksce (fun h0 h1 => ?_)
  unfold lo hi
  rw [if_neg (by omega), if_neg (by omega), if_neg (by omega), if_neg (by omega), if_neg (by omega), if_pos (by omega)]
  omega
theorem Sh.kdrf {B : Int} {c : Nat → Int} (h : Sh B c) : Sh B (drf c) := by
  have d : ∀ (e : Nat → Int), Sh B e → ∀ b w, 96 ≤ b ∧ b < 98 → Sh B (dr1 e b w) := by
    intro e he b w hb
    unfold dr1
    split
    · exact he.fgs hb (by omega)
    · exact he
  exact d _ (d _ h 96 98 (by omega)) 97 99 (by omega)
theorem Sh.kin {B : Int} {c : Nat → Int} (h : Sh B c) {f v : Int} (hf : 0 ≤ f ∧ f < 8) (hv : 0 ≤ v ∧ v ≤ 1) : Sh B (sce c (0 + f * 6 + 3) v) := by
  refine h.ksce (fun h0 h1 => ?_)
  unfold lo hi
  rw [if_neg (by omega), if_pos (by omega), if_pos (by omega)]
  exact hv
theorem Sh.kcrw {B : Int} {c : Nat → Int} (h : Sh B c) {f r : Int} (hf : 0 ≤ f ∧ f < 8) (hr : 0 ≤ r ∧ r < 2) (hB : B + 1 ≤ 100000000) : Sh (B + 1) (crw c f r) := by
  have q := h.us (p := cel c (0 + f * 6 + (1 + r))) hr
  unfold crw
  split
  · exact ((h.kin hf (by omega)).ksus hr (by omega)).kadm (k := 1) (Or.inl (by omega)) (by omega) hB
  · exact h.mono (by omega) hB
theorem Sh.num {B : Int} {c : Nat → Int} (h : Sh B c) {f w v : Int} (hf : 0 ≤ f ∧ f < 8) (hw : 0 ≤ w ∧ w < 6) (hv : 0 ≤ v ∧ v ≤ hi B w) : Sh B (sce c (0 + f * 6 + w) v) := by
  refine h.ksce (fun h0 h1 => ?_)
  unfold hi at hv
  unfold lo hi
  rw [if_neg (by omega), if_pos (by omega)]
  rw [if_pos (by omega)] at hv
  rw [show (0 + f * 6 + w) % 6 = w % 6 from by omega]
  exact hv
theorem Sh.nm {B : Int} {c : Nat → Int} (h : Sh B c) {f w : Int} (hf : 0 ≤ f ∧ f < 8) (hw : 0 ≤ w ∧ w < 6) : 0 ≤ cel c (0 + f * 6 + w) ∧ cel c (0 + f * 6 + w) ≤ hi B w := by
  have q := h.2 (0 + f * 6 + w) (by omega) (by omega)
  unfold lo hi at q
  rw [if_neg (by omega), if_pos (by omega), show (0 + f * 6 + w) % 6 = w % 6 from by omega] at q
  unfold hi
  rw [if_pos (by omega)]
  exact q
theorem Sh.kmvn {B : Int} {c : Nat → Int} (h : Sh B c) {l w : Int} (hl : 1 ≤ l ∧ l < 8) (hw : 0 ≤ w ∧ w < 6) : Sh B (mvn c l w) := h.num (by omega) hw (h.nm (by omega) hw)
theorem Sh.kmv6 {B : Int} {c : Nat → Int} (h : Sh B c) {l : Int} (hl : 1 ≤ l ∧ l < 8) : Sh B (mv6 c l) :=
  (((((h.kmvn hl (by omega)).kmvn hl (by omega)).kmvn hl (by omega)).kmvn hl (by omega)).kmvn hl (by omega)).kmvn hl (by omega)
theorem Sh.krst {B : Int} {c : Nat → Int} (h : Sh B c) {l : Int} (hl : 1 ≤ l ∧ l < 8) : Sh B (rst c l) := ((h.kmv6 hl).kswh (by omega) (by omega)).kswh (by omega) (by omega)
theorem Sh.krif {B : Int} : ∀ (j : Nat) {c : Nat → Int}, Sh B c → ∀ {z : Int}, 1 ≤ z → z + (j : Int) ≤ 8 → Sh B (rif j c z)
  | 0, _, h, _, _, _ => h
  | j + 1, _, h, z, h1, h2 => Sh.krif j (h.krst (by omega)) (by omega) (by omega)
theorem Sh.krmv {B : Int} {c : Nat → Int} (h : Sh B c) {g : Int} (hg : 0 ≤ g ∧ g < cel c 107) : Sh B (rmv c g) := by
  have hn := h.n
  have h1 : Sh B (st1 (st0 c g (-1)) g (-1)) := (h.kswh (by omega) (by omega)).kswh (by omega) (by omega)
  have h2 := Sh.krif (cel c 107 - 1 - g).toNat h1 (z := g + 1) (by omega) (by omega)
  have e : ∀ (j : Nat) (d : Nat → Int) (z : Int), 0 ≤ z → z + (j : Int) ≤ 8 → cel (rif j d z) 107 = cel d 107 := by
    intro j
    induction j with
    | zero => intro d z _ _; rfl
    | succ j ih => intro d z h0 h8; exact (ih _ _ (by omega) (by omega)).trans (rst_107 (by omega))
  have e2 := e (cel c 107 - 1 - g).toNat (st1 (st0 c g (-1)) g (-1)) (g + 1) (by omega) (by omega)
  have e3 : cel (st1 (st0 c g (-1)) g (-1)) 107 = cel c 107 := by unfold st1 st0; rw [swh_107 (by omega), swh_107 (by omega)]
  unfold rmv dec
  refine h2.ksce (fun h0 h1 => ?_)
  rw [e2, e3]
  unfold lo hi
  rw [if_neg (by omega), if_neg (by omega), if_neg (by omega), if_neg (by omega), if_neg (by omega), if_neg (by omega), if_neg (by omega), if_pos (by omega)]
  omega
theorem adf_eq (c : Nat → Int) (x p q : Int) : adf c x p q = adm (adm (swh (swh (sce (sce (sce (sce (sce (sce c (0 + (cel c 107) * 6 + 0) x) (0 + (cel c 107) * 6 + 1) p) (0 + (cel c 107) * 6 + 2) q) (0 + (cel c 107) * 6 + 3) 0) (0 + (cel c 107) * 6 + 4) 0) (0 + (cel c 107) * 6 + 5) 0) 0 p (cel c 107)) 1 q (cel c 107)) 107 1) 106 1 := rfl
theorem Sh.kadf {B : Int} {c : Nat → Int} (h : Sh B c) {x p q : Int} (hx : 0 ≤ x ∧ x < 2) (hp : 0 ≤ p ∧ p < 12) (hq : 0 ≤ q ∧ q < 12) (hn : cel c 107 < 8) (hB : B + 1 ≤ 100000000) : Sh (B + 1) (adf c x p q) := by
  have n0 := h.n.1
  have hb := h.B
  rw [adf_eq]
  have k1 : Sh B (swh (swh (sce (sce (sce (sce (sce (sce c (0 + (cel c 107) * 6 + 0) x) (0 + (cel c 107) * 6 + 1) p) (0 + (cel c 107) * 6 + 2) q) (0 + (cel c 107) * 6 + 3) 0) (0 + (cel c 107) * 6 + 4) 0) (0 + (cel c 107) * 6 + 5) 0) 0 p (cel c 107)) 1 q (cel c 107)) := by
    refine Sh.kswh (Sh.kswh (Sh.num (Sh.num (Sh.num (Sh.num (Sh.num (Sh.num h ⟨n0, hn⟩ (by omega) ?_) ⟨n0, hn⟩ (by omega) ?_) ⟨n0, hn⟩ (by omega) ?_) ⟨n0, hn⟩ (by omega) ?_) ⟨n0, hn⟩ (by omega) ?_) ⟨n0, hn⟩ (by omega) ?_) (by omega) (by omega)) (by omega) (by omega)
    · show 0 ≤ x ∧ x ≤ 1; omega
    · show 0 ≤ p ∧ p ≤ 11; omega
    · show 0 ≤ q ∧ q ≤ 11; omega
    · show (0 : Int) ≤ 0 ∧ 0 ≤ (1 : Int); omega
    · show (0 : Int) ≤ 0 ∧ 0 ≤ B; omega
    · show (0 : Int) ≤ 0 ∧ 0 ≤ B; omega
  refine Sh.kadm ?_ (Or.inl (by omega)) (by omega) hB
  have e : cel (swh (swh (sce (sce (sce (sce (sce (sce c (0 + (cel c 107) * 6 + 0) x) (0 + (cel c 107) * 6 + 1) p) (0 + (cel c 107) * 6 + 2) q) (0 + (cel c 107) * 6 + 3) 0) (0 + (cel c 107) * 6 + 4) 0) (0 + (cel c 107) * 6 + 5) 0) 0 p (cel c 107)) 1 q (cel c 107)) 107 = cel c 107 := by
    rw [swh_107 (by omega), swh_107 (by omega)]
    repeat rw [cel_ne (by omega)]
  refine k1.ksce (fun h0 h1 => ?_)
  rw [e]
  unfold lo hi
  rw [if_neg (by omega), if_neg (by omega), if_neg (by omega), if_neg (by omega), if_neg (by omega), if_neg (by omega), if_neg (by omega), if_pos (by omega)]
  omega
end SHP
