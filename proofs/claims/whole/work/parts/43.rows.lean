/-! rows that are equal; a king is made before or behind the taking of a ferry -/
section ROW
theorem row_ext {B B' : Int} {X Y : Nat → Int} (hX : Sh B X) (hY : Sh B' Y) (e : ∀ y, 0 ≤ y → y < 109 → cel X y = cel Y y) : X = Y := by
  funext k
  by_cases h : k < 109
  · have q := e (k : Int) (by omega) (by omega)
    unfold cel at q
    rw [if_pos (by omega), if_pos (by omega)] at q
    rw [Int.toNat_natCast] at q
    exact q
  · rw [hX.tz k (by omega), hY.tz k (by omega)]
theorem usz_of {X Y : Nat → Int} {r p : Int} (h : ∀ y, 72 ≤ y → y < 96 → cel X y = cel Y y) (hr : 0 ≤ r ∧ r < 2) : usz X r p = usz Y r p := by
  unfold usz
  by_cases q : 0 ≤ p ∧ p < 12
  · rw [if_pos q, if_pos q]
    exact h _ (by omega) (by omega)
  · rw [if_neg q, if_neg q]
/-- where a number is more may be told before or behind the king -/
theorem crw_adm {B : Int} {X : Nat → Int} (hS : Sh B X) {f r e m k : Int} (hf : 0 ≤ f ∧ f < 8) (hr : 0 ≤ r ∧ r < 2) (he : (100 ≤ e ∧ e < 107 ∧ e ≠ 105) ∨ (0 ≤ e ∧ e < 48 ∧ (e % 6 = 4 ∨ e % 6 = 5))) (hm : 0 ≤ m ∧ m ≤ k) (hB : B + k + 1 ≤ 100000000) : crw (adm X e m) f r = adm (crw X f r) e m := by
  have he2 : (100 ≤ e ∧ e < 107) ∨ (0 ≤ e ∧ e < 48 ∧ (e % 6 = 4 ∨ e % 6 = 5)) := by omega
  have hp := hS.pl hf hr
  have hSa := hS.kadm he2 hm (by omega)
  have hSc := hS.kcrw hf hr (by omega)
  have hSca := hSc.kadm he2 hm (by omega)
  refine row_ext (hSa.kcrw hf hr (by omega)) hSca (fun y h0 h1 => ?_)
  have a1 : cel (adm X e m) (0 + f * 6 + (1 + r)) = cel X (0 + f * 6 + (1 + r)) := adm_ne (by omega)
  have a2 : cel (adm X e m) (0 + f * 6 + 3) = cel X (0 + f * 6 + 3) := adm_ne (by omega)
  have a3 : usz (adm X e m) r (cel X (0 + f * 6 + (1 + r))) = usz X r (cel X (0 + f * 6 + (1 + r))) := usz_of (fun y h0 h1 => adm_ne (by omega)) hr
  rw [cel_crw hSa hf hr, a1, a2, a3, cel_adm (X := crw X f r) (by omega), cel_crw hS hf hr, cel_crw hS hf hr]
  by_cases C : 0 < usz X r (cel X (0 + f * 6 + (1 + r))) ∧ cel X (0 + f * 6 + 3) = 0
  · rw [if_pos C, if_pos C, if_pos C]
    by_cases ye : y = e
    · subst ye
      rw [if_neg (by omega), if_neg (by omega), if_neg (by omega), if_pos rfl, if_neg (by omega), if_neg (by omega), if_neg (by omega), cel_adm (by omega), if_pos rfl]
    · rw [if_neg ye]
      by_cases y1 : y = 105
      · rw [if_pos y1, if_pos y1, adm_ne (by omega)]
      · rw [if_neg y1, if_neg y1]
        by_cases y2 : y = 72 + r * 12 + cel X (0 + f * 6 + (1 + r))
        · rw [if_pos y2, if_pos y2]
        · rw [if_neg y2, if_neg y2]
          by_cases y3 : y = 0 + f * 6 + 3
          · rw [if_pos y3, if_pos y3]
          · rw [if_neg y3, if_neg y3, adm_ne (fun q => ye q.symm)]
  · rw [if_neg C, if_neg C, if_neg C, cel_adm (by omega)]
theorem drf_adm {B : Int} {X : Nat → Int} (hS : Sh B X) {e m k : Int} (he : (100 ≤ e ∧ e < 107) ∨ (0 ≤ e ∧ e < 48 ∧ (e % 6 = 4 ∨ e % 6 = 5))) (hm : 0 ≤ m ∧ m ≤ k) (hB : B + k ≤ 100000000) : drf (adm X e m) = adm (drf X) e m := by
  have hSa := hS.kadm he hm hB
  refine row_ext hSa.kdrf (hS.kdrf.kadm he hm hB) (fun y h0 h1 => ?_)
  rw [cel_drf, cel_adm (X := drf X) (by omega), cel_drf, cel_drf, adm_ne (by omega), adm_ne (by omega), adm_ne (by omega), adm_ne (by omega)]
  by_cases ye : y = e
  · subst ye
    rw [if_neg (by omega), if_neg (by omega), if_pos rfl, if_neg (by omega), if_neg (by omega), cel_adm (by omega), if_pos rfl]
  · rw [if_neg ye, adm_ne (fun q => ye q.symm)]
theorem cel_sht {X : Nat → Int} {r b p y : Int} (hr : 0 ≤ r ∧ r < 2) : cel (sht X r b p) y = if 48 + r * 12 + p = y ∧ 0 ≤ p ∧ p < 12 then 8 else if 48 + r * 12 + b = y ∧ 0 ≤ b ∧ b < 12 then -1 else cel X y := by
  unfold sht
  rw [cel_swh' hr, cel_swh' hr]
theorem crw_sht {B : Int} {X : Nat → Int} (hS : Sh B X) {f r b p : Int} (hf : 0 ≤ f ∧ f < 8) (hr : 0 ≤ r ∧ r < 2) (hB : B + 1 ≤ 100000000) : crw (sht X r b p) f r = sht (crw X f r) r b p := by
  have hp := hS.pl hf hr
  have hSa := hS.ksht (b := b) (p := p) hr
  refine row_ext (hSa.kcrw hf hr hB) ((hS.kcrw hf hr hB).ksht hr) (fun y h0 h1 => ?_)
  have a1 : cel (sht X r b p) (0 + f * 6 + (1 + r)) = cel X (0 + f * 6 + (1 + r)) := by rw [cel_sht hr, if_neg (by omega), if_neg (by omega)]
  have a2 : cel (sht X r b p) (0 + f * 6 + 3) = cel X (0 + f * 6 + 3) := by rw [cel_sht hr, if_neg (by omega), if_neg (by omega)]
  have a3 : usz (sht X r b p) r (cel X (0 + f * 6 + (1 + r))) = usz X r (cel X (0 + f * 6 + (1 + r))) := usz_of (fun y h0 h1 => sht_hi hr (by omega)) hr
  have a4 : cel (sht X r b p) 105 = cel X 105 := sht_hi hr (by omega)
  rw [cel_crw hSa hf hr, a1, a2, a3, a4, cel_sht (X := crw X f r) hr, cel_crw hS hf hr, cel_sht hr]
  by_cases C : 0 < usz X r (cel X (0 + f * 6 + (1 + r))) ∧ cel X (0 + f * 6 + 3) = 0
  · rw [if_pos C, if_pos C]
    by_cases t1 : 48 + r * 12 + p = y ∧ 0 ≤ p ∧ p < 12
    · rw [if_pos t1, if_pos t1, if_neg (by omega), if_neg (by omega), if_neg (by omega)]
    · rw [if_neg t1, if_neg t1]
      by_cases t2 : 48 + r * 12 + b = y ∧ 0 ≤ b ∧ b < 12
      · rw [if_pos t2, if_pos t2, if_neg (by omega), if_neg (by omega), if_neg (by omega)]
      · rw [if_neg t2, if_neg t2]
  · rw [if_neg C, if_neg C]
theorem drf_sht {B : Int} {X : Nat → Int} (hS : Sh B X) {r b p : Int} (hr : 0 ≤ r ∧ r < 2) : drf (sht X r b p) = sht (drf X) r b p := by
  refine row_ext (hS.ksht hr).kdrf (hS.kdrf.ksht hr) (fun y h0 h1 => ?_)
  rw [cel_drf, cel_sht (X := drf X) hr, cel_drf, sht_hi hr (by omega), sht_hi hr (by omega), sht_hi hr (by omega), sht_hi hr (by omega), cel_sht hr]
  by_cases t1 : 48 + r * 12 + p = y ∧ 0 ≤ p ∧ p < 12
  · rw [if_pos t1, if_pos t1, if_neg (show ¬ (y = 97 ∧ 0 < cel X 99) by omega), if_neg (show ¬ (y = 96 ∧ 0 < cel X 98) by omega)]
  · rw [if_neg t1, if_neg t1]
    by_cases t2 : 48 + r * 12 + b = y ∧ 0 ≤ b ∧ b < 12
    · rw [if_pos t2, if_pos t2, if_neg (show ¬ (y = 97 ∧ 0 < cel X 99) by omega), if_neg (show ¬ (y = 96 ∧ 0 < cel X 98) by omega)]
    · rw [if_neg t2, if_neg t2]
theorem adm_adm {B : Int} {X : Nat → Int} (hS : Sh B X) {e m e' m' k k' : Int} (hne : e ≠ e') (he : (100 ≤ e ∧ e < 107) ∨ (0 ≤ e ∧ e < 48 ∧ (e % 6 = 4 ∨ e % 6 = 5))) (he' : (100 ≤ e' ∧ e' < 107) ∨ (0 ≤ e' ∧ e' < 48 ∧ (e' % 6 = 4 ∨ e' % 6 = 5))) (hm : 0 ≤ m ∧ m ≤ k) (hm' : 0 ≤ m' ∧ m' ≤ k') (hB : B + k + k' ≤ 100000000) : adm (adm X e m) e' m' = adm (adm X e' m') e m := by
  refine row_ext ((hS.kadm he hm (by omega)).kadm he' hm' (by omega)) ((hS.kadm he' hm' (by omega)).kadm he hm (by omega)) (fun y h0 h1 => ?_)
  rw [cel_adm (by omega), cel_adm (X := adm X e' m') (by omega), adm_ne hne, adm_ne (fun q => hne q.symm), cel_adm (by omega), cel_adm (by omega)]
  by_cases y1 : y = e
  · subst y1
    rw [if_neg hne, if_pos rfl, if_pos rfl]
  · rw [if_neg y1, if_neg y1]
/-- a ferry is taken before or behind the making of a king and the drifting of the fog -/
theorem rmv_crw {B : Int} {X : Nat → Int} (hS : Sh B X) (hC : Co X) {f r g : Int} (hf : 0 ≤ f ∧ f < cel X 107) (hg : 0 ≤ g ∧ g < cel X 107) (hne : f ≠ g) (hr : 0 ≤ r ∧ r < 2) (hB : B + 1 ≤ 100000000) :
    Ag (drf (crw (rmv X g) (mvr f g) r)) (rmv (drf (crw X f r)) g) := by
  have hn := hS.n
  have hf8 : 0 ≤ f ∧ f < 8 := by omega
  obtain ⟨h1, h2, h3, h4⟩ := cel_rmv hS hC hg
  have hS2 := (hS.kcrw hf8 hr hB).kdrf
  have hC2 : Co (drf (crw X f r)) := (hC.kcrw hS hf8 hr).kdrf (hS.kcrw hf8 hr hB)
  have hn2 : cel (drf (crw X f r)) 107 = cel X 107 := by rw [drf_hi (by omega), crw_107 hf8 hr]
  obtain ⟨k1, k2, k3, k4⟩ := cel_rmv hS2 hC2 (g := g) (by rw [hn2]; exact hg)
  rw [hn2] at k1 k2 k4
  have hSr := hS.krmv hg
  have hm : 0 ≤ mvr f g ∧ mvr f g < cel X 107 - 1 := by unfold mvr; split <;> omega
  have hm8 : 0 ≤ mvr f g ∧ mvr f g < 8 := by omega
  have hmv : (g < f ∧ mvr f g = f - 1) ∨ (f < g ∧ mvr f g = f) := by unfold mvr; split <;> omega
  have a1 : cel (rmv X g) (0 + mvr f g * 6 + (1 + r)) = cel X (0 + f * 6 + (1 + r)) := by
    rw [h1 _ (by omega) (by omega)]
    rcases hmv with q | q
    · rw [if_pos (by omega)]; exact congrArg (cel X) (by omega)
    · rw [if_neg (by omega)]; exact congrArg (cel X) (by omega)
  have a2 : cel (rmv X g) (0 + mvr f g * 6 + 3) = cel X (0 + f * 6 + 3) := by
    rw [h1 _ (by omega) (by omega)]
    rcases hmv with q | q
    · rw [if_pos (by omega)]; exact congrArg (cel X) (by omega)
    · rw [if_neg (by omega)]; exact congrArg (cel X) (by omega)
  have a3 : usz (rmv X g) r (cel X (0 + f * 6 + (1 + r))) = usz X r (cel X (0 + f * 6 + (1 + r))) := usz_of (fun y h0 h1 => h3 y h0 (by omega)) hr
  have hp := hS.pl hf8 hr
  have L : ∀ y, cel (crw (rmv X g) (mvr f g) r) y = _ := fun y => cel_crw (y := y) hSr hm8 hr
  rw [a1, a2, a3] at L
  have Rr : ∀ y, cel (crw X f r) y = _ := fun y => cel_crw (y := y) hS hf8 hr
  have e107 : cel (drf (crw (rmv X g) (mvr f g) r)) 107 = cel X 107 - 1 := by rw [drf_hi (by omega), crw_107 hm8 hr, h4]
  refine ⟨by rw [e107, k4], fun y hy => ?_⟩
  rw [e107] at hy
  have hk : mvr f g * 6 + 3 = y ↔ (f * 6 + 3 = (if g * 6 ≤ y ∧ y < (cel X 107 - 1) * 6 then y + 6 else y) ∧ y < (cel X 107 - 1) * 6) := by
    split <;> omega
  by_cases y48 : y < 48
  · rw [drf_hi (by omega), L, k1 y (by omega) y48]
    have hz : ∀ z, z < 48 → cel (drf (crw X f r)) z = cel (crw X f r) z := fun z hz => drf_hi (by omega)
    by_cases q : g * 6 ≤ y ∧ y < (cel X 107 - 1) * 6
    · rw [if_pos q] at hk ⊢
      rw [hz _ (by omega), Rr]
      by_cases C : 0 < usz X r (cel X (0 + f * 6 + (1 + r))) ∧ cel X (0 + f * 6 + 3) = 0
      · rw [if_pos C, if_pos C, if_neg (by omega), if_neg (by omega), if_neg (show ¬ y + 6 = 105 by omega), if_neg (show ¬ y + 6 = 72 + r * 12 + cel X (0 + f * 6 + (1 + r)) by omega)]
        by_cases y3 : y = 0 + mvr f g * 6 + 3
        · rw [if_pos y3, if_pos (by omega)]
        · rw [if_neg y3, if_neg (by omega), h1 y (by omega) y48, if_pos q]
      · rw [if_neg C, if_neg C, h1 y (by omega) y48, if_pos q]
    · rw [if_neg q] at hk ⊢
      rw [hz _ (by omega), Rr]
      by_cases C : 0 < usz X r (cel X (0 + f * 6 + (1 + r))) ∧ cel X (0 + f * 6 + 3) = 0
      · rw [if_pos C, if_pos C, if_neg (show ¬ y = 105 by omega), if_neg (show ¬ y = 105 by omega), if_neg (show ¬ y = 72 + r * 12 + cel X (0 + f * 6 + (1 + r)) by omega), if_neg (show ¬ y = 72 + r * 12 + cel X (0 + f * 6 + (1 + r)) by omega)]
        by_cases y3 : y = 0 + mvr f g * 6 + 3
        · rw [if_pos y3, if_pos (by omega)]
        · rw [if_neg y3, if_neg (by omega), h1 y (by omega) y48, if_neg q]
      · rw [if_neg C, if_neg C, h1 y (by omega) y48, if_neg q]
  · by_cases y72 : y < 72
    · rw [drf_hi (by omega), L, k2 y (by omega) y72, drf_hi (by omega), Rr]
      by_cases C : 0 < usz X r (cel X (0 + f * 6 + (1 + r))) ∧ cel X (0 + f * 6 + 3) = 0
      · rw [if_pos C, if_pos C, if_neg (show ¬ y = 105 by omega), if_neg (show ¬ y = 105 by omega), if_neg (show ¬ y = 72 + r * 12 + cel X (0 + f * 6 + (1 + r)) by omega), if_neg (show ¬ y = 72 + r * 12 + cel X (0 + f * 6 + (1 + r)) by omega), if_neg (show ¬ y = 0 + mvr f g * 6 + 3 by omega), if_neg (show ¬ y = 0 + f * 6 + 3 by omega), h2 y (by omega) y72]
      · rw [if_neg C, if_neg C, h2 y (by omega) y72]
    · by_cases y7 : y = 107
      · subst y7
        rw [e107, k4]
      · rw [k3 y (by omega) y7, cel_drf, cel_drf]
        have e : ∀ z, 72 ≤ z → z ≠ 107 → cel (crw (rmv X g) (mvr f g) r) z = cel (crw X f r) z := by
          intro z hz hz7
          rw [L, Rr]
          by_cases C : 0 < usz X r (cel X (0 + f * 6 + (1 + r))) ∧ cel X (0 + f * 6 + 3) = 0
          · rw [if_pos C, if_pos C, h3 105 (by omega) (by omega)]
            by_cases z1 : z = 105
            · rw [if_pos z1, if_pos z1]
            · rw [if_neg z1, if_neg z1]
              by_cases z2 : z = 72 + r * 12 + cel X (0 + f * 6 + (1 + r))
              · rw [if_pos z2, if_pos z2]
              · rw [if_neg z2, if_neg z2, if_neg (by omega), if_neg (by omega), h3 z hz hz7]
          · rw [if_neg C, if_neg C, h3 z hz hz7]
        rw [e 99 (by omega) (by omega), e 98 (by omega) (by omega), e 97 (by omega) (by omega), e 96 (by omega) (by omega), e y (by omega) y7]
end ROW
