/-! the script's cells, shifts, ends with references and longs -/
section CEL
variable {p : Program} {l : Launch} {e : Env} {R : Room} {s : State} {m : MethodId} {args : Array Value} {below : List Frame} {meth : Method} {c : Code} {H : Heap} {locs : List Loc} {cells slots : Nat} {Q : State → Prop}
variable {D : va_G} {A : Nat → Prop} {ad adV : Nat → Nat} {cA : Nat → ClassId}
theorem iI_ushr {z : Int} {k : Nat} {d : Int} {s : Int32} (hz : 0 ≤ z ∧ z < 2147483648) (hs : ((s.toUInt32 &&& Int32.toUInt32 31).toBitVec % 32).toNat = k) (hd : d = ((2 ^ k : Nat) : Int)) : ((iI z).toUInt32 >>> (s.toUInt32 &&& Int32.toUInt32 31)).toInt32 = iI (z / d) := by
  obtain ⟨h1, h2⟩ := hz
  obtain ⟨n, rfl⟩ := Int.eq_ofNat_of_zero_le h1
  rw [iI_nI, pk_ushrN (by omega) s k hs, hd]
  exact (iI_nI (n / 2 ^ k)).symm
theorem ush_ex (x : Int32) : ∃ z : Int, (0 ≤ z ∧ z < 2147483648) ∧ (x.toUInt32 >>> ((iI 1).toUInt32 &&& Int32.toUInt32 31)).toInt32 = iI z := by
  have h := pk_ushr x (iI 1) 1 (by decide +kernel)
  have hx := x.toBitVec.isLt
  refine ⟨((x.toBitVec.toNat / 2 ^ 1 : Nat) : Int), ⟨by omega, by omega⟩, ?_⟩
  rw [iI_nI]
  apply Int32.toBitVec_inj.mp
  apply BitVec.eq_of_toNat_eq
  rw [h, pk_tn (by omega)]
theorem lk_aret {G : Option Value → va_W → Prop} {bc : ByteArray} {nL mc ms pc x : Nat} {ls : Array Slot} {V : va_W} {C : String} (F : FL D A ad adV cA p l s m args c bc nL) (hlk : meth.locks = false) (hr : meth.sig.returnType = some (.object C)) (hw : WV D A s V H locs) (hG : G (some (.ref x)) V) (hc : cells ≤ mc) (hs : slots ≤ ms) (hd : decode bc pc = .ok (.areturn, 1)) : W p l e R s m args below meth c H locs cells slots (vx_MQ below (LQ D A G) (fun _ _ _ => False) args s mc ms A) (F0 m pc ls [.ref x]) :=
  W.widen hc hs (vx_ret (W.aret F.1 F.2.1 hr (Or.inl ⟨C, rfl⟩) (Or.inr ⟨x, rfl⟩) (fun t ht hW => ⟨_, V, rfl, hG, by rw [ht]; exact hw.1, hw.2.1, hw.2.2.F ht⟩) hw.2.2.2.2 hd hlk))
theorem lk_lret {G : Option Value → va_W → Prop} {bc : ByteArray} {nL mc ms pc : Nat} {ls : Array Slot} {V : va_W} {x : Int64} (F : FL D A ad adV cA p l s m args c bc nL) (hlk : meth.locks = false) (hr : meth.sig.returnType = some .long) (hw : WV D A s V H locs) (hG : G (some (.long x)) V) (hc : cells ≤ mc) (hs : slots ≤ ms) (hd : decode bc pc = .ok (.lreturn, 1)) : W p l e R s m args below meth c H locs cells slots (vx_MQ below (LQ D A G) (fun _ _ _ => False) args s mc ms A) (F0 m pc ls [.long x]) :=
  W.widen hc hs (vx_ret (W.lret F.1 F.2.1 hr (fun t ht hW => ⟨_, V, rfl, hG, by rw [ht]; exact hw.1, hw.2.1, hw.2.2.F ht⟩) hw.2.2.2.2 hd hlk))
end CEL
section CEM
variable {l : Launch} {D : va_G} {A : Nat → Prop} {ad adV : Nat → Nat} {cA : Nat → ClassId}
theorem cs_in : Jvm.Cond.constant RL 7 40503 ∈ lw_tbl := by decide +kernel
/-- a cell of the script: any int -/
theorem K_cell {V : va_W} {k : Int} (hl0 : l.stackTraces = false) (hk : 0 ≤ k ∧ k < 1000) : LK l D A ad adV cA (.code yL_cell method_2_code 2 (some .int)) yL_cell 1 0 0 [.ref (ad 99), .int (iI k)] V (fun v V' => (∃ x : Int32, v = some (.int x)) ∧ V' = V) := by
  refine lk_of hl0 rfl ?_ (Nat.le_of_ble_eq_true rfl)
  rintro p e s m args below meth c F hlk hrt hw ls hl
  have hl : lv_has ls 2 [(0, .ref (ad 99)), (1, .int (iI k))] := hl
  obtain ⟨hx, hb, hml, hown, hts, hK, hWX, hA, hN, ⟨-, -, -, L, xs, hL, hX, hbl, hbA⟩, -⟩ := id F
  refine lv_iload_n hx hb (k := 1) (i := 1) (x := iI k) (by decide +kernel) rfl (lv_at hl 1 rfl) ?_
  refine lv_aload_n hx hb (k := 0) (i := 0) (x := ad 99) (by decide +kernel) rfl (lv_at hl 0 rfl) ?_
  refine va_slen hx hb hX hbl hbA hw.2.2 (by decide +kernel) ?_
  have eL : Int32.ofNat L = iI (L : Int) := (iI_nI L).symm
  rw [eL]
  refine lz_icmp_ge hx hb (a := k) (b := (L : Int)) (off := 9) (tgt := 12) (by decide +kernel) (by decide) ⟨by omega, by omega⟩ ⟨by omega, by omega⟩ (fun h1 => ?_) (fun h1 => ?_)
  · refine lv_ldc hx hb hown (ts_of' hts cs_in rfl) (by decide +kernel) ?_
    refine lv_iload_n hx hb (k := 1) (i := 1) (x := iI k) (by decide +kernel) rfl (lv_at hl 1 rfl) ?_
    refine lz_imul hx hb (a := 40503) (b := k) (by decide +kernel) ?_
    exact lk_iret F hlk hrt hw rfl ⟨⟨_, rfl⟩, rfl⟩ (Nat.le_refl 0) (Nat.le_refl 0) (by decide +kernel)
  · refine lv_aload_n hx hb (k := 0) (i := 0) (x := ad 99) (by decide +kernel) rfl (lv_at hl 0 rfl) ?_
    refine lv_iload_n hx hb (k := 1) (i := 1) (x := iI k) (by decide +kernel) rfl (lv_at hl 1 rfl) ?_
    refine va_sld hx hb hX hbl hbA hw.2.2 (iI_in (n := L) ⟨by omega, by omega⟩ (by omega)).1 (by decide +kernel) ?_
    refine lv_goto hx hb (off := 7) (tgt := 16) (by decide +kernel) (by decide) ?_
    exact lk_iret F hlk hrt hw rfl ⟨⟨_, rfl⟩, rfl⟩ (Nat.le_refl 0) (Nat.le_refl 0) (by decide +kernel)
end CEM
