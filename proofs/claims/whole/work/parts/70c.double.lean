/-! the calls of doubles: the wrappers -/
section DBW
variable {p : Program} {l : Launch} {e : Env} {R : Room} {s : State} {m : MethodId} {args : Array Value} {below : List Frame} {meth : Method} {c : Code} {H : Heap} {locs : List Loc} {cells slots : Nat} {Q : State → Prop}
variable {D : va_G} {A : Nat → Prop} {ad adV : Nat → Nat} {cA : Nat → ClassId}
/-- a call of a method of doubles -/
theorem dc_call {x pc nL n a j : Nat} {y : MethodName} {bc cc : ByteArray} {ret : FieldType} {V : va_W} {G : Value → va_W → Prop} {XE : Prop} {own : String} {ls : Array Slot} {rest st0 : List Value} {fs : List (Option Nat)} {σ : Sg} {X : va_W} {ci : Nat} (hM : DC l D A ad adV cA y bc nL ret [.ref (ad a)] V G XE) (hV : V = wO ad cA σ ++ X) (hci : ci < 9) (hcl : (cq ci).1 = y.cls) (hsh : SH[a]? = some (.inl (ci, fs)))
    (hx : p.tables.exec = Jvm.exec) (hts : ∀ w ∈ TS, w.before args s = true) (hb : c.code = cc) (hown : s.vm.findClass own = some m.cls) (hw : va_P D cls9 V H) (hD : va_D A V) (hK : va_K D cls9 (tyL cA) s) (hWX : WX A ad adV s s.heap) (hA : ∀ q, s.heap.size ≤ q → A q) (hN : NC s) (hS : va_S A s.heap H locs) (hl : ls.size = c.maxLocals)
    (hlink : Jvm.Cond.methodLink own x y ∈ lw_tbl) (h1 : Jvm.Cond.instanceMethod y ∈ lw_tbl) (h2 : Jvm.Cond.selects y.cls y y ∈ lw_tbl) (h4 : Jvm.Cond.code y bc nL (some ret) ∈ lw_tbl)
    (hy : (parseMethodDescriptor y.desc).map (fun d => d.parameters.length) = some 0)
    (hR : 15 ≤ R.frames ∧ 8 + (nL + 11) + 900 ≤ R.locals ∧ cells + 1 ≤ R.cells ∧ slots + 6 ≤ R.slots) (h8 : (rest.map fun v => v.category).sum ≤ 8) (hd : decode cc pc = .ok (.invokevirtual x, 3)) (hst : st0 = .ref (ad a) :: rest)
    (kx : XE → ∀ (ce : Cell) (q9 : Addr) (H1 : Heap) (locs1 : List Loc), va_P D cls9 V H1 → va_S A s.heap H1 locs1 → H1[q9]? = some ce → ce.vm = .none → s.vm.findClass AEx = some ce.cls → vx_W p l e R s m args below meth c H1 locs1 (cells + 1) (slots + 6) Q (F0 m pc ls rest) q9)
    (kk : ∀ (v : Value) (V' : va_W), G v V' → ∀ (H1 : Heap) (locs1 : List Loc), va_P D cls9 V' H1 → va_D A V' → va_S A s.heap H1 locs1 → W p l e R s m args below meth c H1 locs1 (cells + 1) (slots + 6) Q (F0 m (pc + 3) ls (v :: rest))) : W p l e R s m args below meth c H locs cells slots Q (F0 m pc ls st0) := by
  subst hV
  have hG : GoodIn TS (Jvm.Cond.code y bc nL (some ret) :: TS) := by
    intro w hw
    rcases List.mem_cons.mp hw with rfl | hw
    · exact good_TS' (TS_mem h4 rfl)
    · exact good_TS' hw
  have hrecv := va_recv hK (vP_l hw) (cq_get hci) (wO_get (ad := ad) (cA := cA) (σ := σ) hsh)
  have hcb : CallB R s args own x y bc nL (some ret) (Jvm.Cond.code y bc nL (some ret) :: TS) { frames := 14, cells := 1, slots := 6, locals := 900 } 1 6 0 := callB_of 0 hts hG rfl rfl rfl (hts _ (by rw [← hcl]; exact (c_plain hci).2.1)) (ts_of hts hlink rfl) ⟨by rw [← hcl]; exact (c_handle hci).1, by rw [← hcl]; exact (c_handle hci).2, hy⟩ ⟨hR.1, hR.2.1⟩
  have hr := vx_runV (l := l) (e := e) (below := below) (meth := meth) (H := H) (locs := locs) (cells := cells) (slots := slots) (Ts := TS) (C := y.cls) (b := ad a) (As := []) (rest := rest) (g := F0 m pc ls st0) ⟨hx, hb, rfl, hown, hts⟩ hM ⟨hcb, ts_of hts h1 rfl, ts_of hts h2 rfl⟩ ⟨IL_blind, by rw [← hcl]; exact hrecv, IL_pre hw hD hK hWX hA hN hS⟩ rfl rfl hl hst (lv_room h8) hd hR.2.2
  intro T hT X9
  rcases hr T hT X9 with ⟨v, st₀, t, T', L, h0, X', hL, e1, e2, ⟨v1, V', hv, hGv, hP, hD', hF⟩, st⟩ | ⟨q, st₀, t, T', L, E, ce, h0, X', hL, e1, e2, ⟨⟨hXE, hE⟩, hP, hF⟩, hce, hcv, hcl9, st⟩
  · cases hv
    obtain ⟨k1, k2, k3⟩ := vx_keep (A1 := A) (free := A) h0 e1 hS (fun q _ h => h) (fun _ h => h) hL hF
    obtain ⟨t2, a1, b1⟩ := kk v1 V' hGv T'.heap (locs ++ L) (by rw [e1]; exact hP) hD' k3 T' rfl X'
    exact ⟨t2, st t2 a1, b1⟩
  · subst hE
    obtain ⟨k1, k2, k3⟩ := vx_keep (A1 := A) (free := A) h0 e1 hS (fun q _ h => h) (fun _ h => h) hL hF
    obtain ⟨t2, a1, b1⟩ := kx hXE ce q T'.heap (locs ++ L) (by rw [e1]; exact hP) k3 (by rw [e1]; exact hce) hcv hcl9 T' rfl X'
    exact ⟨t2, st.trans a1, b1⟩
end DBW
