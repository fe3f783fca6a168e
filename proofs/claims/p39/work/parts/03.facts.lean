/-! facts of the tables, decided by program -/
section FCT
def chn : List CI → Bool
  | [] => true
  | [_] => true
  | a :: b :: l => Nat.beq b.1 (a.1 + a.2.2) && chn (b :: l)
def cq (c : Nat) : vw_C := cls9.getD c (RX0, TX0, 0)
def wrm : Jvm.Cond → Bool
  | .fieldLinkNest .. | .methodLinkNest .. | .declares .. | .castable .. => true
  | _ => false
def exN : List String := ["java/lang/RuntimeException", "java/lang/Exception"]
def mchk (m : MTT) : Bool :=
  Nat.blt m.2.2.2.2.1 9 && (decide ((cq m.2.2.2.2.1).1 = m.1.cls) && (decide ((parseMethodDescriptor m.1.desc).map (fun d => d.parameters.length) = some m.2.2.2.2.2.2.1) && Nat.ble m.2.2.1 20))
theorem rg_all {f : Nat → Bool} {n k : Nat} (h : (List.range n).all f = true) (hk : k < n) : f k = true := List.all_eq_true.mp h k (List.mem_range.mpr hk)
theorem lkp_mem {α : Type} : ∀ {l : List (Nat × α)} {k : Nat} {b : α}, lkp l k = some b → (k, b) ∈ l
  | [], _, _, h => nomatch h
  | (a, c) :: l, k, b, h => by
    unfold lkp at h
    cases e : Nat.beq a k with
    | true =>
      rw [e] at h
      cases Nat.eq_of_beq_eq_true e
      cases h
      exact List.mem_cons_self
    | false =>
      rw [e] at h
      exact List.mem_cons_of_mem _ (lkp_mem h)
def fchk (c : Nat) (e : Nat × Nat × Nat × Bool × Nat) : Bool :=
  Nat.blt e.2.1 9 && (Nat.blt e.2.2.1 (cq e.2.1).2.2 && (decide (((cq e.2.1).2.1 e.2.2.1).1 = (cq e.2.1).1) &&
  decide (lw_tbl[e.2.2.2.2]? = some (cond e.2.2.2.1 (Jvm.Cond.fieldLinkNest (cq c).1 e.1 (cq e.2.1).1 ((cq e.2.1).2.1 e.2.2.1).2.1 ((cq e.2.1).2.1 e.2.2.1).2.2.1 "FerryDraughts") (Jvm.Cond.fieldLink (cq c).1 e.1 (cq e.2.1).1 ((cq e.2.1).2.1 e.2.2.1).2.1 ((cq e.2.1).2.1 e.2.2.1).2.2.1)))))
theorem fchk_all : (List.range 9).all (fun c => (FTL.getD c []).all (fun e => fchk c e)) = true := by decide +kernel
theorem fT_ok {c idx : Nat} {x : Nat × Nat × Bool × Nat} (hc : c < 9) (h : fT c idx = some x) : fchk c (idx, x) = true := List.all_eq_true.mp (rg_all fchk_all hc) _ (lkp_mem h)
def vchk (c : Nat) (e : Nat × Nat × Bool × Nat × Nat × Nat) : Bool :=
  Nat.blt e.2.1 NM && (decide (lw_tbl[e.2.2.2.1]? = some (cond e.2.2.1 (Jvm.Cond.methodLinkNest (cq c).1 e.1 (mY e.2.1) "FerryDraughts") (Jvm.Cond.methodLink (cq c).1 e.1 (mY e.2.1)))) &&
  (cond (mS e.2.1) (decide (lw_tbl[e.2.2.2.2.1]? = some (Jvm.Cond.static (mY e.2.1))) && (e.2.2.1 || decide ((mY e.2.1).cls = (cq c).1)))
    (decide (lw_tbl[e.2.2.2.2.1]? = some (Jvm.Cond.instanceMethod (mY e.2.1))) && (!e.2.2.1 && decide (lw_tbl[e.2.2.2.2.2]? = some (Jvm.Cond.selects (mY e.2.1).cls (mY e.2.1) (mY e.2.1)))))))
theorem vchk_all : (List.range 9).all (fun c => (VTL.getD c []).all (fun e => vchk c e)) = true := by decide +kernel
theorem vT_ok {c idx : Nat} {x : Nat × Bool × Nat × Nat × Nat} (hc : c < 9) (h : vT c idx = some x) : vchk c (idx, x) = true := List.all_eq_true.mp (rg_all vchk_all hc) _ (lkp_mem h)
def ichk (c : Nat) : Bool := decide (lw_tbl[IPL.getD c 0]? = some (Jvm.Cond.initialized (cq c).1)) && (decide (plainName (cq c).1) && (List.range (cq c).2.2).all (fun k => decide (lw_tbl[(UPL.getD c []).getD k 0]? = some (u_lay (cq c).1 (cq c).2.1 k))))
theorem ichk_all : (List.range 9).all ichk = true := by decide +kernel
def pchk (c : Nat) : Bool := (List.range 21).all (fun k => match (PTL.getD c []).getD k 2 with
  | 0 => decide (parseFieldDescriptor ((cq c).2.1 k).2.2.1 = some .int) && !((cq c).2.1 k).2.2.2
  | 1 => decide (parseFieldDescriptor ((cq c).2.1 k).2.2.1 = some .boolean) && !((cq c).2.1 k).2.2.2
  | _ => true) && Nat.ble (PTL.getD c []).length 21
theorem pchk_all : (List.range 9).all pchk = true := by decide +kernel
def xchk (c : Nat) (e : Nat × Nat × String × Nat) : Bool :=
  decide (lw_tbl[e.2.2.2]? = some (Jvm.Cond.classLink (cq c).1 e.1 e.2.2.1)) && (decide (Jvm.Cond.initialized e.2.2.1 ∈ lw_tbl) && (Bundle.fit e.2.2.1 && (exN.all (fun n => Bundle.fit n) &&
  (vx_at0 (cq c).1 e.2.1 e.2.2.1 exN).all (fun w => decide (w ∈ lw_tbl) && ((goodWord w || wrm w) && vx_ot w)))))
theorem xchk_all : (List.range 9).all (fun c => (XTL.getD c []).all (fun e => xchk c e)) = true := by decide +kernel
theorem xT_ok {c idx : Nat} {x : Nat × String × Nat} (hc : c < 9) (h : xT c idx = some x) : xchk c (idx, x) = true := List.all_eq_true.mp (rg_all xchk_all hc) _ (lkp_mem h)
def schk (c : Nat) (e : Nat × Nat × Nat) : Bool := match e.2.1 with
  | 0 => decide (lw_tbl[e.2.2]? = some (Jvm.Cond.methodLink (cq c).1 e.1 arraycopyName))
  | 1 => decide (lw_tbl[e.2.2]? = some (Jvm.Cond.methodLink (cq c).1 e.1 Lib.Math.max.name))
  | 2 => decide (lw_tbl[e.2.2]? = some (Jvm.Cond.methodLink (cq c).1 e.1 Lib.Math.min.name))
  | 3 => decide (lw_tbl[e.2.2]? = some (Jvm.Cond.methodLink (cq c).1 e.1 ⟨"java/lang/String", "length", "()I"⟩))
  | 4 => decide (lw_tbl[e.2.2]? = some (Jvm.Cond.methodLink (cq c).1 e.1 ⟨"java/lang/String", "charAt", "(I)C"⟩))
  | _ => false
theorem schk_all : (List.range 9).all (fun c => (STL.getD c []).all (fun e => schk c e)) = true := by decide +kernel
theorem sT_ok {c idx : Nat} {x : Nat × Nat} (hc : c < 9) (h : sT c idx = some x) : schk c (idx, x) = true := List.all_eq_true.mp (rg_all schk_all hc) _ (lkp_mem h)
theorem lib_in : ∀ w ∈ [Jvm.Cond.native arraycopyName, Jvm.Cond.static arraycopyName, Jvm.Cond.initialized "java/lang/System", Jvm.Cond.static Lib.Math.max.name, Jvm.Cond.static Lib.Math.min.name, Jvm.Cond.initialized "java/lang/Math", Jvm.Cond.code Lib.Math.max.name Lib.Math.max.code 2 (some .int), Jvm.Cond.code Lib.Math.min.name Lib.Math.min.code 2 (some .int)], w ∈ lw_tbl := by decide +kernel
def lchk (c : Nat) (e : Nat × Nat) : Bool := decide (Jvm.Cond.stringRef (cq c).1 e.1 (STT.getD e.2 "") ∈ lw_tbl) && Nat.blt e.2 19
theorem lchk_all : (List.range 9).all (fun c => (LTL.getD c []).all (fun e => lchk c e)) = true := by decide +kernel
def shk (q : SHP) : Bool := match q with
  | .inl (ci, fs) => Nat.blt ci 9 && decide (fs.length = (cq ci).2.2)
  | .inr (t, n) => Nat.ble t 1 && Nat.ble n 1000
theorem shk_all : SH.all shk = true := by decide +kernel
def TS : List Jvm.Cond := lw_tbl.filter goodWord
theorem TS_mem {w : Jvm.Cond} (h : w ∈ lw_tbl) (g : goodWord w = true) : w ∈ TS := List.mem_filter.mpr ⟨h, g⟩
theorem TS_good : ∀ w ∈ TS, goodWord w = true := fun _ h => (List.mem_filter.mp h).2
theorem TS_pl {p : Nat} {w : Jvm.Cond} (h : decide (lw_tbl[p]? = some w) = true) (g : goodWord w = true) : w ∈ TS := TS_mem (List.mem_of_getElem? (of_decide_eq_true h)) g
end FCT
