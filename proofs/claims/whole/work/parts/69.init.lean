/-! the start: both sides new -/
section INI
def row0 : Nat → Int := fun j => if 48 ≤ j ∧ j < 72 then -1 else 0
def tau0 : SZ := fun a => if a = 4 ∨ a = 5 ∨ a = 6 then row0 else if a = 16 then (fun k => if k = 4 then -1 else 0) else if a = 21 then (fun k => if k = 17 then -1 else 0) else fun _ => 0
theorem cel0 (z : Int) : cel row0 z = if 48 ≤ z ∧ z < 72 then -1 else 0 := by
  unfold cel row0
  by_cases h : 0 ≤ z ∧ z < 109
  · rw [if_pos h]
    by_cases g : 48 ≤ z ∧ z < 72
    · rw [if_pos g, if_pos (by omega)]
    · rw [if_neg g, if_neg (by omega)]
  · rw [if_neg h, if_neg (by omega)]
theorem row0_tz : Tz row0 := fun k hk => if_neg (by omega)
theorem row0_sh : Sh 100 row0 := by
  refine ⟨⟨⟨fun k => ?_, row0_tz⟩, by omega, by omega⟩, fun z h0 h1 => ?_⟩
  · unfold row0
    split <;> omega
  · rw [cel0]
    unfold lo hi
    refine ⟨?_, ?_⟩ <;> (repeat (first | omega | split))
theorem row0_co : Co row0 := by
  intro r h0 h1
  refine ⟨fun f f0 f1 => ?_, fun p p0 p1 => Or.inl ?_⟩
  · rw [cel0, if_neg (by omega)] at f1
    omega
  · rw [cel0, if_pos (by omega)]
theorem row0_iv : Iv 100 row0 := ⟨row0_sh, row0_co, by rw [cel0, cel0, cel0, if_neg (by omega), if_neg (by omega), if_neg (by omega)]; rfl⟩
theorem row0_tg : Tg row0 := by
  intro r h0 h1
  have e : tgs row0 r = tgs (fun _ => 0) r := tgs_of fun p p0 p1 => by
    rw [cel0, if_pos (by omega)]
    unfold cel
    split
    · exact ⟨fun h => absurd h (by decide), fun h => absurd (show (0 : Int) = 8 from h) (by decide)⟩
    · exact ⟨fun h => absurd h (by decide), fun h => absurd (show (0 : Int) = 8 from h) (by decide)⟩
  rw [e]
  rcases (show r = 0 ∨ r = 1 by omega) with rfl | rfl <;> decide
theorem row0_rs : Rs row0 (fun _ => 0) := by
  refine ⟨fun i i0 i1 => ?_, fun _ _ => rfl⟩
  rw [cel0, if_neg (by omega)] at i1
  show (0 : Int) = ob row0 i
  unfold ob
  split
  next h =>
    rw [cel0]
    unfold b2
    split <;> split <;> omega
  next h =>
    rw [cel0, if_neg]
    unfold oc
    repeat (first | omega | split)
theorem WL_0 : WL 100 tau0 := by
  refine ⟨⟨row0_iv, row0_tg, row0_rs⟩, ⟨⟨by decide, by decide⟩, ⟨by decide, by decide⟩, by decide, fun i i0 i1 => ?_⟩, ⟨row0_tz, fun _ _ => rfl, by decide, ⟨by decide, by decide⟩, fun h => ?_⟩, ⟨[], by decide, by decide, fun i hi => absurd hi (Nat.not_lt_zero i), fun i hi => ⟨rfl, fun h => absurd h (Nat.not_lt_zero i)⟩, fun i => ⟨(by decide : (-1000 : Int) ≤ 0), (by decide : (0 : Int) ≤ 1000)⟩⟩, ⟨by decide, ⟨by decide, by decide⟩, fun i => ⟨(by decide : (0 : Int) ≤ 0), (by decide : (0 : Int) < 65536)⟩, fun i => ⟨(by decide : (0 : Int) ≤ 0), (by decide : (0 : Int) < 65536)⟩, fun i hi => rfl, fun k => ⟨(by decide : (0 : Int) ≤ 0), (by decide : (0 : Int) ≤ 99)⟩, by decide⟩, ⟨by decide, ⟨by decide, by decide⟩, fun i => ⟨(by decide : (0 : Int) ≤ 0), (by decide : (0 : Int) < 65536)⟩, fun i => ⟨(by decide : (0 : Int) ≤ 0), (by decide : (0 : Int) < 65536)⟩, fun i hi => rfl⟩, ⟨row0_tz, fun _ _ => rfl, fun _ _ => rfl⟩⟩
  · have : tau0 14 2 = 0 := by decide
    omega
  · have : tau0 0 9 = 0 := by decide
    omega
end INI
