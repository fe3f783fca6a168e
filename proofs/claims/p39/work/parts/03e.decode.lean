/-! what the methods decode to, by their numbers; printed by wip/whole/gen.py -/
section FCE
def dchk (k : List CI) (m : MTT) : Bool := k.all (fun e => decide (decode m.2.1 e.1 = .ok (e.2.1, e.2.2)))
theorem dka_0 : ∀ j, j < 16 → dchk (KL0.getD j []) (MTL0.getD j MT0) = true := by
  intro j h
  match j, h with
  | 0, _ => exact dk0_objectionToFerry
  | 1, _ => exact dk0_objectionToTug
  | 2, _ => exact dk0_objectionToLock
  | 3, _ => exact dk0_objectionToFog
  | 4, _ => exact dk0_objectionToMove
  | 5, _ => exact dk0_objectionToPass
  | 6, _ => exact dk0_refuse
  | 7, _ => exact dk0_objectionTo
  | 8, _ => exact dk0_carryOut
  | 9, _ => exact dk1_outcomeOf
  | 10, _ => exact dk1_outcomeNow
  | 11, _ => exact dk1_detailOf
  | 12, _ => exact dk1_goesBy
  | 13, _ => exact dk1_goalOf
  | 14, _ => exact dk1_makeMove
  | 15, _ => exact dk1_worthOf
  | n + 16, h => exact absurd h (by omega)
theorem dka_1 : ∀ j, j < 16 → dchk (KL1.getD j []) (MTL1.getD j MT0) = true := by
  intro j h
  match j, h with
  | 0, _ => exact dk1_takeJumped
  | 1, _ => exact dk1_passTurn
  | 2, _ => exact dk1_movesOf
  | 3, _ => exact dk1_jumpsBy
  | 4, _ => exact dk1_movesByFerry
  | 5, _ => exact dk1_movesByPlace
  | 6, _ => exact dk1_comersTo
  | 7, _ => exact dk1_canLeave
  | 8, _ => exact dk1_capturesByJumper
  | 9, _ => exact dk1_capturesByJumped
  | 10, _ => exact dk1_jumpsOver
  | 11, _ => exact dk1_isToldAlike
  | 12, _ => exact dk1_mostPoints
  | 13, _ => exact dk1_wayToLock
  | 14, _ => exact dk1_bolderThan
  | 15, _ => exact dk1_boldness
  | n + 16, h => exact absurd h (by omega)
theorem dka_2 : ∀ j, j < 16 → dchk (KL2.getD j []) (MTL2.getD j MT0) = true := by
  intro j h
  match j, h with
  | 0, _ => exact dk1_fartherThan
  | 1, _ => exact dk1_wayCome
  | 2, _ => exact dk2_keep
  | 3, _ => exact dk2_putBack
  | 4, _ => exact dk3_writeRiver
  | 5, _ => exact dk3_writeFerry
  | 6, _ => exact dk3_letterOf
  | 7, _ => exact dk3_addPlace
  | 8, _ => exact dk3_add
  | 9, _ => exact dk3_has
  | 10, _ => exact dk3_signAt
  | 11, _ => exact dk4_keep
  | 12, _ => exact dk4_putAhead
  | 13, _ => exact dk4_reasonAt
  | 14, _ => exact dk4_detailAt
  | 15, _ => exact dk5_cell
  | n + 16, h => exact absurd h (by omega)
theorem dka_3 : ∀ j, j < 16 → dchk (KL3.getD j []) (MTL3.getD j MT0) = true := by
  intro j h
  match j, h with
  | 0, _ => exact dk5_setCell
  | 1, _ => exact dk5_take
  | 2, _ => exact dk5_copyTo
  | 3, _ => exact dk5_copyFrom
  | 4, _ => exact dk5_total
  | 5, _ => exact dk5_addToTotal
  | 6, _ => exact dk5_changeTurn
  | 7, _ => exact dk5_isFerry
  | 8, _ => exact dk5_number
  | 9, _ => exact dk5_setNumber
  | 10, _ => exact dk5_addToNumber
  | 11, _ => exact dk5_crownAtLock
  | 12, _ => exact dk5_sumOf
  | 13, _ => exact dk5_ferriesOf
  | 14, _ => exact dk5_whoIsAt
  | 15, _ => exact dk5_setWho
  | n + 16, h => exact absurd h (by omega)
theorem dka_4 : ∀ j, j < 16 → dchk (KL4.getD j []) (MTL4.getD j MT0) = true := by
  intro j h
  match j, h with
  | 0, _ => exact dk5_isFree
  | 1, _ => exact dk5_addTug
  | 2, _ => exact dk5_shiftTug
  | 3, _ => exact dk5_tugsOn
  | 4, _ => exact dk5_usesAt
  | 5, _ => exact dk5_setUses
  | 6, _ => exact dk5_tellUses
  | 7, _ => exact dk5_locksOn
  | 8, _ => exact dk5_fogBegin
  | 9, _ => exact dk5_fogWidth
  | 10, _ => exact dk5_tellFog
  | 11, _ => exact dk5_liesInFog
  | 12, _ => exact dk5_driftFog
  | 13, _ => exact dk5_addFerry
  | 14, _ => exact dk5_shiftFerry
  | 15, _ => exact dk5_removeFerry
  | n + 16, h => exact absurd h (by omega)
theorem dka_5 : ∀ j, j < 16 → dchk (KL5.getD j []) (MTL5.getD j MT0) = true := by
  intro j h
  match j, h with
  | 0, _ => exact dk5_hasFerriesInPlace
  | 1, _ => exact dk6_add
  | 2, _ => exact dk6_readOrders
  | 3, _ => exact dk6_orderAt
  | 4, _ => exact dk6_setOrder
  | 5, _ => exact dk6_readOrder
  | 6, _ => exact dk6_readShape
  | 7, _ => exact dk6_shapeOf
  | 8, _ => exact dk6_widthOf
  | 9, _ => exact dk6_wayAt
  | 10, _ => exact dk6_numberAt
  | 11, _ => exact dk6_signAt
  | 12, _ => exact dk6_isDigit
  | 13, _ => exact dk7_ferry
  | 14, _ => exact dk7_tug
  | 15, _ => exact dk7_lock
  | n + 16, h => exact absurd h (by omega)
theorem dka_6 : ∀ j, j < 16 → dchk (KL6.getD j []) (MTL6.getD j MT0) = true := by
  intro j h
  match j, h with
  | 0, _ => exact dk7_fog
  | 1, _ => exact dk7_move
  | 2, _ => exact dk7_pass
  | 3, _ => exact dk7_ferryOf
  | 4, _ => exact dk7_at
  | 5, _ => exact dk7_lockAt
  | 6, _ => exact dk7_isFog
  | 7, _ => exact dk7_turn
  | 8, _ => exact dk7_would
  | 9, _ => exact dk7_why
  | 10, _ => exact dk7_to
  | 11, _ => exact dk7_moves
  | 12, _ => exact dk7_captures
  | 13, _ => exact dk7_isThreatened
  | 14, _ => exact dk7_gain
  | 15, _ => exact dk7_best
  | n + 16, h => exact absurd h (by omega)
theorem dka_7 : ∀ j, j < 16 → dchk (KL7.getD j []) (MTL7.getD j MT0) = true := by
  intro j h
  match j, h with
  | 0, _ => exact dk7_toLock
  | 1, _ => exact dk7_boldest
  | 2, _ => exact dk7_farthest
  | 3, _ => exact dk7_riverLine
  | 4, _ => exact dk7_ferryLine
  | 5, _ => exact dk7_character
  | 6, _ => exact dk7_append
  | 7, _ => exact dk7_run
  | 8, _ => exact dk7_refusal
  | 9, _ => exact dk7_account
  | 10, _ => exact dk7_isWell
  | 11, _ => exact dk7_undo
  | 12, _ => exact dk7_gainBy
  | 13, _ => exact dk7_numberOfMove
  | 14, _ => exact dk7_needNone
  | 15, _ => exact dk7_needFerry
  | n + 16, h => exact absurd h (by omega)
theorem dka_8 : ∀ j, j < 8 → dchk (KL8.getD j []) (MTL8.getD j MT0) = true := by
  intro j h
  match j, h with
  | 0, _ => exact dk7_needFerryAndRiver
  | 1, _ => exact dk7_needSpot
  | 2, _ => exact dk7_needSide
  | 3, _ => exact dk7_isSide
  | 4, _ => exact dk7_isRiver
  | 5, _ => exact dk7_isPlace
  | 6, _ => exact dk7_isMove
  | 7, _ => exact dk7_stepTo
  | n + 8, h => exact absurd h (by omega)
theorem dka : ∀ i, i < NM → dchk (mK i) (mt i) = true := by
  intro i hi
  have hi : i < 136 := hi
  have e : ∀ a b, a = i / 16 → b = i % 16 → dchk ((KL.getD a []).getD b []) ((MTL.getD a []).getD b MT0) = true := by
    intro a b ha hb
    match a, ha with
    | 0, ha => exact dka_0 b (by omega)
    | 1, ha => exact dka_1 b (by omega)
    | 2, ha => exact dka_2 b (by omega)
    | 3, ha => exact dka_3 b (by omega)
    | 4, ha => exact dka_4 b (by omega)
    | 5, ha => exact dka_5 b (by omega)
    | 6, ha => exact dka_6 b (by omega)
    | 7, ha => exact dka_7 b (by omega)
    | 8, ha => exact dka_8 b (by omega)
    | n + 9, ha => exact absurd ha (by omega)
  exact e _ _ rfl rfl
theorem mdec {i : Nat} (hi : i < NM) {e : CI} (he : e ∈ mK i) : decode (mB i) e.1 = .ok (e.2.1, e.2.2) := of_decide_eq_true (List.all_eq_true.mp (dka i hi) e he)
end FCE
